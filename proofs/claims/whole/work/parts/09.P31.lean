/-! 09.P31: a clause, by itself and in the class -/
def zC0 : ZC := (0, 0, 0, [])
abbrev ZQ : Type := Bool × Nat × ZC
def spFg (x : Int) : Int32 := Int32.ofInt (x - 48)
def spLate (c : Nat → Int) (b : Nat) : ZQ := if c b = 32 then (match spNum c (b + 1) with | none => (false, b + 1, zC0) | some q => (true, q.2, (2, 0, Int32.ofInt q.1, []))) else (false, b, zC0)
def spHears (c : Nat → Int) (b : Nat) : ZQ := if c b = 32 then (if 48 ≤ c (b + 1) ∧ c (b + 1) ≤ 57 then (if c (b + 2) = 32 then (if 48 ≤ c (b + 3) ∧ c (b + 3) ≤ 49 then (if c (b + 4) = 32 then (if 48 ≤ c (b + 5) ∧ c (b + 5) ≤ 57 then (true, b + 6, (3, 16 * spFg (c (b + 1)) + spFg (c (b + 3)), spFg (c (b + 5)), [])) else (false, b + 5, zC0)) else (false, b + 4, zC0)) else (false, b + 3, zC0)) else (false, b + 2, zC0)) else (false, b + 1, zC0)) else (false, b, zC0)
def spSwap (c : Nat → Int) (b : Nat) : ZQ := if c b = 32 then (if 48 ≤ c (b + 1) ∧ c (b + 1) ≤ 57 then (if c (b + 2) = 32 then (if 48 ≤ c (b + 3) ∧ c (b + 3) ≤ 57 then (true, b + 4, (4, 16 * spFg (c (b + 1)), spFg (c (b + 3)), [])) else (false, b + 3, zC0)) else (false, b + 2, zC0)) else (false, b + 1, zC0)) else (false, b, zC0)
def spEar (c : Nat → Int) (n i b : Nat) : ZQ := if c b = 32 then (match spNum c (b + 1) with | none => (false, b + 1, zC0) | some q => if c q.2 = 32 then (if (spTop c n (q.2 + 1)).1 = true then (true, (spTop c n (q.2 + 1)).2.1, (Int32.ofNat i, 0, Int32.ofInt q.1, (spTop c n (q.2 + 1)).2.2)) else (false, (spTop c n (q.2 + 1)).2.1, zC0)) else (false, q.2, zC0)) else (false, b, zC0)
def spBody (c : Nat → Int) (n i b : Nat) : ZQ := if i = 2 then spLate c b else if i = 3 then spHears c b else if i = 4 then spSwap c b else spEar c n i b
def spC (c : Nat → Int) (n a : Nat) : ZQ := if spP c a = (zwl (spSel c a)).length then spBody c n (spSel c a) (a + spP c a) else (false, a + spP c a, zC0)
def zGz (c : ZC) : Prop := (zrg 0 4 c.1 ∧ zrg 0 99 c.2.2.1 ∧ ((c.1 = 3 ∨ c.1 = 4) → zrg 0 9 c.2.2.1)) ∧ (zee c = true → zwf c.2.2.2)
def zGc (n a : Nat) (r : ZQ) : Prop := (a < r.2.1 ∧ r.2.1 ≤ n) ∧ zGz r.2.2 ∧ r.2.2.2.2.2.length + a ≤ r.2.1
theorem zGz_p {w o d : Int32} (hw : w = 2 ∨ w = 3 ∨ w = 4) (h9 : zrg 0 99 d) (h : w = 2 ∨ zrg 0 9 d) : zGz (w, o, d, []) := by
  refine ⟨⟨?_, h9, ?_⟩, ?_⟩
  · show zrg 0 4 w
    rcases hw with rfl | rfl | rfl <;> exact ⟨by decide, by decide⟩
  · intro q
    rcases h with rfl | h
    · have q' : (2 : Int32) = 3 ∨ (2 : Int32) = 4 := q
      exact absurd q' (by decide)
    · exact h
  · intro q
    have q' : w = 0 ∨ w = 1 := of_decide_eq_true q
    rcases hw with rfl | rfl | rfl <;> exact absurd q' (by decide)
theorem zGz_e {w o d : Int32} {T : List Int32} (hw : w = 0 ∨ w = 1) (h9 : zrg 0 99 d) (hT : zwf T) : zGz (w, o, d, T) := by
  refine ⟨⟨?_, h9, ?_⟩, fun _ => hT⟩
  · show zrg 0 4 w
    rcases hw with rfl | rfl <;> exact ⟨by decide, by decide⟩
  · intro q
    have q' : w = 3 ∨ w = 4 := q
    rcases hw with rfl | rfl <;> exact absurd q' (by decide)
theorem spFg_I {x : Int} (h : 48 ≤ x ∧ x ≤ 57) : (spFg x).toInt = x - 48 := ofInt_rg (by omega) (by omega)
theorem spBody_gd {c : Nat → Int} {n : Nat} (hc : ∀ k, n ≤ k → c k = -1) {i : Nat} (hi : i < 5) (b : Nat) (h : (spBody c n i b).1 = true) : zGc n b (spBody c n i b) := by
  unfold spBody at h ⊢
  by_cases i2 : i = 2
  · rw [if_pos i2] at h ⊢
    unfold spLate at h ⊢
    by_cases e1 : c b = 32
    · rw [if_pos e1] at h ⊢
      cases hq : spNum c (b + 1) with
      | none => rw [hq] at h; exact Bool.noConfusion h
      | some q =>
        obtain ⟨d, a'⟩ := q
        obtain ⟨g1, g2, g3, g4⟩ := spNum_rg hc hq
        have e := ofInt_rg (x := d) (by omega) (by omega)
        exact ⟨⟨by show b < a'; omega, g3⟩, zGz_p (Or.inl rfl) (show zrg 0 99 (Int32.ofInt d) from ⟨by omega, by omega⟩) (Or.inl rfl), by show 0 + b ≤ a'; omega⟩
    · rw [if_neg e1] at h
      exact Bool.noConfusion h
  · rw [if_neg i2] at h ⊢
    by_cases i3 : i = 3
    · rw [if_pos i3] at h ⊢
      unfold spHears at h ⊢
      by_cases e1 : c b = 32
      · rw [if_pos e1] at h ⊢
        by_cases e2 : 48 ≤ c (b + 1) ∧ c (b + 1) ≤ 57
        · rw [if_pos e2] at h ⊢
          by_cases e3 : c (b + 2) = 32
          · rw [if_pos e3] at h ⊢
            by_cases e4 : 48 ≤ c (b + 3) ∧ c (b + 3) ≤ 49
            · rw [if_pos e4] at h ⊢
              by_cases e5 : c (b + 4) = 32
              · rw [if_pos e5] at h ⊢
                by_cases e6 : 48 ≤ c (b + 5) ∧ c (b + 5) ≤ 57
                · rw [if_pos e6] at h ⊢
                  have e := spFg_I e6
                  have hn : b + 5 < n := c_lt hc (by omega)
                  exact ⟨⟨by show b < b + 6; omega, hn⟩, zGz_p (Or.inr (Or.inl rfl)) ⟨by omega, by omega⟩ (Or.inr ⟨by omega, by omega⟩), by show 0 + b ≤ b + 6; omega⟩
                · rw [if_neg e6] at h
                  exact Bool.noConfusion h
              · rw [if_neg e5] at h
                exact Bool.noConfusion h
            · rw [if_neg e4] at h
              exact Bool.noConfusion h
          · rw [if_neg e3] at h
            exact Bool.noConfusion h
        · rw [if_neg e2] at h
          exact Bool.noConfusion h
      · rw [if_neg e1] at h
        exact Bool.noConfusion h
    · rw [if_neg i3] at h ⊢
      by_cases i4 : i = 4
      · rw [if_pos i4] at h ⊢
        unfold spSwap at h ⊢
        by_cases e1 : c b = 32
        · rw [if_pos e1] at h ⊢
          by_cases e2 : 48 ≤ c (b + 1) ∧ c (b + 1) ≤ 57
          · rw [if_pos e2] at h ⊢
            by_cases e3 : c (b + 2) = 32
            · rw [if_pos e3] at h ⊢
              by_cases e6 : 48 ≤ c (b + 3) ∧ c (b + 3) ≤ 57
              · rw [if_pos e6] at h ⊢
                have e := spFg_I e6
                have hn : b + 3 < n := c_lt hc (by omega)
                exact ⟨⟨by show b < b + 4; omega, hn⟩, zGz_p (Or.inr (Or.inr rfl)) ⟨by omega, by omega⟩ (Or.inr ⟨by omega, by omega⟩), by show 0 + b ≤ b + 4; omega⟩
              · rw [if_neg e6] at h
                exact Bool.noConfusion h
            · rw [if_neg e3] at h
              exact Bool.noConfusion h
          · rw [if_neg e2] at h
            exact Bool.noConfusion h
        · rw [if_neg e1] at h
          exact Bool.noConfusion h
      · rw [if_neg i4] at h ⊢
        have i01 : Int32.ofNat i = 0 ∨ Int32.ofNat i = 1 := by
          rcases (show i = 0 ∨ i = 1 by omega) with rfl | rfl
          · exact Or.inl rfl
          · exact Or.inr rfl
        unfold spEar at h ⊢
        by_cases e1 : c b = 32
        · rw [if_pos e1] at h ⊢
          cases hq : spNum c (b + 1) with
          | none => rw [hq] at h; exact Bool.noConfusion h
          | some q =>
            obtain ⟨d, a'⟩ := q
            obtain ⟨g1, g2, g3, g4⟩ := spNum_rg hc hq
            have e := ofInt_rg (x := d) (by omega) (by omega)
            rw [hq] at h
            by_cases e2 : c a' = 32
            · have h' : (if c a' = 32 then (if (spTop c n (a' + 1)).1 = true then (true, (spTop c n (a' + 1)).2.1, (Int32.ofNat i, 0, Int32.ofInt d, (spTop c n (a' + 1)).2.2)) else (false, (spTop c n (a' + 1)).2.1, zC0)) else ((false, a', zC0) : ZQ)).1 = true := h
              show zGc n b (if c a' = 32 then (if (spTop c n (a' + 1)).1 = true then (true, (spTop c n (a' + 1)).2.1, (Int32.ofNat i, 0, Int32.ofInt d, (spTop c n (a' + 1)).2.2)) else (false, (spTop c n (a' + 1)).2.1, zC0)) else ((false, a', zC0) : ZQ))
              rw [if_pos e2] at h' ⊢
              by_cases e3 : (spTop c n (a' + 1)).1 = true
              · rw [if_pos e3]
                obtain ⟨k1, ⟨k2, k3⟩, k4, k5⟩ := spTop_gd hc (a' + 1) e3
                exact ⟨⟨by show b < (spTop c n (a' + 1)).2.1; omega, k3⟩, zGz_e i01 ⟨by omega, by omega⟩ ⟨k4, k5 0 (by omega)⟩, by show (spTop c n (a' + 1)).2.2.length + b ≤ (spTop c n (a' + 1)).2.1; omega⟩
              · rw [if_neg e3] at h'
                exact Bool.noConfusion h'
            · have h' : (if c a' = 32 then (if (spTop c n (a' + 1)).1 = true then (true, (spTop c n (a' + 1)).2.1, (Int32.ofNat i, 0, Int32.ofInt d, (spTop c n (a' + 1)).2.2)) else (false, (spTop c n (a' + 1)).2.1, zC0)) else ((false, a', zC0) : ZQ)).1 = true := h
              rw [if_neg e2] at h'
              exact Bool.noConfusion h'
        · rw [if_neg e1] at h
          exact Bool.noConfusion h
theorem spC_gd {c : Nat → Int} {n : Nat} (hc : ∀ k, n ≤ k → c k = -1) (a : Nat) (h : (spC c n a).1 = true) : zGc n a (spC c n a) := by
  unfold spC at h ⊢
  by_cases e : spP c a = (zwl (spSel c a)).length
  · rw [if_pos e] at h ⊢
    obtain ⟨⟨g1, g2⟩, g3, g5⟩ := spBody_gd hc (spSel_lt c a) (a + spP c a) h
    exact ⟨⟨by omega, g2⟩, g3, by omega⟩
  · rw [if_neg e] at h
    exact Bool.noConfusion h
theorem zlast_app (C : List ZC) (c : ZC) (w o d : Int32) : zlast (C ++ [c]) w o d = if c.1 = w ∧ c.2.1 = o then c.2.2.1 else zlast C w o d := by
  unfold zlast
  rw [List.foldl_append]
  rfl
theorem flt_no {c : ZC} (h : zee c = false) (C : List ZC) : (C ++ [c]).filter zee = C.filter zee := by
  rw [List.filter_append, List.filter_cons_of_neg (by rw [h]; decide), List.filter_nil, List.append_nil]
theorem flt_yes {c : ZC} (h : zee c = true) (C : List ZC) : (C ++ [c]).filter zee = C.filter zee ++ [c] := by
  rw [List.filter_append, List.filter_cons_of_pos h, List.filter_nil]
theorem RHv_no {C : List ZC} {h h' : SH} {c : ZC} (H : RHv C h) (hz : zee c = false) (e1 : H_clauses h' = H_clauses h) (e2 : H_stepCount h' = H_stepCount h) (e3 : H_senses h' = H_senses h) (e4 : H_amounts h' = H_amounts h) (e5 : H_ends h' = H_ends h) (e6 : H_steps h' = H_steps h) (hl : H_late h' = zlast (C ++ [c]) 2 0 1) (hs : ∀ a : Int32, zrg 0 9 a → H_sounds h' a.toInt.toNat = zlast (C ++ [c]) 3 (16 * a) a ∧ H_sounds h' (10 + a.toInt.toNat) = zlast (C ++ [c]) 3 (16 * a + 1) a ∧ H_swaps h' a.toInt.toNat = zlast (C ++ [c]) 4 (16 * a) a) : RHv (C ++ [c]) h' := by
  obtain ⟨h1, h2, h3, h4, h5⟩ := H
  unfold RHv
  rw [flt_no hz, e1, e2, e3, e4, e5, e6]
  exact ⟨h1, h2, h3, hl, hs⟩
theorem RHv_late {C : List ZC} {h h' : SH} {l : Int32} (H : RHv C h) (e1 : H_clauses h' = H_clauses h) (e2 : H_stepCount h' = H_stepCount h) (e3 : H_senses h' = H_senses h) (e4 : H_amounts h' = H_amounts h) (e5 : H_ends h' = H_ends h) (e6 : H_steps h' = H_steps h) (e7 : H_sounds h' = H_sounds h) (e8 : H_swaps h' = H_swaps h) (hl : H_late h' = l) : RHv (C ++ [(2, 0, l, [])]) h' := by
  refine RHv_no H (by show decide ((2 : Int32) = 0 ∨ (2 : Int32) = 1) = false; decide) e1 e2 e3 e4 e5 e6 ?_ ?_
  · rw [zlast_app, if_pos ⟨rfl, rfl⟩]
    exact hl
  · intro a ha
    rw [zlast_app, zlast_app, zlast_app, if_neg (fun q => absurd q.1 (by show ¬ (2 : Int32) = 3; decide)), if_neg (fun q => absurd q.1 (by show ¬ (2 : Int32) = 3; decide)), if_neg (fun q => absurd q.1 (by show ¬ (2 : Int32) = 4; decide)), e7, e8]
    exact H.2.2.2.2 a ha
theorem z_16s {a s : Int32} (h : zrg 0 9 a) (hs : zrg 0 1 s) : (16 * a + s).toInt = 16 * a.toInt + s.toInt := by
  have e := z_16 h
  obtain ⟨h1, h2⟩ := h
  obtain ⟨h3, h4⟩ := hs
  rw [z_addI (by omega) (by omega), e]
theorem RHv_hears {C : List ZC} {h h' : SH} {A S Z : Int32} (hA : zrg 0 9 A) (hS : zrg 0 1 S) (H : RHv C h) (e1 : H_clauses h' = H_clauses h) (e2 : H_stepCount h' = H_stepCount h) (e3 : H_senses h' = H_senses h) (e4 : H_amounts h' = H_amounts h) (e5 : H_ends h' = H_ends h) (e6 : H_steps h' = H_steps h) (e7 : H_sounds h' = upd (H_sounds h) (10 * S.toInt.toNat + A.toInt.toNat) Z) (e8 : H_swaps h' = H_swaps h) (hl : H_late h' = H_late h) : RHv (C ++ [(3, 16 * A + S, Z, [])]) h' := by
  refine RHv_no H (by show decide ((3 : Int32) = 0 ∨ (3 : Int32) = 1) = false; decide) e1 e2 e3 e4 e5 e6 ?_ ?_
  · rw [zlast_app, if_neg (fun q => absurd q.1 (by show ¬ (3 : Int32) = 2; decide)), hl]
    exact H.2.2.2.1
  · intro a ha
    obtain ⟨k1, k2, k3⟩ := H.2.2.2.2 a ha
    have f1 := z_16s hA hS
    have f2 := z_16 ha
    have f3 := z_16s ha (s := 1) ⟨by decide, by decide⟩
    have f4 : (1 : Int32).toInt = 1 := by decide
    rw [f4] at f3
    obtain ⟨a1, a2⟩ := id ha
    obtain ⟨A1, A2⟩ := id hA
    obtain ⟨S1, S2⟩ := id hS
    rw [zlast_app, zlast_app, zlast_app, e7, e8, k3.symm]
    have g1 : (16 * A + S = 16 * a) ↔ (a.toInt.toNat = 10 * S.toInt.toNat + A.toInt.toNat) := by
      rw [← Int32.toInt_inj (x := 16 * A + S), f1, f2]
      omega
    have g2 : (16 * A + S = 16 * a + 1) ↔ (10 + a.toInt.toNat = 10 * S.toInt.toNat + A.toInt.toNat) := by
      rw [← Int32.toInt_inj (x := 16 * A + S), f1, f3]
      omega
    refine ⟨?_, ?_, ?_⟩
    · by_cases d : a.toInt.toNat = 10 * S.toInt.toNat + A.toInt.toNat
      · refine Eq.trans ?_ (if_pos (c := (3 : Int32) = 3 ∧ 16 * A + S = 16 * a) ⟨rfl, g1.mpr d⟩).symm
        rw [d, upd_eq]
      · refine Eq.trans ?_ (if_neg (c := (3 : Int32) = 3 ∧ 16 * A + S = 16 * a) (fun q => d (g1.mp q.2))).symm
        rw [upd_ne _ _ d, k1]
    · by_cases d : 10 + a.toInt.toNat = 10 * S.toInt.toNat + A.toInt.toNat
      · refine Eq.trans ?_ (if_pos (c := (3 : Int32) = 3 ∧ 16 * A + S = 16 * a + 1) ⟨rfl, g2.mpr d⟩).symm
        rw [d, upd_eq]
      · refine Eq.trans ?_ (if_neg (c := (3 : Int32) = 3 ∧ 16 * A + S = 16 * a + 1) (fun q => d (g2.mp q.2))).symm
        rw [upd_ne _ _ d, k2]
    · rw [if_neg (fun q => absurd q.1 (by show ¬ (3 : Int32) = 4; decide))]
theorem RHv_swap {C : List ZC} {h h' : SH} {A Z : Int32} (hA : zrg 0 9 A) (H : RHv C h) (e1 : H_clauses h' = H_clauses h) (e2 : H_stepCount h' = H_stepCount h) (e3 : H_senses h' = H_senses h) (e4 : H_amounts h' = H_amounts h) (e5 : H_ends h' = H_ends h) (e6 : H_steps h' = H_steps h) (e7 : H_sounds h' = H_sounds h) (e8 : H_swaps h' = upd (H_swaps h) A.toInt.toNat Z) (hl : H_late h' = H_late h) : RHv (C ++ [(4, 16 * A, Z, [])]) h' := by
  refine RHv_no H (by show decide ((4 : Int32) = 0 ∨ (4 : Int32) = 1) = false; decide) e1 e2 e3 e4 e5 e6 ?_ ?_
  · rw [zlast_app, if_neg (fun q => absurd q.1 (by show ¬ (4 : Int32) = 2; decide)), hl]
    exact H.2.2.2.1
  · intro a ha
    obtain ⟨k1, k2, k3⟩ := H.2.2.2.2 a ha
    have f1 := z_16 hA
    have f2 := z_16 ha
    obtain ⟨a1, a2⟩ := id ha
    obtain ⟨A1, A2⟩ := id hA
    rw [zlast_app, zlast_app, zlast_app, e7, e8, if_neg (fun q => absurd q.1 (by show ¬ (4 : Int32) = 3; decide)), if_neg (fun q => absurd q.1 (by show ¬ (4 : Int32) = 3; decide))]
    have g1 : (16 * A = 16 * a) ↔ (a.toInt.toNat = A.toInt.toNat) := by
      rw [← Int32.toInt_inj (x := 16 * A), f1, f2]
      omega
    refine ⟨k1, k2, ?_⟩
    by_cases d : a.toInt.toNat = A.toInt.toNat
    · refine Eq.trans ?_ (if_pos (c := (4 : Int32) = 4 ∧ 16 * A = 16 * a) ⟨rfl, g1.mpr d⟩).symm
      rw [d, upd_eq]
    · refine Eq.trans ?_ (if_neg (c := (4 : Int32) = 4 ∧ 16 * A = 16 * a) (fun q => d (g1.mp q.2))).symm
      rw [upd_ne _ _ d, k3]
theorem RHv_ear {C : List ZC} {h h' : SH} {w d : Int32} {T : List Int32} {g : Nat → Int32} (hw : w = 0 ∨ w = 1) (H : RHv C h) (e1 : (H_clauses h').toInt = (H_clauses h).toInt + 1) (e2 : (H_stepCount h').toInt = ((zsm (C.filter zee) + T.length : Nat) : Int)) (e3 : H_senses h' = upd (H_senses h) (C.filter zee).length w) (e4 : H_amounts h' = upd (H_amounts h) (C.filter zee).length d) (e5 : H_ends h' = upd (H_ends h) (C.filter zee).length (H_stepCount h')) (e6 : H_steps h' = g) (e7 : H_sounds h' = H_sounds h) (e8 : H_swaps h' = H_swaps h) (hl : H_late h' = H_late h) (hg : ∀ i, i < zsm (C.filter zee) → g i = H_steps h i) (hT : zst g (zsm (C.filter zee)) T) : RHv (C ++ [(w, 0, d, T)]) h' := by
  have hz : zee (w, 0, d, T) = true := by
    unfold zee
    exact decide_eq_true hw
  obtain ⟨h1, h2, h3, h4, h5⟩ := H
  have w2 : ∀ x : Int32, (x = 2 ∨ x = 3 ∨ x = 4) → ¬ w = x := by
    rintro x hx rfl
    rcases hw with hw | hw <;> rw [hw] at hx <;> exact absurd hx (by decide)
  unfold RHv
  rw [flt_yes hz, e3, e4, e5, e6, e7, e8, hl]
  generalize C.filter zee = D at *
  refine ⟨?_, ?_, ?_, ?_, ?_⟩
  · rw [e1, h1, List.length_append, List.length_singleton]
    omega
  · rw [e2, zsm_app]
    rfl
  · intro i hi
    rw [List.length_append, List.length_singleton] at hi
    by_cases q : i < D.length
    · obtain ⟨k1, k2, k3, k4⟩ := h3 i q
      rw [List.getElem_append_left q, List.take_append_of_le_length (by omega), List.take_append_of_le_length (by omega), upd_ne _ _ (by omega), upd_ne _ _ (by omega), upd_ne _ _ (by omega)]
      refine ⟨k1, k2, k3, zst_cg k4 (fun j hj => hg j ?_)⟩
      have t1 := zsm_take q
      have t2 := zsm_le D (i + 1)
      omega
    · have q' : i = D.length := by omega
      subst q'
      rw [List.getElem_append_right (Nat.le_refl _), List.take_of_length_le (by rw [List.length_append, List.length_singleton]; omega), List.take_left' rfl, upd_eq, upd_eq, upd_eq, zsm_app]
      simp only [Nat.sub_self]
      refine ⟨rfl, rfl, ?_, hT⟩
      rw [e2]
      rfl
  · rw [zlast_app, if_neg (fun q => w2 2 (Or.inl rfl) q.1)]
    exact h4
  · intro a ha
    rw [zlast_app, zlast_app, zlast_app, if_neg (fun q => w2 3 (Or.inr (Or.inl rfl)) q.1), if_neg (fun q => w2 3 (Or.inr (Or.inl rfl)) q.1), if_neg (fun q => w2 4 (Or.inr (Or.inr rfl)) q.1)]
    exact h5 a ha
