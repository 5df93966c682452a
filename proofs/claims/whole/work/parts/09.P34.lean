/-! 09.P34: a clause in the reference -/
abbrev ZX : Type := Int32 × Int32 × Int32 × Int32 × Int32 × (Nat → Int32) × (Nat → Int32) × (Nat → Int32) × (Nat → Int32) × (Nat → Int32) × (Nat → Int32) × (Nat → Int32)
def zoX (X : Nat) (f g : Nat → Int32) : Prop := ∀ k, k ≠ X → g k = f k
theorem zoX_r {X : Nat} {f : Nat → Int32} : zoX X f f := fun _ _ => rfl
theorem zoX_u {X : Nat} {f g : Nat → Int32} (h : zoX X f g) (y : Int32) : zoX X f (upd g X y) := fun k hk => (upd_ne _ _ hk).trans (h k hk)
def zcf (v : SM) (X b : Nat) (w : ZX) : Prop := (zoX X (M_word v) w.2.2.2.2.2.1 ∧ zoX X (M_spot v) w.2.2.2.2.2.2.1 ∧ zoX X (M_number v) w.2.2.2.2.2.2.2.1 ∧ zoX X (M_from v) w.2.2.2.2.2.2.2.2.1 ∧ zoX X (M_to v) w.2.2.2.2.2.2.2.2.2.1) ∧ ∀ k, k < b → w.2.2.2.2.2.2.2.2.2.2.1 k = M_sign v k
/-- the clause is written down -/
def zcw (X b : Nat) (z : ZC) (w : ZX) : Prop := (w.2.2.2.2.2.1 X = z.1 ∧ w.2.2.2.2.2.2.1 X = z.2.1 ∧ w.2.2.2.2.2.2.2.1 X = z.2.2.1) ∧ w.2.2.1.toInt = ((b + z.2.2.2.length : Nat) : Int) ∧ (zee z = true → (w.2.2.2.2.2.2.2.2.1 X).toInt = b ∧ (w.2.2.2.2.2.2.2.2.2.1 X).toInt = ((b + z.2.2.2.length : Nat) : Int) ∧ zst w.2.2.2.2.2.2.2.2.2.2.1 b (z.2.2.2.map zsg))
def CM (v : SM) (X b : Nat) (r : ZQ) (o : Option (Int32 × ZX)) : Prop := ∃ (x : Int32) (w : ZX), o = some (x, w) ∧ w.1.toInt = r.2.1 ∧ zcf v X b w ∧ ((r.1 = true ∧ x = 1 ∧ zcw X b r.2.2 w) ∨ (r.1 = false ∧ x = 0))
theorem CM_b {α : Type} {v : SM} {X b : Nat} {r : ZQ} {o : Option α} {x : α} {F : α → Option (Int32 × ZX)} (e : o = some x) (h : CM v X b r (F x)) : CM v X b r (o.bind F) := by
  rw [e]
  exact h
theorem CM_no {v : SM} {X b : Nat} {r : ZQ} {w : ZX} (hp : w.1.toInt = r.2.1) (hf : zcf v X b w) (h : r.1 = false) : CM v X b r (some (0, w)) := ⟨0, w, rfl, hp, hf, Or.inr ⟨h, rfl⟩⟩
theorem m_sgY {v : SM} {n : Nat} {c : Nat → Int} (T : TM v n c) {a : Nat} (ha : (M_at v).toInt = a) {x : Int32} (h : c a = x.toInt) : mM_takesSign x v = some (1, M_at v + 1) := by rw [m_sign T ha, if_pos h]
theorem m_sgN {v : SM} {n : Nat} {c : Nat → Int} (T : TM v n c) {a : Nat} (ha : (M_at v).toInt = a) {x : Int32} (h : ¬ c a = x.toInt) : mM_takesSign x v = some (0, M_at v) := by rw [m_sign T ha, if_neg h]
theorem m_fgY {v : SM} {n : Nat} {c : Nat → Int} (T : TM v n c) {a : Nat} (ha : (M_at v).toInt = a) {x : Int32} (hx : 0 ≤ x.toInt ∧ x.toInt ≤ 9) (h : 48 ≤ c a ∧ c a ≤ 48 + x.toInt) : mM_takesFigure x v = some (1, (M_at v + 1, spFg (c a))) := by
  obtain ⟨q, q1, q2⟩ := (m_figure T ha hx).2 h
  rw [q1, show q = spFg (c a) from Int32.toInt_inj.mp (by rw [q2, spFg_I (by omega)])]
theorem spBody_nb {c : Nat → Int} {n i b : Nat} (h : ¬ c b = 32) : spBody c n i b = (false, b, zC0) := by
  unfold spBody spLate spHears spSwap spEar
  rw [if_neg h, if_neg h, if_neg h, if_neg h]
  by_cases i2 : i = 2
  · rw [if_pos i2]
  · rw [if_neg i2]
    by_cases i3 : i = 3
    · rw [if_pos i3]
    · rw [if_neg i3]
      by_cases i4 : i = 4
      · rw [if_pos i4]
      · rw [if_neg i4]
theorem J106_no {v : SM} {n b0 a' b X : Nat} {c : Nat → Int} {x1 : Int32} (r : ZQ) {u : SM} (T : TM u n c) (ha : (M_at u).toInt = a') (h : ¬ (48 ≤ c a' ∧ c a' ≤ 57)) (hf : zcf v X b (M_at u, (M_digits u, (M_signs u, (M_waiting u, (M_open u, (M_word u, (M_spot u, (M_number u, (M_from u, (M_to u, (M_sign u, M_waits u)))))))))))) (hr : r.1 = false ∧ r.2.1 = a') : CM v X b r (mM_takesClause_J106 x1 u) := by
  unfold mM_takesClause_J106
  have k9 : (9 : Int32).toInt = 9 := by decide
  refine CM_b ((m_figure T ha (x := 9) (by decide)).1 (by rw [k9]; omega)) ?_
  rw [if_pos rfl]
  exact CM_no (ha.trans (by rw [hr.2])) hf hr.1
theorem J106_yes {n a' : Nat} {c : Nat → Int} {x1 : Int32} (hX : 0 ≤ x1.toInt ∧ x1.toInt < 50) {u : SM} (T : TM u n c) (ha : (M_at u).toInt = a') (h : 48 ≤ c a' ∧ c a' ≤ 57) : mM_takesClause_J106 x1 u = some (1, (M_at u + 1, (spFg (c a'), (M_signs u, (M_waiting u, (M_open u, (M_word u, (M_spot u, (upd (M_number u) x1.toInt.toNat (spFg (c a')), (M_from u, (M_to u, (M_sign u, M_waits u)))))))))))) := by
  unfold mM_takesClause_J106
  have k9 : (9 : Int32).toInt = 9 := by decide
  refine z_bq (m_fgY T ha (x := 9) (by decide) (by rw [k9]; omega)) ((if_neg n10).trans ?_)
  exact zgi_ok _ hX.1 (by omega)
theorem m_clause {n f b a : Nat} {c : Nat → Int} {x1 : Int32} {v : SM} (hX : 0 ≤ x1.toInt ∧ x1.toInt < 50) (T : TM v n c) (hL : Ql_low v) (ha : (M_at v).toInt = a) (han : a ≤ n) (hf : f ≤ 4) (hs : (M_signs v).toInt = b) (hb : 100 * f ≤ b ∧ b ≤ 100 * f + a) : CM v x1.toInt.toNat b (spC c n a) (mM_takesClause x1 v) := by
  have hc := T.2.2.2
  have h100 := T.2.1
  have TT : ∀ p, TM (M_putm_takesClause p v) n c := fun _ => T
  have k9 : (9 : Int32).toInt = 9 := by decide
  have k1 : (1 : Int32).toInt = 1 := by decide
  unfold mM_takesClause
  obtain ⟨x, q, j1, j2, j3, j4⟩ := m_head hX T hL ha han
  have hwo : zoX x1.toInt.toNat (M_word v) (upd (M_word v) x1.toInt.toNat (Int32.ofNat (spSel c a))) := zoX_u zoX_r _
  have hwd : upd (M_word v) x1.toInt.toNat (Int32.ofNat (spSel c a)) x1.toInt.toNat = Int32.ofNat (spSel c a) := upd_eq _ _ _
  unfold spC
  refine CM_b j1 ?_
  by_cases e : spP c a = (zwl (spSel c a)).length
  · rw [if_pos e]
    have hbn : a + spP c a ≤ n := spPre_lt hc _ a (zwl_n1 _ (spSel_lt c a)) han
    have hi := spSel_lt c a
    have hab : a ≤ a + spP c a := by omega
    have j2' := j2 e
    have j3' := j3 e
    clear j1 j2 j3 j4 e
    generalize upd (M_word v) x1.toInt.toNat (Int32.ofNat (spSel c a)) = wd at *
    generalize a + spP c a = b0 at *
    generalize spSel c a = i at *
    by_cases e0 : c b0 = 32
    · obtain ⟨hx, hq⟩ := j2' e0
      have hn0 : b0 < n := c_lt hc (by omega)
      have hq1 := z_one q (by omega) (by omega)
      have hq2 := z_one (q + 1) (by omega) (by omega)
      have hq3 := z_one (q + 1 + 1) (by omega) (by omega)
      have hq4 := z_one (q + 1 + 1 + 1) (by omega) (by omega)
      have hq5 := z_one (q + 1 + 1 + 1 + 1) (by omega) (by omega)
      rw [hx, if_neg n10, zgi_ok _ hX.1 (by omega), zgi_ok _ hX.1 (by omega)]
      by_cases i3 : i < 3
      · have wlt : wd x1.toNatClampNeg < 3 := by
          show wd x1.toInt.toNat < 3
          rw [hwd]
          rcases (show i = 0 ∨ i = 1 ∨ i = 2 by omega) with rfl | rfl | rfl <;> decide
        rw [if_pos wlt]
        obtain ⟨w1, w2⟩ := m_number (TT (q, (M_digits v, (M_signs v, (M_waiting v, (M_open v, (wd, (upd (M_spot v) x1.toInt.toNat 0, (M_number v, (M_from v, (M_to v, (M_sign v, M_waits v)))))))))))) (a := b0 + 1) hq (by omega)
        cases hN : spNum c (b0 + 1) with
        | none =>
          have es : spBody c n i b0 = (false, b0 + 1, zC0) := by
            unfold spBody spLate spEar
            rw [if_pos e0, if_pos e0, hN]
            rcases (show i = 0 ∨ i = 1 ∨ i = 2 by omega) with rfl | rfl | rfl <;> rfl
          rw [es]
          refine CM_b (w1 hN) ?_
          rw [if_pos rfl]
          exact CM_no hq ⟨⟨hwo, zoX_u zoX_r _, zoX_r, zoX_r, zoX_r⟩, fun _ _ => rfl⟩ rfl
        | some t =>
          obtain ⟨d, a'⟩ := t
          obtain ⟨g1, g2, g3, g4⟩ := spNum_rg hc hN
          obtain ⟨p, am, f1, f2, f3⟩ := w2 d a' hN
          have eam : am = Int32.ofInt d := Int32.toInt_inj.mp (by rw [f3, ofInt_rg (by omega) (by omega)])
          have hp1 := z_one p (by omega) (by omega)
          refine CM_b f1 ?_
          rw [if_neg n10, zgi_ok _ hX.1 (by omega), zgi_ok _ hX.1 (by omega)]
          by_cases i2 : i = 2
          · have w2' : wd x1.toNatClampNeg = 2 := by
              show wd x1.toInt.toNat = 2
              rw [hwd, i2]
              rfl
            have es : spBody c n i b0 = (true, a', (2, 0, Int32.ofInt d, [])) := by
              unfold spBody spLate
              rw [if_pos i2, if_pos e0, hN]
            rw [es, if_pos w2']
            refine ⟨1, _, rfl, f2, ⟨⟨hwo, zoX_u zoX_r _, zoX_u zoX_r _, zoX_r, zoX_r⟩, fun _ _ => rfl⟩, Or.inl ⟨rfl, rfl, ⟨w2', upd_eq _ _ _, (upd_eq _ _ _).trans eam⟩, hs, fun hz => ?_⟩⟩
            have hz' : decide ((2 : Int32) = 0 ∨ (2 : Int32) = 1) = true := hz
            exact absurd hz' (by decide)
          · have w2' : ¬ wd x1.toNatClampNeg = 2 := by
              show ¬ wd x1.toInt.toNat = 2
              rw [hwd]
              rcases (show i = 0 ∨ i = 1 by omega) with rfl | rfl <;> decide
            have es : spBody c n i b0 = (if c a' = 32 then (if (spTop c n (a' + 1)).1 = true then (true, (spTop c n (a' + 1)).2.1, (Int32.ofNat i, 0, Int32.ofInt d, (spTop c n (a' + 1)).2.2)) else (false, (spTop c n (a' + 1)).2.1, zC0)) else ((false, a', zC0) : ZQ)) := by
              unfold spBody spEar
              rw [if_neg i2, if_neg (by omega), if_neg (by omega), if_pos e0, hN]
            rw [es, if_neg w2']
            by_cases e2 : c a' = 32
            · have hn2 : a' < n := c_lt hc (by omega)
              rw [if_pos e2]
              refine CM_b (m_sgY (TT (p, (am, (M_signs v, (M_waiting v, (M_open v, (wd, (upd (M_spot v) x1.toInt.toNat 0, (upd (M_number v) x1.toInt.toNat am, (M_from v, (M_to v, (M_sign v, M_waits v)))))))))))) f2 (x := 32) (e2.trans (by decide))) ?_
              rw [if_neg n10]
              obtain ⟨y1, y2⟩ := m_takesE (f := f) (b := b) hX (TT (p + 1, (am, (M_signs v, (M_waiting v, (M_open v, (wd, (upd (M_spot v) x1.toInt.toNat 0, (upd (M_number v) x1.toInt.toNat am, (M_from v, (M_to v, (M_sign v, M_waits v)))))))))))) (a := a' + 1) (by show (p + 1).toInt = _; omega) (by omega) hf hs (by omega)
              by_cases e3 : (spTop c n (a' + 1)).1 = true
              · rw [if_pos e3]
                obtain ⟨w, m1, m2, ⟨m3, m4, m5⟩, m6, m7, m8⟩ := y2 e3
                refine CM_b m1 ?_
                rw [if_neg n10]
                refine ⟨1, _, rfl, m2, ⟨⟨hwo, zoX_u zoX_r _, zoX_u zoX_r _, ?_, m4⟩, m5⟩, Or.inl ⟨rfl, rfl, ⟨hwd, upd_eq _ _ _, (upd_eq _ _ _).trans eam⟩, m6, fun _ => ⟨?_, ?_, m8⟩⟩⟩
                · show zoX _ (M_from v) w.2.2.2.2.2.1
                  rw [m3]
                  exact zoX_u zoX_r _
                · show (w.2.2.2.2.2.1 x1.toInt.toNat).toInt = _
                  rw [m3, upd_eq]
                  exact hs
                · show (w.2.2.2.2.2.2.1 x1.toInt.toNat).toInt = _
                  rw [m7]
                  exact m6
              · rw [if_neg e3]
                obtain ⟨w, m1, m2, m3, m4, m5⟩ := y1 (b_ff e3)
                refine CM_b m1 ?_
                rw [if_pos rfl]
                refine CM_no m2 ⟨⟨hwo, zoX_u zoX_r _, zoX_u zoX_r _, ?_, m4⟩, m5⟩ rfl
                show zoX _ (M_from v) w.2.2.2.2.2.1
                rw [m3]
                exact zoX_u zoX_r _
            · rw [if_neg e2]
              refine CM_b (m_sgN (TT (p, (am, (M_signs v, (M_waiting v, (M_open v, (wd, (upd (M_spot v) x1.toInt.toNat 0, (upd (M_number v) x1.toInt.toNat am, (M_from v, (M_to v, (M_sign v, M_waits v)))))))))))) f2 (x := 32) (fun e => e2 (e.trans (by decide)))) ?_
              rw [if_pos rfl]
              exact CM_no f2 ⟨⟨hwo, zoX_u zoX_r _, zoX_u zoX_r _, zoX_r, zoX_r⟩, fun _ _ => rfl⟩ rfl
      · have wlt : ¬ wd x1.toNatClampNeg < 3 := by
          show ¬ wd x1.toInt.toNat < 3
          rw [hwd]
          rcases (show i = 3 ∨ i = 4 by omega) with rfl | rfl <;> decide
        rw [if_neg wlt]
        by_cases e1 : 48 ≤ c (b0 + 1) ∧ c (b0 + 1) ≤ 57
        · have hn1 : b0 + 1 < n := c_lt hc (by omega)
          have fA := spFg_I e1
          refine CM_b (m_fgY (TT (q, (M_digits v, (M_signs v, (M_waiting v, (M_open v, (wd, (upd (M_spot v) x1.toInt.toNat 0, (M_number v, (M_from v, (M_to v, (M_sign v, M_waits v)))))))))))) (a := b0 + 1) hq (x := 9) (by decide) (by rw [k9]; omega)) ?_
          rw [if_neg n10, zgi_ok _ hX.1 (by omega)]
          by_cases e2 : c (b0 + 2) = 32
          · have hn2 : b0 + 2 < n := c_lt hc (by omega)
            refine CM_b (m_sgY (TT (q + 1, (spFg (c (b0 + 1)), (M_signs v, (M_waiting v, (M_open v, (wd, (upd (upd (M_spot v) x1.toInt.toNat 0) x1.toInt.toNat (16 * spFg (c (b0 + 1))), (M_number v, (M_from v, (M_to v, (M_sign v, M_waits v)))))))))))) (a := b0 + 2) (by show (q + 1).toInt = _; omega) (x := 32) (e2.trans (by decide))) ?_
            rw [if_neg n10, zgi_ok _ hX.1 (by omega)]
            by_cases i4 : i = 4
            · have w4 : ¬ wd x1.toNatClampNeg = 3 := by
                show ¬ wd x1.toInt.toNat = 3
                rw [hwd, i4]
                decide
              rw [if_neg w4]
              by_cases e3 : 48 ≤ c (b0 + 3) ∧ c (b0 + 3) ≤ 57
              · have es : spBody c n i b0 = (true, b0 + 4, (4, 16 * spFg (c (b0 + 1)), spFg (c (b0 + 3)), [])) := by
                  unfold spBody spSwap
                  rw [if_neg (by omega), if_neg (by omega), if_pos i4, if_pos e0, if_pos e1, if_pos e2, if_pos e3]
                rw [es]
                refine ⟨1, _, J106_yes hX (TT (q + 1 + 1, (spFg (c (b0 + 1)), (M_signs v, (M_waiting v, (M_open v, (wd, (upd (upd (M_spot v) x1.toInt.toNat 0) x1.toInt.toNat (16 * spFg (c (b0 + 1))), (M_number v, (M_from v, (M_to v, (M_sign v, M_waits v)))))))))))) (a' := b0 + 3) (by show (q + 1 + 1).toInt = _; omega) e3, ?_, ⟨⟨hwo, zoX_u (zoX_u zoX_r _) _, zoX_u zoX_r _, zoX_r, zoX_r⟩, fun _ _ => rfl⟩, Or.inl ⟨rfl, rfl, ⟨?_, upd_eq _ _ _, upd_eq _ _ _⟩, hs, fun hz => ?_⟩⟩
                · show (q + 1 + 1 + 1).toInt = ((b0 + 4 : Nat) : Int)
                  omega
                · show wd x1.toInt.toNat = 4
                  rw [hwd, i4]
                  rfl
                · have hz' : decide ((4 : Int32) = 0 ∨ (4 : Int32) = 1) = true := hz
                  exact absurd hz' (by decide)
              · have es : spBody c n i b0 = (false, b0 + 3, zC0) := by
                  unfold spBody spSwap
                  rw [if_neg (by omega), if_neg (by omega), if_pos i4, if_pos e0, if_pos e1, if_pos e2, if_neg e3]
                rw [es]
                exact J106_no (b0 := 0) _ (TT (q + 1 + 1, (spFg (c (b0 + 1)), (M_signs v, (M_waiting v, (M_open v, (wd, (upd (upd (M_spot v) x1.toInt.toNat 0) x1.toInt.toNat (16 * spFg (c (b0 + 1))), (M_number v, (M_from v, (M_to v, (M_sign v, M_waits v)))))))))))) (a' := b0 + 3) (by show (q + 1 + 1).toInt = _; omega) e3 ⟨⟨hwo, zoX_u (zoX_u zoX_r _) _, zoX_r, zoX_r, zoX_r⟩, fun _ _ => rfl⟩ ⟨rfl, rfl⟩
            · have w4 : wd x1.toNatClampNeg = 3 := by
                show wd x1.toInt.toNat = 3
                rw [hwd, show i = 3 by omega]
                rfl
              rw [if_pos w4]
              by_cases e3 : 48 ≤ c (b0 + 3) ∧ c (b0 + 3) ≤ 49
              · have hn3 : b0 + 3 < n := c_lt hc (by omega)
                have fS := spFg_I (x := c (b0 + 3)) (by omega)
                refine CM_b (m_fgY (TT (q + 1 + 1, (spFg (c (b0 + 1)), (M_signs v, (M_waiting v, (M_open v, (wd, (upd (upd (M_spot v) x1.toInt.toNat 0) x1.toInt.toNat (16 * spFg (c (b0 + 1))), (M_number v, (M_from v, (M_to v, (M_sign v, M_waits v)))))))))))) (a := b0 + 3) (by show (q + 1 + 1).toInt = _; omega) (x := 1) (by decide) (by rw [k1]; omega)) ?_
                rw [if_neg n10, zgi_ok _ hX.1 (by omega), zgi_ok _ hX.1 (by omega)]
                by_cases e4 : c (b0 + 4) = 32
                · have hn4 : b0 + 4 < n := c_lt hc (by omega)
                  refine CM_b (m_sgY (TT (q + 1 + 1 + 1, (spFg (c (b0 + 3)), (M_signs v, (M_waiting v, (M_open v, (wd, (upd (upd (upd (M_spot v) x1.toInt.toNat 0) x1.toInt.toNat (16 * spFg (c (b0 + 1)))) x1.toInt.toNat ((upd (upd (M_spot v) x1.toInt.toNat 0) x1.toInt.toNat (16 * spFg (c (b0 + 1)))) x1.toInt.toNat + spFg (c (b0 + 3))), (M_number v, (M_from v, (M_to v, (M_sign v, M_waits v)))))))))))) (a := b0 + 4) (by show (q + 1 + 1 + 1).toInt = _; omega) (x := 32) (e4.trans (by decide))) ?_
                  rw [if_neg n10]
                  by_cases e5 : 48 ≤ c (b0 + 5) ∧ c (b0 + 5) ≤ 57
                  · have es : spBody c n i b0 = (true, b0 + 6, (3, 16 * spFg (c (b0 + 1)) + spFg (c (b0 + 3)), spFg (c (b0 + 5)), [])) := by
                      unfold spBody spHears
                      rw [if_neg (by omega), if_pos (by omega), if_pos e0, if_pos e1, if_pos e2, if_pos e3, if_pos e4, if_pos e5]
                    rw [es]
                    refine ⟨1, _, J106_yes hX (TT (q + 1 + 1 + 1 + 1, (spFg (c (b0 + 3)), (M_signs v, (M_waiting v, (M_open v, (wd, (upd (upd (upd (M_spot v) x1.toInt.toNat 0) x1.toInt.toNat (16 * spFg (c (b0 + 1)))) x1.toInt.toNat ((upd (upd (M_spot v) x1.toInt.toNat 0) x1.toInt.toNat (16 * spFg (c (b0 + 1)))) x1.toInt.toNat + spFg (c (b0 + 3))), (M_number v, (M_from v, (M_to v, (M_sign v, M_waits v)))))))))))) (a' := b0 + 5) (by show (q + 1 + 1 + 1 + 1).toInt = _; omega) e5, ?_, ⟨⟨hwo, zoX_u (zoX_u (zoX_u zoX_r _) _) _, zoX_u zoX_r _, zoX_r, zoX_r⟩, fun _ _ => rfl⟩, Or.inl ⟨rfl, rfl, ⟨?_, ?_, upd_eq _ _ _⟩, hs, fun hz => ?_⟩⟩
                    · show (q + 1 + 1 + 1 + 1 + 1).toInt = ((b0 + 6 : Nat) : Int)
                      omega
                    · show wd x1.toInt.toNat = 3
                      rw [hwd, show i = 3 by omega]
                      rfl
                    · show upd (upd (upd (M_spot v) x1.toInt.toNat 0) x1.toInt.toNat (16 * spFg (c (b0 + 1)))) x1.toInt.toNat (upd (upd (M_spot v) x1.toInt.toNat 0) x1.toInt.toNat (16 * spFg (c (b0 + 1))) x1.toInt.toNat + spFg (c (b0 + 3))) x1.toInt.toNat = 16 * spFg (c (b0 + 1)) + spFg (c (b0 + 3))
                      rw [upd_eq, upd_eq]
                    · have hz' : decide ((3 : Int32) = 0 ∨ (3 : Int32) = 1) = true := hz
                      exact absurd hz' (by decide)
                  · have es : spBody c n i b0 = (false, b0 + 5, zC0) := by
                      unfold spBody spHears
                      rw [if_neg (by omega), if_pos (by omega), if_pos e0, if_pos e1, if_pos e2, if_pos e3, if_pos e4, if_neg e5]
                    rw [es]
                    exact J106_no (b0 := 0) _ (TT (q + 1 + 1 + 1 + 1, (spFg (c (b0 + 3)), (M_signs v, (M_waiting v, (M_open v, (wd, (upd (upd (upd (M_spot v) x1.toInt.toNat 0) x1.toInt.toNat (16 * spFg (c (b0 + 1)))) x1.toInt.toNat ((upd (upd (M_spot v) x1.toInt.toNat 0) x1.toInt.toNat (16 * spFg (c (b0 + 1)))) x1.toInt.toNat + spFg (c (b0 + 3))), (M_number v, (M_from v, (M_to v, (M_sign v, M_waits v)))))))))))) (a' := b0 + 5) (by show (q + 1 + 1 + 1 + 1).toInt = _; omega) e5 ⟨⟨hwo, zoX_u (zoX_u (zoX_u zoX_r _) _) _, zoX_r, zoX_r, zoX_r⟩, fun _ _ => rfl⟩ ⟨rfl, rfl⟩
                · have es : spBody c n i b0 = (false, b0 + 4, zC0) := by
                    unfold spBody spHears
                    rw [if_neg (by omega), if_pos (by omega), if_pos e0, if_pos e1, if_pos e2, if_pos e3, if_neg e4]
                  rw [es]
                  refine CM_b (m_sgN (TT (q + 1 + 1 + 1, (spFg (c (b0 + 3)), (M_signs v, (M_waiting v, (M_open v, (wd, (upd (upd (upd (M_spot v) x1.toInt.toNat 0) x1.toInt.toNat (16 * spFg (c (b0 + 1)))) x1.toInt.toNat ((upd (upd (M_spot v) x1.toInt.toNat 0) x1.toInt.toNat (16 * spFg (c (b0 + 1)))) x1.toInt.toNat + spFg (c (b0 + 3))), (M_number v, (M_from v, (M_to v, (M_sign v, M_waits v)))))))))))) (a := b0 + 4) (by show (q + 1 + 1 + 1).toInt = _; omega) (x := 32) (fun e => e4 (e.trans (by decide)))) ?_
                  rw [if_pos rfl]
                  exact CM_no (by show (q + 1 + 1 + 1).toInt = ((b0 + 4 : Nat) : Int); omega) ⟨⟨hwo, zoX_u (zoX_u (zoX_u zoX_r _) _) _, zoX_r, zoX_r, zoX_r⟩, fun _ _ => rfl⟩ rfl
              · have es : spBody c n i b0 = (false, b0 + 3, zC0) := by
                  unfold spBody spHears
                  rw [if_neg (by omega), if_pos (by omega), if_pos e0, if_pos e1, if_pos e2, if_neg e3]
                rw [es]
                refine CM_b ((m_figure (TT (q + 1 + 1, (spFg (c (b0 + 1)), (M_signs v, (M_waiting v, (M_open v, (wd, (upd (upd (M_spot v) x1.toInt.toNat 0) x1.toInt.toNat (16 * spFg (c (b0 + 1))), (M_number v, (M_from v, (M_to v, (M_sign v, M_waits v)))))))))))) (a := b0 + 3) (by show (q + 1 + 1).toInt = _; omega) (x := 1) (by decide)).1 (by rw [k1]; omega)) ?_
                rw [if_pos rfl]
                exact CM_no (by show (q + 1 + 1).toInt = ((b0 + 3 : Nat) : Int); omega) ⟨⟨hwo, zoX_u (zoX_u zoX_r _) _, zoX_r, zoX_r, zoX_r⟩, fun _ _ => rfl⟩ rfl
          · have es : spBody c n i b0 = (false, b0 + 2, zC0) := by
              unfold spBody spHears spSwap
              rw [if_neg (by omega), if_pos e0, if_pos e1, if_neg e2, if_pos e0, if_pos e1, if_neg e2]
              by_cases i3' : i = 3
              · rw [if_pos i3']
              · rw [if_neg i3', if_pos (by omega)]
            rw [es]
            refine CM_b (m_sgN (TT (q + 1, (spFg (c (b0 + 1)), (M_signs v, (M_waiting v, (M_open v, (wd, (upd (upd (M_spot v) x1.toInt.toNat 0) x1.toInt.toNat (16 * spFg (c (b0 + 1))), (M_number v, (M_from v, (M_to v, (M_sign v, M_waits v)))))))))))) (a := b0 + 2) (by show (q + 1).toInt = _; omega) (x := 32) (fun e => e2 (e.trans (by decide)))) ?_
            rw [if_pos rfl]
            exact CM_no (by show (q + 1).toInt = ((b0 + 2 : Nat) : Int); omega) ⟨⟨hwo, zoX_u (zoX_u zoX_r _) _, zoX_r, zoX_r, zoX_r⟩, fun _ _ => rfl⟩ rfl
        · have es : spBody c n i b0 = (false, b0 + 1, zC0) := by
            unfold spBody spHears spSwap
            rw [if_neg (by omega), if_pos e0, if_neg e1, if_pos e0, if_neg e1]
            by_cases i3' : i = 3
            · rw [if_pos i3']
            · rw [if_neg i3', if_pos (by omega)]
          rw [es]
          refine CM_b ((m_figure (TT (q, (M_digits v, (M_signs v, (M_waiting v, (M_open v, (wd, (upd (M_spot v) x1.toInt.toNat 0, (M_number v, (M_from v, (M_to v, (M_sign v, M_waits v)))))))))))) (a := b0 + 1) hq (x := 9) (by decide)).1 (by rw [k9]; omega)) ?_
          rw [if_pos rfl]
          exact CM_no hq ⟨⟨hwo, zoX_u zoX_r _, zoX_r, zoX_r, zoX_r⟩, fun _ _ => rfl⟩ rfl
    · obtain ⟨hx, hq⟩ := j3' e0
      rw [spBody_nb e0, hx, if_pos rfl]
      exact CM_no hq ⟨⟨hwo, zoX_r, zoX_r, zoX_r, zoX_r⟩, fun _ _ => rfl⟩ rfl
  · obtain ⟨hx, hq⟩ := j4 e
    rw [if_neg e, hx, if_pos rfl]
    exact CM_no hq ⟨⟨hwo, zoX_r, zoX_r, zoX_r, zoX_r⟩, fun _ _ => rfl⟩ rfl
