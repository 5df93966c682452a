/-! 09.P32: a clause in the class -/
abbrev ZW : Type := Int32 × Int32 × Int32 × Int32 × (Nat → Int32) × (Nat → Int32) × (Nat → Int32) × (Nat → Int32) × (Nat → Int32) × (Nat → Int32)
def CC (u : SR) (C : List ZC) (r : ZQ) (o : Option (Int32 × ZW)) : Prop := ∃ (x : Int32) (w : ZW), o = some (x, w) ∧ w.1.toInt = r.2.1 ∧ ((r.1 = true ∧ x = 1 ∧ RHv (C ++ [r.2.2]) (R_toH2 (R_putm_readClause w u))) ∨ (r.1 = false ∧ x = 0))
theorem CC_b {α : Type} {u : SR} {C : List ZC} {r : ZQ} {o : Option α} {x : α} {F : α → Option (Int32 × ZW)} (e : o = some x) (h : CC u C r (F x)) : CC u C r (o.bind F) := by
  rw [e]
  exact h
theorem CC_no {u : SR} {C : List ZC} {r : ZQ} {w : ZW} (hp : w.1.toInt = r.2.1) (h : r.1 = false) : CC u C r (some (0, w)) := ⟨0, w, rfl, hp, Or.inr ⟨h, rfl⟩⟩
theorem zgb_1 {α : Type} (o : Option α) : zgb 1 o = o := if_pos (Or.inr rfl)
theorem zgb_0 {α : Type} (o : Option α) : zgb 0 o = o := if_pos (Or.inl rfl)
theorem n01 : ¬ (0 : Int32) ≤ -1 := by decide
theorem n10 : ¬ (1 : Int32) = 0 := by decide
theorem c_late {u : SR} {n : Nat} {c : Nat → Int} (T : TR u n c) {b : Nat} (ha : (R_at u).toInt = b) (hb : b ≤ n) : ∃ x p l : Int32, mR_readLate u = some (x, (p, l)) ∧ p.toInt = (spLate c b).2.1 ∧ (((spLate c b).1 = true ∧ x = 1 ∧ (spLate c b).2.2 = (2, 0, l, [])) ∨ ((spLate c b).1 = false ∧ x = 0)) := by
  have h100 := T.2.1
  have hx := z_one (R_at u) (by omega) (by omega)
  have TT : ∀ p, TR (R_put_at_h_late p u) n c := fun _ => T
  unfold mR_readLate spLate
  by_cases e1 : c b = 32
  · have hn : b < n := c_lt T.2.2.2 (by omega)
    rw [if_pos e1]
    obtain ⟨w1, w2⟩ := c_number (TT (R_at u + 1, R_h_late u)) (a := b + 1) (by show (R_at u + 1).toInt = _; omega) (by omega)
    cases hq : spNum c (b + 1) with
    | none =>
      refine ⟨0, R_at u + 1, R_h_late u, z_bq (c_skY T ha (x := 32) (e1.trans (by decide)) (by decide)) ?_, (by show (R_at u + 1).toInt = ((b + 1 : Nat) : Int); omega), Or.inr ⟨rfl, rfl⟩⟩
      refine (if_neg n10).trans (z_bq (w1 hq) ?_)
      exact if_neg n01
    | some q =>
      obtain ⟨d, a'⟩ := q
      obtain ⟨g1, g2, g3, g4⟩ := spNum_rg T.2.2.2 hq
      obtain ⟨p, q, f1, f2, f3⟩ := w2 d a' hq
      have eq : q = Int32.ofInt d := Int32.toInt_inj.mp (by rw [f3, ofInt_rg (by omega) (by omega)])
      refine ⟨1, p, q, z_bq (c_skY T ha (x := 32) (e1.trans (by decide)) (by decide)) ?_, f2, Or.inl ⟨rfl, rfl, by rw [eq]⟩⟩
      refine (if_neg n10).trans (z_bq f1 ?_)
      exact if_pos (show (0 : Int32) ≤ q by rw [Int32.le_iff_toInt_le, f3]; simp only [Int32.reduceToInt]; omega)
  · rw [if_neg e1]
    exact ⟨0, R_at u, R_h_late u, z_bq (c_skN T ha (x := 32) (fun e => e1 (e.trans (by decide))) (by decide)) (if_pos rfl), ha, Or.inr ⟨rfl, rfl⟩⟩
theorem c_part {u : SR} {n : Nat} {c : Nat → Int} (T : TR u n c) {b : Nat} (ha : (R_at u).toInt = b) (hb : b ≤ n) {x : Int32} (hx : 0 ≤ x.toInt ∧ x.toInt ≤ 9) : (¬ c b = 32 → mR_readPart x u = some (-1, R_at u)) ∧ (c b = 32 → ¬ (48 ≤ c (b + 1) ∧ c (b + 1) ≤ 48 + x.toInt) → mR_readPart x u = some (-1, R_at u + 1)) ∧ (c b = 32 → (48 ≤ c (b + 1) ∧ c (b + 1) ≤ 48 + x.toInt) → mR_readPart x u = some (spFg (c (b + 1)), R_at u + 1 + 1)) := by
  have h100 := T.2.1
  have hx1 := z_one (R_at u) (by omega) (by omega)
  have TT : ∀ p, TR (R_put_at p u) n c := fun _ => T
  unfold mR_readPart
  refine ⟨fun e1 => ?_, fun e1 e2 => ?_, fun e1 e2 => ?_⟩
  · exact z_bq (c_skN T ha (x := 32) (fun e => e1 (e.trans (by decide))) (by decide)) (if_pos rfl)
  · have hn : b < n := c_lt T.2.2.2 (by omega)
    obtain ⟨w1, w2⟩ := c_figure (TT (R_at u + 1)) (a := b + 1) (by show (R_at u + 1).toInt = _; omega) (by omega) hx
    refine z_bq (c_skY T ha (x := 32) (e1.trans (by decide)) (by decide)) ((if_neg n10).trans (z_bq (w1 e2) rfl))
  · have hn : b < n := c_lt T.2.2.2 (by omega)
    obtain ⟨w1, w2⟩ := c_figure (TT (R_at u + 1)) (a := b + 1) (by show (R_at u + 1).toInt = _; omega) (by omega) hx
    obtain ⟨q, q1, q2⟩ := w2 e2
    have eq : q = spFg (c (b + 1)) := Int32.toInt_inj.mp (by rw [q2, spFg_I (by omega)])
    rw [eq] at q1
    exact z_bq (c_skY T ha (x := 32) (e1.trans (by decide)) (by decide)) ((if_neg n10).trans (z_bq q1 rfl))
theorem J35_no (x s : Int32) (u : SR) : mR_readHears_J35 x s (-1) u = some (0, (R_at u, R_h_sounds u)) := if_neg n01
theorem J20_no (x : Int32) (u : SR) : mR_readHears_J20 x (-1) u = some (0, (R_at u, R_h_sounds u)) := (if_neg n01).trans (J35_no _ _ _)
theorem fg_pos {x : Int} (h : 48 ≤ x ∧ x ≤ 57) : (0 : Int32) ≤ spFg x := by
  rw [Int32.le_iff_toInt_le, spFg_I h]
  simp only [Int32.reduceToInt]
  omega
theorem c_hears {u : SR} {n : Nat} {c : Nat → Int} (T : TR u n c) {b : Nat} (ha : (R_at u).toInt = b) (hb : b ≤ n) : ∃ (x p : Int32) (g : Nat → Int32), mR_readHears u = some (x, (p, g)) ∧ p.toInt = (spHears c b).2.1 ∧ (((spHears c b).1 = true ∧ x = 1 ∧ ∃ A S Z : Int32, zrg 0 9 A ∧ zrg 0 1 S ∧ (spHears c b).2.2 = (3, 16 * A + S, Z, []) ∧ g = upd (R_h_sounds u) (10 * S.toInt.toNat + A.toInt.toNat) Z) ∨ ((spHears c b).1 = false ∧ x = 0)) := by
  have hc := T.2.2.2
  have h100 := T.2.1
  have hx1 := z_one (R_at u) (by omega) (by omega)
  have hx2 := z_one (R_at u + 1) (by omega) (by omega)
  have hx3 := z_one (R_at u + 1 + 1) (by omega) (by omega)
  have hx4 := z_one (R_at u + 1 + 1 + 1) (by omega) (by omega)
  have hx5 := z_one (R_at u + 1 + 1 + 1 + 1) (by omega) (by omega)
  have hx6 := z_one (R_at u + 1 + 1 + 1 + 1 + 1) (by omega) (by omega)
  have TT : ∀ p, TR (R_put_at_h_sounds p u) n c := fun _ => T
  unfold mR_readHears spHears
  obtain ⟨p1, p2, p3⟩ := c_part T ha hb (x := 9) (by decide)
  have k9 : (9 : Int32).toInt = 9 := by decide
  have k1 : (1 : Int32).toInt = 1 := by decide
  rw [k9] at p2 p3
  by_cases e1 : c b = 32
  · have hn1 : b < n := c_lt hc (by omega)
    rw [if_pos e1]
    by_cases e2 : 48 ≤ c (b + 1) ∧ c (b + 1) ≤ 57
    · have hn2 : b + 1 < n := c_lt hc (by omega)
      rw [if_pos e2]
      have o1 := p3 e1 (by omega)
      obtain ⟨q1, q2, q3⟩ := c_part (TT (R_at u + 1 + 1, R_h_sounds u)) (b := b + 2) (by show (R_at u + 1 + 1).toInt = _; omega) (by omega) (x := 1) (by decide)
      rw [k1] at q2 q3
      by_cases e3 : c (b + 2) = 32
      · have hn3 : b + 2 < n := c_lt hc (by omega)
        rw [if_pos e3]
        by_cases e4 : 48 ≤ c (b + 3) ∧ c (b + 3) ≤ 49
        · have hn4 : b + 3 < n := c_lt hc (by omega)
          rw [if_pos e4]
          have e4' : 48 ≤ c (b + 3) ∧ c (b + 3) ≤ 57 := by omega
          have o2 := q3 e3 (by show 48 ≤ c (b + 3) ∧ c (b + 3) ≤ 48 + 1; omega)
          obtain ⟨r1, r2, r3⟩ := c_part (TT (R_at u + 1 + 1 + 1 + 1, R_h_sounds u)) (b := b + 4) (by show (R_at u + 1 + 1 + 1 + 1).toInt = _; omega) (by omega) (x := 9) (by decide)
          rw [k9] at r2 r3
          by_cases e5 : c (b + 4) = 32
          · have hn5 : b + 4 < n := c_lt hc (by omega)
            rw [if_pos e5]
            by_cases e6 : 48 ≤ c (b + 5) ∧ c (b + 5) ≤ 57
            · rw [if_pos e6]
              have o3 := r3 e5 (by show 48 ≤ c (b + 5) ∧ c (b + 5) ≤ 48 + 9; omega)
              have fA := spFg_I e2
              have fS := spFg_I (x := c (b + 3)) (by omega)
              have kk : (spFg (c (b + 3)) * 10 + spFg (c (b + 1))).toInt = 10 * (c (b + 3) - 48) + (c (b + 1) - 48) := by
                have k2 : (spFg (c (b + 3)) * 10).toInt = 10 * (c (b + 3) - 48) := by
                  rw [z_mulI (by rw [fS]; simp only [Int32.reduceToInt]; omega) (by rw [fS]; simp only [Int32.reduceToInt]; omega), fS]
                  simp only [Int32.reduceToInt]
                  omega
                rw [z_addI (by omega) (by omega), k2, fA]
              refine ⟨1, R_at u + 1 + 1 + 1 + 1 + 1 + 1, upd (R_h_sounds u) (10 * (spFg (c (b + 3))).toInt.toNat + (spFg (c (b + 1))).toInt.toNat) (spFg (c (b + 5))), z_bq o1 ((if_pos (fg_pos e2)).trans (z_bq o2 ((if_pos (fg_pos e4')).trans (z_bq o3 ((if_pos (fg_pos e6)).trans ?_))))), ?_, Or.inl ⟨rfl, rfl, _, _, _, ⟨by omega, by omega⟩, ⟨by omega, by omega⟩, rfl, rfl⟩⟩
              · refine (zgi_ok _ (show 0 ≤ (spFg (c (b + 3)) * 10 + spFg (c (b + 1))).toInt by omega) (show (spFg (c (b + 3)) * 10 + spFg (c (b + 1))).toInt < (20 : Nat) by omega)).trans ?_
                have ei : (spFg (c (b + 3)) * 10 + spFg (c (b + 1))).toNatClampNeg = 10 * (spFg (c (b + 3))).toInt.toNat + (spFg (c (b + 1))).toInt.toNat := by rw [z_nat]; omega
                rw [← ei]
                rfl
              · show (R_at u + 1 + 1 + 1 + 1 + 1 + 1).toInt = ((b + 6 : Nat) : Int)
                omega
            · rw [if_neg e6]
              refine ⟨0, R_at u + 1 + 1 + 1 + 1 + 1, R_h_sounds u, z_bq o1 ((if_pos (fg_pos e2)).trans (z_bq o2 ((if_pos (fg_pos e4')).trans (z_bq (r2 e5 (by show ¬ (48 ≤ c (b + 5) ∧ c (b + 5) ≤ 48 + 9); omega)) (J35_no _ _ _))))), ?_, Or.inr ⟨rfl, rfl⟩⟩
              show (R_at u + 1 + 1 + 1 + 1 + 1).toInt = ((b + 5 : Nat) : Int)
              omega
          · rw [if_neg e5]
            refine ⟨0, R_at u + 1 + 1 + 1 + 1, R_h_sounds u, z_bq o1 ((if_pos (fg_pos e2)).trans (z_bq o2 ((if_pos (fg_pos e4')).trans (z_bq (r1 e5) (J35_no _ _ _))))), ?_, Or.inr ⟨rfl, rfl⟩⟩
            show (R_at u + 1 + 1 + 1 + 1).toInt = ((b + 4 : Nat) : Int)
            omega
        · rw [if_neg e4]
          refine ⟨0, R_at u + 1 + 1 + 1, R_h_sounds u, z_bq o1 ((if_pos (fg_pos e2)).trans (z_bq (q2 e3 (by show ¬ (48 ≤ c (b + 3) ∧ c (b + 3) ≤ 48 + 1); omega)) (J20_no _ _))), ?_, Or.inr ⟨rfl, rfl⟩⟩
          show (R_at u + 1 + 1 + 1).toInt = ((b + 3 : Nat) : Int)
          omega
      · rw [if_neg e3]
        refine ⟨0, R_at u + 1 + 1, R_h_sounds u, z_bq o1 ((if_pos (fg_pos e2)).trans (z_bq (q1 e3) (J20_no _ _))), ?_, Or.inr ⟨rfl, rfl⟩⟩
        show (R_at u + 1 + 1).toInt = ((b + 2 : Nat) : Int)
        omega
    · rw [if_neg e2]
      refine ⟨0, R_at u + 1, R_h_sounds u, z_bq (p2 e1 (by omega)) ((if_neg n01).trans (J20_no _ _)), ?_, Or.inr ⟨rfl, rfl⟩⟩
      show (R_at u + 1).toInt = ((b + 1 : Nat) : Int)
      omega
  · rw [if_neg e1]
    exact ⟨0, R_at u, R_h_sounds u, z_bq (p1 e1) ((if_neg n01).trans (J20_no _ _)), ha, Or.inr ⟨rfl, rfl⟩⟩
theorem J21_no (x : Int32) (u : SR) : mR_readSwap_J21 x (-1) u = some (0, (R_at u, R_h_swaps u)) := if_neg n01
theorem c_swap {u : SR} {n : Nat} {c : Nat → Int} (T : TR u n c) {b : Nat} (ha : (R_at u).toInt = b) (hb : b ≤ n) : ∃ (x p : Int32) (g : Nat → Int32), mR_readSwap u = some (x, (p, g)) ∧ p.toInt = (spSwap c b).2.1 ∧ (((spSwap c b).1 = true ∧ x = 1 ∧ ∃ A Z : Int32, zrg 0 9 A ∧ (spSwap c b).2.2 = (4, 16 * A, Z, []) ∧ g = upd (R_h_swaps u) A.toInt.toNat Z) ∨ ((spSwap c b).1 = false ∧ x = 0)) := by
  have hc := T.2.2.2
  have h100 := T.2.1
  have hx1 := z_one (R_at u) (by omega) (by omega)
  have hx2 := z_one (R_at u + 1) (by omega) (by omega)
  have hx3 := z_one (R_at u + 1 + 1) (by omega) (by omega)
  have hx4 := z_one (R_at u + 1 + 1 + 1) (by omega) (by omega)
  have TT : ∀ p, TR (R_put_at_h_swaps p u) n c := fun _ => T
  unfold mR_readSwap spSwap
  obtain ⟨p1, p2, p3⟩ := c_part T ha hb (x := 9) (by decide)
  have k9 : (9 : Int32).toInt = 9 := by decide
  rw [k9] at p2 p3
  by_cases e1 : c b = 32
  · have hn1 : b < n := c_lt hc (by omega)
    rw [if_pos e1]
    by_cases e2 : 48 ≤ c (b + 1) ∧ c (b + 1) ≤ 57
    · have hn2 : b + 1 < n := c_lt hc (by omega)
      rw [if_pos e2]
      have o1 := p3 e1 (by omega)
      obtain ⟨q1, q2, q3⟩ := c_part (TT (R_at u + 1 + 1, R_h_swaps u)) (b := b + 2) (by show (R_at u + 1 + 1).toInt = _; omega) (by omega) (x := 9) (by decide)
      rw [k9] at q2 q3
      by_cases e3 : c (b + 2) = 32
      · have hn3 : b + 2 < n := c_lt hc (by omega)
        rw [if_pos e3]
        by_cases e4 : 48 ≤ c (b + 3) ∧ c (b + 3) ≤ 57
        · rw [if_pos e4]
          have o2 := q3 e3 (by show 48 ≤ c (b + 3) ∧ c (b + 3) ≤ 48 + 9; omega)
          have fA := spFg_I e2
          refine ⟨1, R_at u + 1 + 1 + 1 + 1, upd (R_h_swaps u) (spFg (c (b + 1))).toInt.toNat (spFg (c (b + 3))), z_bq o1 ((if_pos (fg_pos e2)).trans (z_bq o2 ((if_pos (fg_pos e4)).trans (zgi_ok _ (show 0 ≤ (spFg (c (b + 1))).toInt by omega) (show (spFg (c (b + 1))).toInt < (10 : Nat) by omega))))), ?_, Or.inl ⟨rfl, rfl, _, _, ⟨by omega, by omega⟩, rfl, rfl⟩⟩
          show (R_at u + 1 + 1 + 1 + 1).toInt = ((b + 4 : Nat) : Int)
          omega
        · rw [if_neg e4]
          refine ⟨0, R_at u + 1 + 1 + 1, R_h_swaps u, z_bq o1 ((if_pos (fg_pos e2)).trans (z_bq (q2 e3 (by show ¬ (48 ≤ c (b + 3) ∧ c (b + 3) ≤ 48 + 9); omega)) (J21_no _ _))), ?_, Or.inr ⟨rfl, rfl⟩⟩
          show (R_at u + 1 + 1 + 1).toInt = ((b + 3 : Nat) : Int)
          omega
      · rw [if_neg e3]
        refine ⟨0, R_at u + 1 + 1, R_h_swaps u, z_bq o1 ((if_pos (fg_pos e2)).trans (z_bq (q1 e3) (J21_no _ _))), ?_, Or.inr ⟨rfl, rfl⟩⟩
        show (R_at u + 1 + 1).toInt = ((b + 2 : Nat) : Int)
        omega
    · rw [if_neg e2]
      refine ⟨0, R_at u + 1, R_h_swaps u, z_bq (p2 e1 (by omega)) ((if_neg n01).trans (J21_no _ _)), ?_, Or.inr ⟨rfl, rfl⟩⟩
      show (R_at u + 1).toInt = ((b + 1 : Nat) : Int)
      omega
  · rw [if_neg e1]
    exact ⟨0, R_at u, R_h_swaps u, z_bq (p1 e1) ((if_neg n01).trans (J21_no _ _)), ha, Or.inr ⟨rfl, rfl⟩⟩
theorem h_addc {U : SH} {K : Nat} (hk : (H_clauses U).toInt = K) (h : K < 10) (x1 x2 : Int32) : mH_addClause x1 x2 U = some (H_clauses U + 1, (upd (H_senses U) K x1, (upd (H_amounts U) K x2, upd (H_ends U) K (H_stepCount U)))) := by
  unfold mH_addClause
  rw [if_neg (by (try simp only [z_in0, z_isPlaceM, z_isPlaceN, z_isLetterN, z_isTenthN, z_isTapeN, z_isTapeM]); (try simp only [Int32.lt_iff_toInt_lt, Int32.le_iff_toInt_le, ← Int32.toInt_inj, Int32.reduceToInt, Int64.reduceToInt]); omega), zgi_ok _ (by omega) (by omega), zgi_ok _ (by omega) (by omega), zgi_ok _ (by omega) (by omega), z_nat, hk, Int.toNat_natCast]
theorem c_clause {u : SR} {n : Nat} {c : Nat → Int} (T : TR u n c) {a : Nat} (ha : (R_at u).toInt = a) (han : a ≤ n) {C : List ZC} (H : RHv C (R_toH2 u)) (hC : C.length ≤ 9) (hz : zsm (C.filter zee) ≤ a) : CC u C (spC c n a) (mR_readClause u) := by
  have hc := T.2.2.2
  have h100 := T.2.1
  have TT : ∀ p, TR (R_putm_readClause p u) n c := fun _ => T
  unfold mR_readClause
  obtain ⟨w, q, j1, j2, j3⟩ := c_word T ha han
  unfold spC
  refine CC_b j1 ?_
  by_cases e : spP c a = (zwl (spSel c a)).length
  · obtain ⟨hw, hq⟩ := j2 e
    rw [if_pos e]
    have hbn : a + spP c a ≤ n := spPre_lt hc _ a (zwl_n1 _ (spSel_lt c a)) han
    have hi := spSel_lt c a
    have hab : a ≤ a + spP c a := by omega
    generalize a + spP c a = b at *
    generalize spSel c a = i at *
    clear j1 j2 j3 e
    unfold spBody
    by_cases i2 : i = 2
    · rw [if_pos i2, if_pos (show w = 2 by rw [hw, i2]; rfl)]
      obtain ⟨x, p, l, k1, k2, k3⟩ := c_late (TT (q, (R_h_late u, (R_h_clauses u, (R_h_stepCount u, (R_h_sounds u, (R_h_swaps u, (R_h_senses u, (R_h_amounts u, (R_h_ends u, R_h_steps u)))))))))) (b := b) hq hbn
      refine CC_b k1 ?_
      rcases k3 with ⟨d1, rfl, d2⟩ | ⟨d1, rfl⟩
      · refine ⟨1, _, zgb_1 _, k2, Or.inl ⟨d1, rfl, ?_⟩⟩
        rw [d2]
        exact RHv_late H rfl rfl rfl rfl rfl rfl rfl rfl rfl
      · exact ⟨0, _, zgb_0 _, k2, Or.inr ⟨d1, rfl⟩⟩
    · have w2 : ¬ w = 2 := by
        rw [hw]
        rcases (show i = 0 ∨ i = 1 ∨ i = 3 ∨ i = 4 by omega) with rfl | rfl | rfl | rfl <;> decide
      rw [if_neg i2, if_neg w2]
      by_cases i3 : i = 3
      · rw [if_pos i3, if_pos (show w = 3 by rw [hw, i3]; rfl)]
        obtain ⟨x, p, g, k1, k2, k3⟩ := c_hears (TT (q, (R_h_late u, (R_h_clauses u, (R_h_stepCount u, (R_h_sounds u, (R_h_swaps u, (R_h_senses u, (R_h_amounts u, (R_h_ends u, R_h_steps u)))))))))) (b := b) hq hbn
        refine CC_b k1 ?_
        rcases k3 with ⟨d1, rfl, A, S, Z, hA, hS, d2, d3⟩ | ⟨d1, rfl⟩
        · refine ⟨1, _, zgb_1 _, k2, Or.inl ⟨d1, rfl, ?_⟩⟩
          rw [d2]
          exact RHv_hears hA hS H rfl rfl rfl rfl rfl rfl d3 rfl rfl
        · exact ⟨0, _, zgb_0 _, k2, Or.inr ⟨d1, rfl⟩⟩
      · have w3 : ¬ w = 3 := by
          rw [hw]
          rcases (show i = 0 ∨ i = 1 ∨ i = 4 by omega) with rfl | rfl | rfl <;> decide
        rw [if_neg i3, if_neg w3]
        by_cases i4 : i = 4
        · rw [if_pos i4, if_pos (show w = 4 by rw [hw, i4]; rfl)]
          obtain ⟨x, p, g, k1, k2, k3⟩ := c_swap (TT (q, (R_h_late u, (R_h_clauses u, (R_h_stepCount u, (R_h_sounds u, (R_h_swaps u, (R_h_senses u, (R_h_amounts u, (R_h_ends u, R_h_steps u)))))))))) (b := b) hq hbn
          refine CC_b k1 ?_
          rcases k3 with ⟨d1, rfl, A, Z, hA, d2, d3⟩ | ⟨d1, rfl⟩
          · refine ⟨1, _, zgb_1 _, k2, Or.inl ⟨d1, rfl, ?_⟩⟩
            rw [d2]
            exact RHv_swap hA H rfl rfl rfl rfl rfl rfl rfl d3 rfl
          · exact ⟨0, _, zgb_0 _, k2, Or.inr ⟨d1, rfl⟩⟩
        · have w4 : ¬ w = 4 := by
            rw [hw]
            rcases (show i = 0 ∨ i = 1 by omega) with rfl | rfl <;> decide
          have wn : ¬ w < 0 := by
            rw [hw]
            rcases (show i = 0 ∨ i = 1 by omega) with rfl | rfl <;> decide
          have w01 : w = 0 ∨ w = 1 := by
            rw [hw]
            rcases (show i = 0 ∨ i = 1 by omega) with rfl | rfl
            · exact Or.inl rfl
            · exact Or.inr rfl
          have hq1 := z_one q (by omega) (by omega)
          rw [if_neg i4, if_neg w4, if_neg wn, ← hw.symm]
          unfold spEar
          rw [← hw]
          by_cases e1 : c b = 32
          · have hn1 : b < n := c_lt hc (by omega)
            rw [if_pos e1]
            refine CC_b (c_skY (TT (q, (R_h_late u, (R_h_clauses u, (R_h_stepCount u, (R_h_sounds u, (R_h_swaps u, (R_h_senses u, (R_h_amounts u, (R_h_ends u, R_h_steps u)))))))))) hq (x := 32) (e1.trans (by decide)) (by decide)) ?_
            rw [if_neg n10]
            obtain ⟨w1, w2⟩ := c_number (TT (q + 1, (R_h_late u, (R_h_clauses u, (R_h_stepCount u, (R_h_sounds u, (R_h_swaps u, (R_h_senses u, (R_h_amounts u, (R_h_ends u, R_h_steps u)))))))))) (a := b + 1) (by show (q + 1).toInt = _; omega) (by omega)
            cases hN : spNum c (b + 1) with
            | none =>
              refine CC_b (w1 hN) ?_
              rw [if_pos (show (-1 : Int32) < 0 by decide)]
              exact CC_no (show (q + 1).toInt = ((b + 1 : Nat) : Int) by omega) rfl
            | some t =>
              obtain ⟨d, a'⟩ := t
              obtain ⟨g1, g2, g3, g4⟩ := spNum_rg hc hN
              obtain ⟨p, am, f1, f2, f3⟩ := w2 d a' hN
              have eam : am = Int32.ofInt d := Int32.toInt_inj.mp (by rw [f3, ofInt_rg (by omega) (by omega)])
              have hp1 := z_one p (by omega) (by omega)
              refine CC_b f1 ?_
              rw [if_neg (show ¬ am < 0 by rw [Int32.lt_iff_toInt_lt, f3]; simp only [Int32.reduceToInt]; omega)]
              show CC u C (if c a' = 32 then (if (spTop c n (a' + 1)).1 = true then (true, (spTop c n (a' + 1)).2.1, (w, 0, Int32.ofInt d, (spTop c n (a' + 1)).2.2)) else (false, (spTop c n (a' + 1)).2.1, zC0)) else ((false, a', zC0) : ZQ)) _
              by_cases e2 : c a' = 32
              · have hn2 : a' < n := c_lt hc (by omega)
                rw [if_pos e2]
                refine CC_b (c_skY (TT (p, (R_h_late u, (R_h_clauses u, (R_h_stepCount u, (R_h_sounds u, (R_h_swaps u, (R_h_senses u, (R_h_amounts u, (R_h_ends u, R_h_steps u)))))))))) f2 (x := 32) (e2.trans (by decide)) (by decide)) ?_
                rw [if_neg n10]
                obtain ⟨x, p', k, g, o1, o2, o3⟩ := c_top hc (R_putm_readClause (p + 1, (R_h_late u, (R_h_clauses u, (R_h_stepCount u, (R_h_sounds u, (R_h_swaps u, (R_h_senses u, (R_h_amounts u, (R_h_ends u, R_h_steps u))))))))) u) (a' + 1) (zsm (C.filter zee)) T (by show (p + 1).toInt = _; omega) (by omega) H.2.1 (by omega)
                refine CC_b o1 ?_
                rcases o3 with ⟨d1, rfl, d3, d4, d5⟩ | ⟨d1, rfl⟩
                · rw [if_neg n10, if_pos d1]
                  have hl := List.length_filter_le zee C
                  have hk1 : (R_h_clauses u).toInt = (C.filter zee).length := H.1
                  refine CC_b (h_addc (U := R_toH2 (R_putm_readClause (p', (R_h_late u, (R_h_clauses u, (k, (R_h_sounds u, (R_h_swaps u, (R_h_senses u, (R_h_amounts u, (R_h_ends u, g))))))))) u)) (K := (C.filter zee).length) hk1 (by omega) _ _) ?_
                  refine ⟨1, (p', (R_h_late u, (R_h_clauses u + 1, (k, (R_h_sounds u, (R_h_swaps u, (upd (R_h_senses u) (C.filter zee).length w, (upd (R_h_amounts u) (C.filter zee).length am, (upd (R_h_ends u) (C.filter zee).length k, g))))))))), rfl, o2, Or.inl ⟨rfl, rfl, ?_⟩⟩
                  show RHv (C ++ [(w, 0, Int32.ofInt d, (spTop c n (a' + 1)).2.2)]) _
                  rw [← eam]
                  exact RHv_ear (g := g) w01 H (z_one (R_h_clauses u) (by omega) (by omega)) d3 rfl rfl rfl rfl rfl rfl rfl d4 d5
                · rw [if_pos rfl, if_neg (by rw [d1]; decide)]
                  exact CC_no o2 rfl
              · rw [if_neg e2]
                refine CC_b (c_skN (TT (p, (R_h_late u, (R_h_clauses u, (R_h_stepCount u, (R_h_sounds u, (R_h_swaps u, (R_h_senses u, (R_h_amounts u, (R_h_ends u, R_h_steps u)))))))))) f2 (x := 32) (fun e => e2 (e.trans (by decide))) (by decide)) ?_
                rw [if_pos rfl]
                exact CC_no f2 rfl
          · rw [if_neg e1]
            refine CC_b (c_skN (TT (q, (R_h_late u, (R_h_clauses u, (R_h_stepCount u, (R_h_sounds u, (R_h_swaps u, (R_h_senses u, (R_h_amounts u, (R_h_ends u, R_h_steps u)))))))))) hq (x := 32) (fun e => e1 (e.trans (by decide))) (by decide)) ?_
            rw [if_pos rfl]
            exact CC_no hq rfl
  · obtain ⟨hw, hq⟩ := j3 e
    rw [if_neg e, if_neg (show ¬ w = 2 by rw [hw]; decide), if_neg (show ¬ w = 3 by rw [hw]; decide), if_neg (show ¬ w = 4 by rw [hw]; decide), if_pos (show w < 0 by rw [hw]; decide)]
    exact CC_no hq rfl
