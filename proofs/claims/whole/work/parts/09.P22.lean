/-! 09.P22: boxes -/
def zsum (v : SM) (a b : Int32) : Nat → Nat → Int32 → Int32
  | 0, _, acc => acc
  | d + 1, i, acc => zsum v a b d (i + 1) (acc + mM_min (mM_apart a (M_side v i)) (mM_apart b (M_side v i)) * M_far v i)
theorem z_off {u : SV} {v : SM} (R : Rel u v) {a b : Int32} (ha : zrg 0 40 a) (hb : zrg 0 40 b) {i : Nat} (hi : i < 8) : zrg 0 1600 (mM_min (mM_apart a (M_side v i)) (mM_apart b (M_side v i)) * M_far v i) := by
  obtain ⟨⟨f1, f2⟩, f3, f4⟩ := R.2.2.1.2 i hi
  unfold zrg at *
  have e1 := z_apart (a := a) (b := M_side v i) (by omega) (by omega)
  have e2 := z_apart (a := b) (b := M_side v i) (by omega) (by omega)
  have e3 := zmin_I (mM_apart a (M_side v i)) (mM_apart b (M_side v i))
  rw [← z_min2] at e3
  generalize mM_min (mM_apart a (M_side v i)) (mM_apart b (M_side v i)) = m at *
  have hm : 0 ≤ m.toInt ∧ m.toInt ≤ 40 := by split at e3 <;> split at e1 <;> split at e2 <;> omega
  have b1 : 0 ≤ m.toInt * (M_far v i).toInt := Int.mul_nonneg hm.1 f3.1
  have b2 : m.toInt * (M_far v i).toInt ≤ 40 * (M_far v i).toInt := Int.mul_le_mul_of_nonneg_right hm.2 f3.1
  rw [z_mulI (by omega) (by omega)]
  omega
theorem zsum_rg {u : SV} {v : SM} (R : Rel u v) {a b : Int32} (ha : zrg 0 40 a) (hb : zrg 0 40 b) : ∀ (d i : Nat) (acc : Int32), i + d ≤ 8 → 0 ≤ acc.toInt → acc.toInt ≤ 1600 * i → 0 ≤ (zsum v a b d i acc).toInt ∧ (zsum v a b d i acc).toInt ≤ 12800 := by
  intro d
  induction d with
  | zero => intro i acc h1 h2 h3; exact ⟨h2, by show acc.toInt ≤ 12800; omega⟩
  | succ d ih =>
    intro i acc h1 h2 h3
    have h := z_off R ha hb (i := i) (by omega)
    unfold zrg at h
    show 0 ≤ (zsum v a b d (i + 1) _).toInt ∧ (zsum v a b d (i + 1) _).toInt ≤ 12800
    have e := z_addI (x := acc) (y := mM_min (mM_apart a (M_side v i)) (mM_apart b (M_side v i)) * M_far v i) (by omega) (by omega)
    exact ih (i + 1) _ (by omega) (by omega) (by omega)
theorem l_bsV {u : SV} {v : SM} (R : Rel u v) {a b : Int32} (ha : zrg 0 40 a) (hb : zrg 0 40 b) (d : Nat) : ∀ (n i : Nat) (acc x : Int32), (i : Int) + d = (M_seats v).toInt → d < n → x.toInt = i → mV_boxesSum_L5 a b u n acc x = some (zsum v a b d i acc) := by
  have h4 := R.2.2.1.1.1
  have hl := R.2.2.1.1.2
  unfold zrg at hl
  have ha' := ha
  have hb' := hb
  unfold zrg at ha' hb'
  induction d with
  | zero =>
    intro n i acc x h1 h2 h3
    obtain ⟨n, rfl⟩ : ∃ m, n = m + 1 := ⟨n - 1, by omega⟩
    rw [mV_boxesSum_L5, h4, if_pos (by (try simp only [z_in0, z_isPlaceM, z_isPlaceN, z_isLetterN, z_isTenthN, z_isTapeN, z_isTapeM]); (try simp only [Int32.lt_iff_toInt_lt, Int32.le_iff_toInt_le, ← Int32.toInt_inj, Int32.reduceToInt, Int64.reduceToInt]); omega)]
    rfl
  | succ d ih =>
    intro n i acc x h1 h2 h3
    obtain ⟨n, rfl⟩ : ∃ m, n = m + 1 := ⟨n - 1, by omega⟩
    have hx := z_one x (by omega) (by omega)
    obtain ⟨⟨f1, f2⟩, f3, f4⟩ := R.2.2.1.2 i (by omega)
    have ex : x.toNatClampNeg = i := by rw [z_nat]; omega
    rw [mV_boxesSum_L5, h4, if_neg (by (try simp only [z_in0, z_isPlaceM, z_isPlaceN, z_isLetterN, z_isTenthN, z_isTapeN, z_isTapeM]); (try simp only [Int32.lt_iff_toInt_lt, Int32.le_iff_toInt_le, ← Int32.toInt_inj, Int32.reduceToInt, Int64.reduceToInt]); omega), zgi_ok _ (by omega) (by omega), zgi_ok _ (by omega) (by omega), zgi_ok _ (by omega) (by omega), ex, f1, f2, q_abs ha'.1 f4.1, q_abs hb'.1 f4.1, ← z_min2]
    exact ih n (i + 1) _ (x + 1) (by omega) (by omega) (by omega)
theorem l_bsM {u : SV} {v : SM} (R : Rel u v) {k w o t l a b : Int32} (KK : Int32 → Int32 → Int32 → Int32 → Option Int32) (d : Nat) : ∀ (n i : Nat) (acc x : Int32), (i : Int) + d = (M_seats v).toInt → d < n → x.toInt = i → mM_boxes_L84 KK k w o t l a b v n acc x = if l < 0 ∨ zsum v a b d i acc < l then KK a b (zsum v a b d i acc) (b + 1) else KK o t l (b + 1) := by
  have hl := R.2.2.1.1.2
  unfold zrg at hl
  induction d with
  | zero =>
    intro n i acc x h1 h2 h3
    obtain ⟨n, rfl⟩ : ∃ m, n = m + 1 := ⟨n - 1, by omega⟩
    rw [mM_boxes_L84, if_pos (by (try simp only [z_in0, z_isPlaceM, z_isPlaceN, z_isLetterN, z_isTenthN, z_isTapeN, z_isTapeM]); (try simp only [Int32.lt_iff_toInt_lt, Int32.le_iff_toInt_le, ← Int32.toInt_inj, Int32.reduceToInt, Int64.reduceToInt]); omega)]
    unfold mM_boxes_J157
    show _ = if l < 0 ∨ acc < l then KK a b acc (b + 1) else KK o t l (b + 1)
    by_cases c1 : l < 0
    · rw [if_pos c1, if_pos (Or.inl c1)]
    · rw [if_neg c1]
      by_cases c2 : acc < l
      · rw [if_pos c2, if_pos (Or.inr c2)]
      · rw [if_neg c2, if_neg (by rintro (h | h); exact c1 h; exact c2 h)]
  | succ d ih =>
    intro n i acc x h1 h2 h3
    obtain ⟨n, rfl⟩ : ∃ m, n = m + 1 := ⟨n - 1, by omega⟩
    have hx := z_one x (by omega) (by omega)
    have ex : x.toNatClampNeg = i := by rw [z_nat]; omega
    rw [mM_boxes_L84, if_neg (by (try simp only [z_in0, z_isPlaceM, z_isPlaceN, z_isLetterN, z_isTenthN, z_isTapeN, z_isTapeM]); (try simp only [Int32.lt_iff_toInt_lt, Int32.le_iff_toInt_le, ← Int32.toInt_inj, Int32.reduceToInt, Int64.reduceToInt]); omega), zgi_ok _ (by omega) (by omega), zgi_ok _ (by omega) (by omega), zgi_ok _ (by omega) (by omega), ex]
    exact ih n (i + 1) _ (x + 1) (by omega) (by omega) (by omega)
/-- the class's best row, and what the reference has of it -/
def RB (best o t l : Int32) (pos : Int) : Prop := (l.toInt = -1 ∧ best.toInt = 2147483647) ∨ ((0 ≤ l.toInt ∧ l.toInt ≤ 12800) ∧ (0 ≤ o.toInt ∧ o.toInt ≤ 40) ∧ (0 ≤ t.toInt ∧ t.toInt ≤ 40) ∧ best.toInt = (l.toInt * 41 + o.toInt) * 41 + t.toInt ∧ o.toInt * 41 + t.toInt < pos)
theorem RB_mono {best o t l : Int32} {p q : Int} (h : RB best o t l p) (hpq : p ≤ q) : RB best o t l q := by
  rcases h with h | ⟨h1, h2, h3, h4, h5⟩
  · exact Or.inl h
  · exact Or.inr ⟨h1, h2, h3, h4, by omega⟩
theorem RB_row {q a b : Int32} (hq : 0 ≤ q.toInt ∧ q.toInt ≤ 12800) (ha : zrg 0 40 a) (hb : zrg 0 40 b) : ((((q * 41) + a) * 41) + b).toInt = (q.toInt * 41 + a.toInt) * 41 + b.toInt := by
  unfold zrg at ha hb
  have e1 : (q * 41).toInt = q.toInt * 41 := by
    rw [z_mulI (by simp only [Int32.reduceToInt]; omega) (by simp only [Int32.reduceToInt]; omega)]
    simp only [Int32.reduceToInt]
  have e2 : (q * 41 + a).toInt = q.toInt * 41 + a.toInt := by rw [z_addI (by omega) (by omega), e1]
  have e3 : ((q * 41 + a) * 41).toInt = (q.toInt * 41 + a.toInt) * 41 := by
    rw [z_mulI (by simp only [Int32.reduceToInt]; omega) (by simp only [Int32.reduceToInt]; omega), e2]
    simp only [Int32.reduceToInt]
  rw [z_addI (by omega) (by omega), e3]
theorem RB_step {best o t l q a b : Int32} (h : RB best o t l (a.toInt * 41 + b.toInt)) (hq : 0 ≤ q.toInt ∧ q.toInt ≤ 12800) (ha : zrg 0 40 a) (hb : zrg 0 40 b) : if l < 0 ∨ q < l then RB (zmin best ((((q * 41) + a) * 41) + b)) a b q (a.toInt * 41 + b.toInt + 1) else RB (zmin best ((((q * 41) + a) * 41) + b)) o t l (a.toInt * 41 + b.toInt + 1) := by
  have e := RB_row hq ha hb
  have m := zmin_I best ((((q * 41) + a) * 41) + b)
  rw [e] at m
  unfold zrg at ha hb
  simp only [Int32.lt_iff_toInt_lt, Int32.reduceToInt]
  rcases h with ⟨h1, h2⟩ | ⟨h1, h2, h3, h4, h5⟩
  · rw [if_pos (by omega)]
    exact Or.inr ⟨hq, ha, hb, by rw [m, if_pos (by omega)], by omega⟩
  · by_cases c : q.toInt < l.toInt
    · rw [if_pos (Or.inr c)]
      exact Or.inr ⟨hq, ha, hb, by rw [m, if_pos (by omega)], by omega⟩
    · rw [if_neg (by omega)]
      exact Or.inr ⟨h1, h2, h3, by rw [m, if_neg (by omega), h4], by omega⟩
theorem l_bxI {u : SV} {v : SM} (R : Rel u v) {k w a z : Int32} (hk : (k = 1 ∧ z = a) ∨ (¬ k = 1 ∧ z = 40)) (ha : zrg 0 40 a) (KV : Int32 → Int32 → Option Int32) (KM : Int32 → Int32 → Int32 → Int32 → Option Int32) (d : Nat) : ∀ (n : Nat) (best o t l y : Int32), z.toInt + 1 = y.toInt + d → 0 ≤ y.toInt → d < n → RB best o t l (a.toInt * 41 + y.toInt) → ∃ best' o' t' l', mV_bestBoxes_L51 KV k 41 a z u n best y = KV best' (a + 1) ∧ mM_boxes_L59 KM k w a v n o t l y = KM o' t' l' (a + 1) ∧ RB best' o' t' l' (a.toInt * 41 + z.toInt + 1) ∧ (l'.toInt = -1 → l.toInt = -1 ∧ d = 0) := by
  have hsz := R.2.2.1.1.2
  unfold zrg at hsz
  have ha' := ha
  unfold zrg at ha'
  have hz : z.toInt ≤ 40 := by
    rcases hk with ⟨_, h⟩ | ⟨_, h⟩
    · rw [h]; omega
    · rw [h]; decide
  have ha1 := z_one a (by omega) (by omega)
  induction d with
  | zero =>
    intro n best o t l y h1 h0 h2 h3
    obtain ⟨n, rfl⟩ : ∃ m, n = m + 1 := ⟨n - 1, by omega⟩
    refine ⟨best, o, t, l, ?_, ?_, RB_mono h3 (by omega), fun h => ⟨h, rfl⟩⟩
    · rw [mV_bestBoxes_L51, if_pos (by (try simp only [z_in0, z_isPlaceM, z_isPlaceN, z_isLetterN, z_isTenthN, z_isTapeN, z_isTapeM]); (try simp only [Int32.lt_iff_toInt_lt, Int32.le_iff_toInt_le, ← Int32.toInt_inj, Int32.reduceToInt, Int64.reduceToInt]); omega)]
    · rw [mM_boxes_L59]
      rcases hk with ⟨h, h'⟩ | ⟨h, h'⟩
      · rw [h'] at h1
        rw [if_pos h, if_pos (by (try simp only [z_in0, z_isPlaceM, z_isPlaceN, z_isLetterN, z_isTenthN, z_isTapeN, z_isTapeM]); (try simp only [Int32.lt_iff_toInt_lt, Int32.le_iff_toInt_le, ← Int32.toInt_inj, Int32.reduceToInt, Int64.reduceToInt]); omega)]
      · rw [h'] at h1
        simp only [Int32.reduceToInt] at h1
        rw [if_neg h, if_pos (by (try simp only [z_in0, z_isPlaceM, z_isPlaceN, z_isLetterN, z_isTenthN, z_isTapeN, z_isTapeM]); (try simp only [Int32.lt_iff_toInt_lt, Int32.le_iff_toInt_le, ← Int32.toInt_inj, Int32.reduceToInt, Int64.reduceToInt]); omega)]
  | succ d ih =>
    intro n best o t l y h1 h0 h2 h3
    obtain ⟨n, rfl⟩ : ∃ m, n = m + 1 := ⟨n - 1, by omega⟩
    have hy := z_one y (by omega) (by omega)
    have hyr : zrg 0 40 y := ⟨by omega, by omega⟩
    have eV := l_bsV R (a := a) (b := y) ha hyr (M_seats v).toInt.toNat 256 0 0 0 (by omega) (by omega) rfl
    have eM := l_bsM R (k := k) (w := w) (o := o) (t := t) (l := l) (a := a) (b := y) (mM_boxes_L59 KM k w a v n) (M_seats v).toInt.toNat 256 0 0 0 (by omega) (by omega) rfl
    have hS := zsum_rg R ha hyr (M_seats v).toInt.toNat 0 0 (by omega) (by decide) (by decide)
    have hst := RB_step h3 hS ha hyr
    have e1 : mV_bestBoxes_L51 KV k 41 a z u (n + 1) best y = mV_bestBoxes_L51 KV k 41 a z u n (zmin best ((((zsum v a y (M_seats v).toInt.toNat 0 0 * 41) + a) * 41) + y)) (y + 1) := by
      rw [mV_bestBoxes_L51, if_neg (by (try simp only [z_in0, z_isPlaceM, z_isPlaceN, z_isLetterN, z_isTenthN, z_isTapeN, z_isTapeM]); (try simp only [Int32.lt_iff_toInt_lt, Int32.le_iff_toInt_le, ← Int32.toInt_inj, Int32.reduceToInt, Int64.reduceToInt]); omega)]
      unfold mV_boxesSum
      rw [eV, Option.bind_some]
    have e2 : mM_boxes_L59 KM k w a v (n + 1) o t l y = mM_boxes_L84 (mM_boxes_L59 KM k w a v n) k w o t l a y v 256 0 0 := by
      rw [mM_boxes_L59]
      rcases hk with ⟨h, h'⟩ | ⟨h, h'⟩
      · rw [h'] at h1
        rw [if_pos h, if_neg (by (try simp only [z_in0, z_isPlaceM, z_isPlaceN, z_isLetterN, z_isTenthN, z_isTapeN, z_isTapeM]); (try simp only [Int32.lt_iff_toInt_lt, Int32.le_iff_toInt_le, ← Int32.toInt_inj, Int32.reduceToInt, Int64.reduceToInt]); omega)]
      · rw [h'] at h1
        simp only [Int32.reduceToInt] at h1
        rw [if_neg h, if_neg (by (try simp only [z_in0, z_isPlaceM, z_isPlaceN, z_isLetterN, z_isTenthN, z_isTapeN, z_isTapeM]); (try simp only [Int32.lt_iff_toInt_lt, Int32.le_iff_toInt_le, ← Int32.toInt_inj, Int32.reduceToInt, Int64.reduceToInt]); omega)]
    rw [e1, e2, eM]
    by_cases c : l < 0 ∨ zsum v a y (M_seats v).toInt.toNat 0 0 < l
    · rw [if_pos c] at hst ⊢
      obtain ⟨b', o', t', l', g1, g2, g3, g4⟩ := ih n _ a y (zsum v a y (M_seats v).toInt.toNat 0 0) (y + 1) (by omega) (by omega) (by omega) (RB_mono hst (by omega))
      exact ⟨b', o', t', l', g1, g2, g3, fun h => by have := (g4 h).1; omega⟩
    · rw [if_neg c] at hst ⊢
      obtain ⟨b', o', t', l', g1, g2, g3, g4⟩ := ih n _ o t l (y + 1) (by omega) (by omega) (by omega) (RB_mono hst (by omega))
      refine ⟨b', o', t', l', g1, g2, g3, fun h => ?_⟩
      exfalso
      apply c
      left
      rw [Int32.lt_iff_toInt_lt, (g4 h).1]
      decide
theorem l_bxO {u : SV} {v : SM} (R : Rel u v) {k w : Int32} (d : Nat) : ∀ (n : Nat) (best o t l a : Int32), a.toInt + d = 41 → 0 ≤ a.toInt → d < n → RB best o t l (a.toInt * 41) → (l.toInt = -1 → a.toInt = 0) → ∃ best' o' t' l', mV_bestBoxes_L10 k 41 u n best a = some best' ∧ mM_boxes_L36 k w v n o t l a = (if w = 0 then some o' else if w = 2 then some l' else if k = 1 then some (-5) else some t') ∧ RB best' o' t' l' 1681 ∧ ¬ l'.toInt = -1 := by
  induction d with
  | zero =>
    intro n best o t l a h1 h0 h2 h3 h4
    obtain ⟨n, rfl⟩ : ∃ m, n = m + 1 := ⟨n - 1, by omega⟩
    rw [mV_bestBoxes_L10, mM_boxes_L36, if_pos (by (try simp only [z_in0, z_isPlaceM, z_isPlaceN, z_isLetterN, z_isTenthN, z_isTapeN, z_isTapeM]); (try simp only [Int32.lt_iff_toInt_lt, Int32.le_iff_toInt_le, ← Int32.toInt_inj, Int32.reduceToInt, Int64.reduceToInt]); omega), if_pos (by (try simp only [z_in0, z_isPlaceM, z_isPlaceN, z_isLetterN, z_isTenthN, z_isTapeN, z_isTapeM]); (try simp only [Int32.lt_iff_toInt_lt, Int32.le_iff_toInt_le, ← Int32.toInt_inj, Int32.reduceToInt, Int64.reduceToInt]); omega)]
    exact ⟨best, o, t, l, rfl, rfl, RB_mono h3 (by omega), fun h => by have := h4 h; omega⟩
  | succ d ih =>
    intro n best o t l a h1 h0 h2 h3 h4
    obtain ⟨n, rfl⟩ : ∃ m, n = m + 1 := ⟨n - 1, by omega⟩
    have ha : zrg 0 40 a := ⟨by omega, by omega⟩
    have ha1 := z_one a (by omega) (by omega)
    have n1 : ¬ (40 : Int32) < a := by (try simp only [z_in0, z_isPlaceM, z_isPlaceN, z_isLetterN, z_isTenthN, z_isTapeN, z_isTapeM]); (try simp only [Int32.lt_iff_toInt_lt, Int32.le_iff_toInt_le, ← Int32.toInt_inj, Int32.reduceToInt, Int64.reduceToInt]); omega
    have n2 : ¬ (41 : Int32) ≤ a := by (try simp only [z_in0, z_isPlaceM, z_isPlaceN, z_isLetterN, z_isTenthN, z_isTapeN, z_isTapeM]); (try simp only [Int32.lt_iff_toInt_lt, Int32.le_iff_toInt_le, ← Int32.toInt_inj, Int32.reduceToInt, Int64.reduceToInt]); omega
    rw [mV_bestBoxes_L10, mM_boxes_L36, if_neg n1, if_neg n2]
    unfold mV_bestBoxes_J31
    by_cases c : k = 1
    · simp only [if_pos c]
      obtain ⟨b', o', t', l', g1, g2, g3, g4⟩ := l_bxI R (k := k) (w := w) (z := a) (Or.inl ⟨c, rfl⟩) ha (mV_bestBoxes_L10 k 41 u n) (mM_boxes_L36 k w v n) 1 256 best o t l a (by omega) (by omega) (by omega) (RB_mono h3 (by omega))
      rw [g1, g2]
      have q := ih n b' o' t' l' (a + 1) (by omega) (by omega) (by omega) (RB_mono g3 (by omega)) (fun h => by have := (g4 h).2; omega)
      simp only [if_pos c] at q
      exact q
    · simp only [if_neg c]
      obtain ⟨b', o', t', l', g1, g2, g3, g4⟩ := l_bxI R (k := k) (w := w) (z := 40) (Or.inr ⟨c, rfl⟩) ha (mV_bestBoxes_L10 k 41 u n) (mM_boxes_L36 k w v n) (40 - a.toInt).toNat 256 best o t l (a + 1) (by simp only [Int32.reduceToInt]; omega) (by omega) (by omega) (RB_mono h3 (by omega))
      rw [g1, g2]
      have q := ih n b' o' t' l' (a + 1) (by omega) (by omega) (by omega) (RB_mono g3 (by simp only [Int32.reduceToInt]; omega)) (fun h => by
        obtain ⟨q1, q2⟩ := g4 h
        have := h4 q1
        omega)
      simp only [if_neg c] at q
      exact q
theorem pS_boxes : zS_boxes Rel := by
  intro x1 x2 u v R
  obtain ⟨best, o, t, l, g1, g2, g3, g4⟩ := l_bxO R (k := x1) (w := x2) 41 256 2147483647 0 0 (-1) 0 rfl (by decide) (by omega) (Or.inl ⟨rfl, rfl⟩) (fun _ => rfl)
  have g3' : (0 ≤ l.toInt ∧ l.toInt ≤ 12800) ∧ (0 ≤ o.toInt ∧ o.toInt ≤ 40) ∧ (0 ≤ t.toInt ∧ t.toInt ≤ 40) ∧ best.toInt = (l.toInt * 41 + o.toInt) * 41 + t.toInt ∧ o.toInt * 41 + t.toInt < 1681 := by
    rcases g3 with h | h
    · exact absurd h.1 g4
    · exact h
  obtain ⟨h1, h2, h3, h4, h5⟩ := g3'
  have hb : 0 ≤ best.toInt := by omega
  have d1 : (best / 41).toInt = l.toInt * 41 + o.toInt := by rw [z_div hb (by decide), h4]; show _ / (41 : Int) = _; omega
  have d2 : (best / 41 - best / 41 / 41 * 41).toInt = o.toInt := by rw [z_rem (by omega) (by decide), d1]; show _ % (41 : Int) = _; omega
  have d3 : (best - best / 41 * 41).toInt = t.toInt := by rw [z_rem hb (by decide), h4]; show _ % (41 : Int) = _; omega
  have d4 : (best / ((41 : Int32) * (41 : Int32))).toInt = l.toInt := by rw [z_div hb (by decide), h4]; show _ / (1681 : Int) = _; omega
  have e2 : best / 41 - best / 41 / 41 * 41 = o := Int32.toInt_inj.mp d2
  have e3 : best - best / 41 * 41 = t := Int32.toInt_inj.mp d3
  have e4 : best / ((41 : Int32) * (41 : Int32)) = l := Int32.toInt_inj.mp d4
  have hz : ∀ {α : Type} (q : Option α), zgz (41 : Int32) q = q := fun q => if_neg (by decide)
  have hz2 : ∀ {α : Type} (q : Option α), zgz ((41 : Int32) * (41 : Int32)) q = q := fun q => if_neg (by decide)
  have g1' : mV_bestBoxes x1 u = some best := g1
  unfold mV_boxes mM_boxes mV_boxes_J37
  rw [g1', g2, Option.bind_some, hz, hz, hz, hz2, e2, e3, e4]
  (try simp only [z_in0, z_isPlaceM, z_isPlaceN, z_isLetterN, z_isTenthN, z_isTapeN, z_isTapeM]); (try simp only [Int32.lt_iff_toInt_lt, Int32.le_iff_toInt_le, ← Int32.toInt_inj, Int32.reduceToInt, Int64.reduceToInt])
  by_cases c1 : x2.toInt < 0 ∨ 2 < x2.toInt
  · rw [if_pos c1]
    refine ⟨-1, ?_, rfl, R⟩
    by_cases c2 : x2.toInt < 0
    · rw [if_pos c2]
    · rw [if_neg c2, if_neg (by omega)]
  · rw [if_neg c1]
    by_cases c3 : x1.toInt < 1 ∨ 2 < x1.toInt
    · rw [if_pos c3, if_neg (by omega), if_pos (by omega)]
      refine ⟨-2, ?_, rfl, R⟩
      by_cases c2 : x1.toInt < 1
      · rw [if_pos c2]
      · rw [if_neg c2, if_neg (by omega)]
    · rw [if_neg c3]
      have k2 : x2.toInt = 0 ∨ x2.toInt = 1 ∨ x2.toInt = 2 := by omega
      have k1 : x1.toInt = 1 ∨ x1.toInt = 2 := by omega
      rcases k1 with k1 | k1 <;> rcases k2 with k2 | k2 | k2 <;> simp (disch := omega) only [if_pos, if_neg] <;> exact ⟨_, rfl, rfl, R⟩
