/-! 09.P2: tapes -/
theorem vp_updL_eq (f : Nat → Int64) (k : Nat) (x : Int64) : vp_updL f k x k = x := if_pos rfl
theorem vp_updL_ne (f : Nat → Int64) {k j : Nat} (x : Int64) (h : j ≠ k) : vp_updL f k x j = f j := if_neg h
theorem z_one (x : Int32) (h : x.toInt < 1000000000) (h2 : -1000000000 < x.toInt) : (x + 1).toInt = x.toInt + 1 := by
  rw [z_addI (by simp only [Int32.reduceToInt]; omega) (by simp only [Int32.reduceToInt]; omega)]
  simp only [Int32.reduceToInt]
theorem z_60 {x y : Int32} (hx : 0 ≤ x.toInt ∧ x.toInt ≤ 5) (hy : 0 ≤ y.toInt ∧ y.toInt ≤ 100) : (60 * x + y).toInt = 60 * x.toInt + y.toInt := by
  have e : ((60 : Int32) * x).toInt = 60 * x.toInt := by
    rw [z_mulI (by simp only [Int32.reduceToInt]; omega) (by simp only [Int32.reduceToInt]; omega)]
    simp only [Int32.reduceToInt]
  rw [z_addI (by rw [e]; omega) (by rw [e]; omega), e]
theorem l_lay (d : Nat) : ∀ (n i : Nat) (x : Int32) (u : ST), i + d = 60 → d < n → x.toInt = i → mT_lay_L12 n x u = some (T_sort u, T_length u, fun j => if i ≤ j ∧ j < 60 then 0 else T_items u j) := by
  induction d with
  | zero =>
    intro n i x u h1 h2 h3
    obtain ⟨n, rfl⟩ : ∃ m, n = m + 1 := ⟨n - 1, by omega⟩
    rw [mT_lay_L12, if_pos (by (try simp only [z_in0, z_isPlaceM, z_isPlaceN, z_isLetterN, z_isTenthN, z_isTapeN, z_isTapeM]); (try simp only [Int32.lt_iff_toInt_lt, Int32.le_iff_toInt_le, ← Int32.toInt_inj, Int32.reduceToInt, Int64.reduceToInt]); omega)]
    have : (fun j => if i ≤ j ∧ j < 60 then (0 : Int64) else T_items u j) = T_items u := by
      funext j
      rw [if_neg (by omega)]
    rw [this]
  | succ d ih =>
    intro n i x u h1 h2 h3
    obtain ⟨n, rfl⟩ : ∃ m, n = m + 1 := ⟨n - 1, by omega⟩
    rw [mT_lay_L12, if_neg (by (try simp only [z_in0, z_isPlaceM, z_isPlaceN, z_isLetterN, z_isTenthN, z_isTapeN, z_isTapeM]); (try simp only [Int32.lt_iff_toInt_lt, Int32.le_iff_toInt_le, ← Int32.toInt_inj, Int32.reduceToInt, Int64.reduceToInt]); omega), zgi_ok _ (by omega) (by omega), ih n (i + 1) (x + 1) _ (by omega) (by omega) (by rw [z_one x (by omega) (by omega), h3]; rfl)]
    refine congrArg some (congrArg (Prod.mk _) (congrArg (Prod.mk _) (funext fun j => ?_)))
    show (if i + 1 ≤ j ∧ j < 60 then (0 : Int64) else vp_updL (T_items u) x.toNatClampNeg 0 j) = _
    rw [z_nat, h3]
    by_cases h : j = i
    · subst h
      rw [if_neg (by omega), if_pos (by omega)]
      exact vp_updL_eq _ _ _
    · rw [vp_updL_ne _ _ (by omega)]
      by_cases h5 : i + 1 ≤ j ∧ j < 60
      · rw [if_pos h5, if_pos (by omega)]
      · rw [if_neg h5, if_neg (by omega)]
theorem l_layM (t : Int32) (ht : 0 ≤ t.toInt ∧ t.toInt ≤ 5) (d : Nat) : ∀ (n i : Nat) (x : Int32) (u : SM), i + d = 60 → d < n → x.toInt = i → mM_tape_L69 t n x u = some (1, M_sort u, M_length u, fun j => if 60 * t.toInt.toNat + i ≤ j ∧ j < 60 * t.toInt.toNat + 60 then 0 else M_item u j) := by
  induction d with
  | zero =>
    intro n i x u h1 h2 h3
    obtain ⟨n, rfl⟩ : ∃ m, n = m + 1 := ⟨n - 1, by omega⟩
    rw [mM_tape_L69, if_pos (by (try simp only [z_in0, z_isPlaceM, z_isPlaceN, z_isLetterN, z_isTenthN, z_isTapeN, z_isTapeM]); (try simp only [Int32.lt_iff_toInt_lt, Int32.le_iff_toInt_le, ← Int32.toInt_inj, Int32.reduceToInt, Int64.reduceToInt]); omega)]
    have : (fun j => if 60 * t.toInt.toNat + i ≤ j ∧ j < 60 * t.toInt.toNat + 60 then (0 : Int64) else M_item u j) = M_item u := by
      funext j
      rw [if_neg (by omega)]
    rw [this]
  | succ d ih =>
    intro n i x u h1 h2 h3
    obtain ⟨n, rfl⟩ : ∃ m, n = m + 1 := ⟨n - 1, by omega⟩
    have e := z_60 ht (y := x) (by omega)
    rw [mM_tape_L69, if_neg (by (try simp only [z_in0, z_isPlaceM, z_isPlaceN, z_isLetterN, z_isTenthN, z_isTapeN, z_isTapeM]); (try simp only [Int32.lt_iff_toInt_lt, Int32.le_iff_toInt_le, ← Int32.toInt_inj, Int32.reduceToInt, Int64.reduceToInt]); omega), zgi_ok _ (by omega) (by omega), ih n (i + 1) (x + 1) _ (by omega) (by omega) (by rw [z_one x (by omega) (by omega), h3]; rfl)]
    refine congrArg some (congrArg (Prod.mk _) (congrArg (Prod.mk _) (congrArg (Prod.mk _) (funext fun j => ?_))))
    show (if 60 * t.toInt.toNat + (i + 1) ≤ j ∧ j < 60 * t.toInt.toNat + 60 then (0 : Int64) else vp_updL (M_item u) (60 * t + x).toNatClampNeg 0 j) = _
    rw [z_nat, e]
    by_cases h : j = 60 * t.toInt.toNat + i
    · rw [if_neg (by omega), if_pos (by omega)]
      have h7 : (60 * t.toInt + x.toInt).toNat = j := by omega
      rw [h7]
      exact vp_updL_eq _ _ _
    · rw [vp_updL_ne _ _ (by omega)]
      by_cases h5 : 60 * t.toInt.toNat + (i + 1) ≤ j ∧ j < 60 * t.toInt.toNat + 60
      · rw [if_pos h5, if_pos (by omega)]
      · rw [if_neg h5, if_neg (by omega)]
theorem m_lay (a b : Int32) (u : ST) : mT_lay a b u = some (a, b, fun j => if j < 60 then 0 else T_items u j) := by
  unfold mT_lay
  rw [l_lay 60 256 0 0 _ rfl (by omega) rfl]
  refine congrArg some (congrArg (Prod.mk _) (congrArg (Prod.mk _) (funext fun j => ?_)))
  show (if 0 ≤ j ∧ j < 60 then (0 : Int64) else T_items u j) = _
  simp only [Nat.zero_le, true_and]
theorem m_layM (t s l : Int32) (ht : 0 ≤ t.toInt ∧ t.toInt ≤ 5) (u : SM) (f g : Nat → Int32) : mM_tape_L69 t 256 0 (M_put_sort_length_item (f, g, M_item u) u) = some (1, f, g, fun j => if 60 * t.toInt.toNat ≤ j ∧ j < 60 * t.toInt.toNat + 60 then 0 else M_item u j) := by
  rw [l_layM t ht 60 256 0 0 _ rfl (by omega) rfl]
  rfl
theorem r_lay {u : SV} {v : SM} (R8 : Ql_tapes u v) (t : Int32) (ht : 0 ≤ t.toInt ∧ t.toInt ≤ 5) (s l : Int32) (hs : zrg (-1) 4 s) (hl : zrg 0 60 l) (hsl : s = -1 → l = 0) : Ql_tapes (V_put_ts (va_up (V_ts u) t.toNatClampNeg (T_put_sort_length_items (s, l, fun j => if j < 60 then 0 else T_items (V_ts u t.toNatClampNeg) j) (V_ts u t.toNatClampNeg))) u) (M_put_sort_length_item (upd (M_sort v) t.toNatClampNeg s, upd (M_length v) t.toNatClampNeg l, fun j => if 60 * t.toInt.toNat ≤ j ∧ j < 60 * t.toInt.toNat + 60 then 0 else M_item v j) v) := by
  intro k hk
  obtain ⟨⟨a1, a2⟩, ⟨a3, a4, a5⟩, a6⟩ := R8 k hk
  show (T_sort (va_up (V_ts u) t.toNatClampNeg _ k) = upd (M_sort v) t.toNatClampNeg s k ∧ T_length (va_up (V_ts u) t.toNatClampNeg _ k) = upd (M_length v) t.toNatClampNeg l k) ∧ (zrg (-1) 4 (upd (M_sort v) t.toNatClampNeg s k) ∧ zrg 0 60 (upd (M_length v) t.toNatClampNeg l k) ∧ (upd (M_sort v) t.toNatClampNeg s k = -1 → upd (M_length v) t.toNatClampNeg l k = 0)) ∧ ∀ j, j < 60 → T_items (va_up (V_ts u) t.toNatClampNeg _ k) j = (if 60 * t.toInt.toNat ≤ 60 * k + j ∧ 60 * k + j < 60 * t.toInt.toNat + 60 then 0 else M_item v (60 * k + j))
  by_cases h : k = t.toNatClampNeg
  · subst h
    simp only [upd_eq, va_up, if_true]
    refine ⟨⟨rfl, rfl⟩, ⟨hs, hl, hsl⟩, fun j hj => ?_⟩
    rw [z_nat, if_pos (by omega)]
    exact if_pos hj
  · simp only [upd_ne _ _ h, va_up, if_neg h]
    refine ⟨⟨a1, a2⟩, ⟨a3, a4, a5⟩, fun j hj => ?_⟩
    rw [z_nat] at h
    rw [if_neg (by omega)]
    exact a6 j hj
theorem pS_tape : zS_tape Rel := by
  intro x1 x2 x3 u v R
  obtain ⟨R1, R2, R3, R4, R5, R6, R7, R8, R9⟩ := id R
  unfold mV_tape mM_tape mM_tape_J33 mM_tape_J44
  (try simp only [z_in0, z_isPlaceM, z_isPlaceN, z_isLetterN, z_isTenthN, z_isTapeN, z_isTapeM]); (try simp only [Int32.lt_iff_toInt_lt, Int32.le_iff_toInt_le, ← Int32.toInt_inj, Int32.reduceToInt, Int64.reduceToInt, m_lay, Option.bind_some])
  by_cases a : x1.toInt < 0 ∨ 5 < x1.toInt
  · rw [if_pos a, if_pos a]
    exact ⟨_, _, _, rfl, rfl, R⟩
  · rw [if_neg a, if_neg a]
    have ht : 0 ≤ x1.toInt ∧ x1.toInt ≤ 5 := by omega
    simp only [m_layM x1 x2 x3 ht, zgi_ok (n := 6) _ ht.1 (by omega)]
    by_cases b : x2.toInt < -1 ∨ 4 < x2.toInt
    · rw [if_pos b]
      by_cases c : x2.toInt < -1
      · rw [if_pos c]
        exact ⟨_, _, _, rfl, rfl, R⟩
      · rw [if_neg c, if_neg (by omega)]
        exact ⟨_, _, _, rfl, rfl, R⟩
    · by_cases c : x2.toInt = -1
      · simp (disch := omega) only [if_pos, if_neg]
        refine ⟨_, _, _, rfl, rfl, R1, R2, R3, R4, R5, R6, R7, r_lay R8 x1 ht x2 0 ⟨by omega, by omega⟩ ⟨by decide, by decide⟩ (fun _ => rfl), R9⟩
      · by_cases d : x3.toInt ≤ 60
        · by_cases f : 0 ≤ x3.toInt
          · simp (disch := omega) only [if_pos, if_neg]
            refine ⟨_, _, _, rfl, rfl, R1, R2, R3, R4, R5, R6, R7, r_lay R8 x1 ht x2 x3 ⟨by omega, by omega⟩ ⟨by omega, by omega⟩ (fun h => absurd (by rw [h]; rfl) c), R9⟩
          · simp (disch := omega) only [if_pos, if_neg]
            exact ⟨_, _, _, rfl, rfl, R⟩
        · simp (disch := omega) only [if_pos, if_neg]
          exact ⟨_, _, _, rfl, rfl, R⟩
theorem z_has {u : ST} {i l : Int32} (h : T_length u = l) (hl : zrg 0 60 l) : (mT_has i u = 0) = (i.toInt < 0 ∨ l.toInt ≤ i.toInt) := by
  unfold mT_has
  rw [h]
  simp only [Int32.lt_iff_toInt_lt, Int32.le_iff_toInt_le, Int32.reduceToInt]
  by_cases h1 : i.toInt < 0
  · simp [h1]
  · by_cases h2 : l.toInt ≤ i.toInt
    · simp [h1, h2]
    · simp [h1, h2]
theorem z_inl {i l : Int32} (hl : zrg 0 60 l) : (mM_in i 0 (l - 1) = 0) = (i.toInt < 0 ∨ l.toInt ≤ i.toInt) := by
  unfold zrg at hl
  have e : (l - 1).toInt = l.toInt - 1 := z_subI (by simp only [Int32.reduceToInt]; omega) (by simp only [Int32.reduceToInt]; omega)
  rw [z_in0, e]
  simp only [Int32.reduceToInt, eq_iff_iff]
  omega
theorem pS_read : zS_read Rel := by
  intro x1 x2 u v R
  obtain ⟨R1, R2, R3, R4, R5, R6, R7, R8, R9⟩ := id R
  unfold mV_read mM_read
  simp only [z_isTapeM, z_isTapeN]
  by_cases a : x1.toInt < 0 ∨ 5 < x1.toInt
  · rw [if_pos a, if_pos a]
    exact ⟨_, rfl, rfl, R⟩
  · rw [if_neg a, if_neg a]
    have ht : 0 ≤ x1.toInt ∧ x1.toInt ≤ 5 := by omega
    obtain ⟨⟨a1, a2⟩, ⟨a3, a4, a5⟩, a6⟩ := R8 x1.toInt.toNat (by omega)
    rw [← z_nat] at a1 a2 a3 a4 a5 a6
    have a7 := a4
    have a8 := a3
    unfold zrg at a7 a8
    simp only [zgi_ok (n := 6) _ ht.1 (by omega), z_has a2 a4, z_inl a4]
    simp only [Int32.lt_iff_toInt_lt, Int32.reduceToInt]
    by_cases b : (M_sort v x1.toNatClampNeg).toInt < 0
    · rw [if_pos b]
      have c : M_length v x1.toNatClampNeg = 0 := a5 (Int32.toInt_inj.mp (by simp only [Int32.reduceToInt]; omega))
      rw [c]
      simp only [Int32.reduceToInt]
      rw [if_pos (by omega)]
      exact ⟨_, rfl, rfl, R⟩
    · rw [if_neg b]
      by_cases d : x2.toInt < 0 ∨ (M_length v x1.toNatClampNeg).toInt ≤ x2.toInt
      · rw [if_pos d, if_pos d]
        exact ⟨_, rfl, rfl, R⟩
      · have e := z_60 ht (y := x2) (by omega)
        rw [if_neg d, if_neg d, zgi_ok _ (by omega) (by omega), zgi_ok _ (by omega) (by omega)]
        refine ⟨_, rfl, ?_, R⟩
        rw [a6 x2.toNatClampNeg (by rw [z_nat]; omega), z_nat, z_nat, z_nat, e]
        have h9 : (60 * x1.toInt + x2.toInt).toNat = 60 * x1.toInt.toNat + x2.toInt.toNat := by omega
        rw [h9]
