/-! 09.P3: item, shift -/
theorem z_isRow {u : ST} {s : Int32} (h : T_sort u = s) (hs : zrg (-1) 4 s) : (mT_isRow u = 0) = (s.toInt < 0) := by
  unfold mT_isRow
  rw [h]
  unfold zrg at hs
  by_cases c : s = -1
  · subst c
    simp
  · have c2 : s.toInt ≠ -1 := fun h => c (Int32.toInt_inj.mp (by rw [h]; rfl))
    rw [if_neg c]
    simp only [eq_iff_iff]
    constructor
    · intro h; cases h
    · intro h; omega
theorem m_put {u : ST} {s i : Int32} (z : Int64) (h : T_sort u = s) (hs : zrg (-1) 4 s) (hs2 : 0 ≤ s.toInt) (hi : 0 ≤ i.toInt) (hi2 : i.toInt < 60) : mT_put i z u = some (vp_updL (T_items u) i.toNatClampNeg (mM_narrow s z)) := by
  unfold mT_put mM_narrow
  rw [h]
  unfold zrg at hs
  have k : s.toInt = 0 ∨ s.toInt = 1 ∨ s.toInt = 2 ∨ s.toInt = 3 ∨ s.toInt = 4 := by omega
  simp only [zgi_ok (n := 60) _ hi (by omega)]
  rcases k with k | k | k | k | k
  · obtain rfl : s = 0 := Int32.toInt_inj.mp k
    rfl
  · obtain rfl : s = 1 := Int32.toInt_inj.mp k
    rfl
  · obtain rfl : s = 2 := Int32.toInt_inj.mp k
    rfl
  · obtain rfl : s = 3 := Int32.toInt_inj.mp k
    rfl
  · obtain rfl : s = 4 := Int32.toInt_inj.mp k
    have e0 : ¬ ((4 : Int32) = 0) := by decide
    have e1 : ¬ ((4 : Int32) = 1) := by decide
    have e2 : ¬ ((4 : Int32) = 2) := by decide
    have e3 : ¬ ((4 : Int32) = 3) := by decide
    simp only [if_neg e0, if_neg e1, if_neg e2, if_neg e3, if_true]
    by_cases c : lg_cmp z 0 = 0
    · simp only [if_pos c]
    · simp only [if_neg c]
theorem pS_item : zS_item Rel := by
  intro x1 x2 x3 u v R
  obtain ⟨R1, R2, R3, R4, R5, R6, R7, R8, R9⟩ := id R
  unfold mV_item mM_item
  simp only [z_isTapeM, z_isTapeN]
  by_cases a : x1.toInt < 0 ∨ 5 < x1.toInt
  · rw [if_pos a, if_pos a]
    exact ⟨_, _, _, rfl, rfl, R⟩
  · rw [if_neg a, if_neg a]
    have ht : 0 ≤ x1.toInt ∧ x1.toInt ≤ 5 := by omega
    obtain ⟨⟨a1, a2⟩, ⟨a3, a4, a5⟩, a6⟩ := R8 x1.toInt.toNat (by omega)
    rw [← z_nat] at a1 a2 a3 a4 a5 a6
    have a7 := a4
    have a8 := a3
    unfold zrg at a7 a8
    have hr := z_isRow a1 a3
    have hh := z_has (i := x2) a2 a4
    have hi := z_inl (i := x2) a4
    simp only [zgi_ok (n := 6) _ ht.1 (by omega), hr, hh, hi]
    simp only [Int32.lt_iff_toInt_lt, Int32.le_iff_toInt_le, ← Int32.toInt_inj, Int32.reduceToInt, Int64.reduceToInt]
    by_cases b : (M_sort v x1.toNatClampNeg).toInt < 0
    · simp (disch := omega) only [if_pos, if_neg]
      exact ⟨_, _, _, rfl, rfl, R⟩
    · by_cases d : x2.toInt < 0 ∨ (M_length v x1.toNatClampNeg).toInt ≤ x2.toInt
      · simp (disch := omega) only [if_pos, if_neg]
        exact ⟨_, _, _, rfl, rfl, R⟩
      · have e := z_60 ht (y := x2) (by omega)
        simp (disch := omega) only [if_pos, if_neg]
        rw [zgi_ok _ (by omega) (by omega), m_put x3 a1 a3 (by omega) (by omega) (by omega)]
        refine ⟨_, _, _, rfl, rfl, R1, R2, R3, R4, R5, R6, R7, ?_, R9⟩
        intro k hk
        obtain ⟨⟨b1, b2⟩, ⟨b3, b4, b5⟩, b6⟩ := R8 k hk
        show (T_sort (va_up (V_ts u) x1.toNatClampNeg _ k) = M_sort v k ∧ T_length (va_up (V_ts u) x1.toNatClampNeg _ k) = M_length v k) ∧ (zrg (-1) 4 (M_sort v k) ∧ zrg 0 60 (M_length v k) ∧ (M_sort v k = -1 → M_length v k = 0)) ∧ ∀ j, j < 60 → T_items (va_up (V_ts u) x1.toNatClampNeg _ k) j = vp_updL (M_item v) (60 * x1 + x2).toNatClampNeg _ (60 * k + j)
        by_cases f : k = x1.toNatClampNeg
        · subst f
          simp only [va_up, if_true]
          refine ⟨⟨b1, b2⟩, ⟨b3, b4, b5⟩, fun j hj => ?_⟩
          show vp_updL (T_items (V_ts u x1.toNatClampNeg)) x2.toNatClampNeg _ j = _
          simp only [z_nat, e] at *
          by_cases g : j = x2.toInt.toNat
          · have g2 : (60 * x1.toInt + x2.toInt).toNat = 60 * x1.toInt.toNat + j := by omega
            rw [g2, vp_updL_eq, g, vp_updL_eq]
          · rw [vp_updL_ne _ _ g, vp_updL_ne _ _ (by omega)]
            exact b6 j hj
        · simp only [va_up, if_neg f]
          refine ⟨⟨b1, b2⟩, ⟨b3, b4, b5⟩, fun j hj => ?_⟩
          simp only [z_nat, e] at *
          rw [vp_updL_ne _ _ (by omega)]
          exact b6 j hj
theorem z_run {u : ST} {i n l : Int32} (h : T_length u = l) (hl : zrg 0 60 l) : (mT_hasRun i n u = 0) = (i.toInt < 0 ∨ n.toInt < 0 ∨ l.toInt < i.toInt + n.toInt) := by
  unfold mT_hasRun
  rw [h]
  unfold zrg at hl
  simp only [Int32.lt_iff_toInt_lt, Int32.le_iff_toInt_le, Int32.reduceToInt]
  by_cases h1 : i.toInt < 0
  · simp [h1]
  · by_cases h2 : n.toInt < 0
    · simp [h1, h2]
    · have li := z_lt i
      rw [if_neg h1, if_neg h2, z_subI (by omega) (by omega)]
      by_cases h4 : l.toInt - i.toInt < n.toInt
      · rw [if_pos h4]
        simp only [eq_iff_iff, true_iff]
        omega
      · rw [if_neg h4]
        simp only [eq_iff_iff]
        constructor
        · intro h; cases h
        · intro h; omega
theorem z_60b {x y z : Int32} (hx : 0 ≤ x.toInt ∧ x.toInt ≤ 5) (hy : 0 ≤ y.toInt ∧ y.toInt ≤ 100) (hz : 0 ≤ z.toInt ∧ z.toInt ≤ 100) : (60 * x + y + z).toInt = 60 * x.toInt + y.toInt + z.toInt := by
  have e := z_60 hx hy
  rw [z_addI (by rw [e]; omega) (by rw [e]; omega), e]
theorem l_sh2 (o j N : Int32) (ho : 0 ≤ o.toInt ∧ o.toInt ≤ 5) (hj : 0 ≤ j.toInt) (hN : 0 ≤ N.toInt) (hs : j.toInt + N.toInt ≤ 60) (d : Nat) : ∀ (n i : Nat) (x : Int32) (u : SM), i + d = N.toInt.toNat → d < n → x.toInt = i → mM_shift_L141 o j N n x u = some (N, (fun k => if 60 * o.toInt.toNat + j.toInt.toNat + i ≤ k ∧ k < 60 * o.toInt.toNat + j.toInt.toNat + N.toInt.toNat then M_aside u (k - (60 * o.toInt.toNat + j.toInt.toNat)) else M_item u k), M_aside u) := by
  induction d with
  | zero =>
    intro n i x u h1 h2 h3
    obtain ⟨n, rfl⟩ : ∃ m, n = m + 1 := ⟨n - 1, by omega⟩
    rw [mM_shift_L141, if_pos (by (try simp only [z_in0, z_isPlaceM, z_isPlaceN, z_isLetterN, z_isTenthN, z_isTapeN, z_isTapeM]); (try simp only [Int32.lt_iff_toInt_lt, Int32.le_iff_toInt_le, ← Int32.toInt_inj, Int32.reduceToInt, Int64.reduceToInt]); omega)]
    refine congrArg some (congrArg (Prod.mk _) (congrArg (fun f => (f, _)) (funext fun k => ?_)))
    rw [if_neg (by omega)]
  | succ d ih =>
    intro n i x u h1 h2 h3
    obtain ⟨n, rfl⟩ : ∃ m, n = m + 1 := ⟨n - 1, by omega⟩
    have e := z_60b ho (y := j) (z := x) (by omega) (by omega)
    rw [mM_shift_L141, if_neg (by (try simp only [z_in0, z_isPlaceM, z_isPlaceN, z_isLetterN, z_isTenthN, z_isTapeN, z_isTapeM]); (try simp only [Int32.lt_iff_toInt_lt, Int32.le_iff_toInt_le, ← Int32.toInt_inj, Int32.reduceToInt, Int64.reduceToInt]); omega), zgi_ok _ (by omega) (by omega), zgi_ok _ (by omega) (by omega), ih n (i + 1) (x + 1) _ (by omega) (by omega) (by rw [z_one x (by omega) (by omega), h3]; rfl)]
    refine congrArg some (congrArg (Prod.mk _) (congrArg (fun f => (f, _)) (funext fun k => ?_)))
    show (if _ then M_aside u _ else vp_updL (M_item u) (60 * o + j + x).toNatClampNeg (M_aside u x.toNatClampNeg) k) = _
    rw [z_nat, z_nat, e]
    by_cases h : k = 60 * o.toInt.toNat + j.toInt.toNat + i
    · rw [if_neg (by omega), if_pos (by omega)]
      have h7 : (60 * o.toInt + j.toInt + x.toInt).toNat = k := by omega
      have h8 : k - (60 * o.toInt.toNat + j.toInt.toNat) = x.toInt.toNat := by omega
      rw [h7, h8]
      exact vp_updL_eq _ _ _
    · rw [vp_updL_ne _ _ (by omega)]
      by_cases h5 : 60 * o.toInt.toNat + j.toInt.toNat + (i + 1) ≤ k ∧ k < 60 * o.toInt.toNat + j.toInt.toNat + N.toInt.toNat
      · rw [if_pos h5, if_pos (by omega)]
      · rw [if_neg h5, if_neg (by omega)]
theorem l_sh1 (t i0 o j N : Int32) (ht : 0 ≤ t.toInt ∧ t.toInt ≤ 5) (hi : 0 ≤ i0.toInt) (hN : 0 ≤ N.toInt) (hs : i0.toInt + N.toInt ≤ 60) (d : Nat) : ∀ (n i : Nat) (x : Int32) (u : SM), i + d = N.toInt.toNat → d < n → x.toInt = i → mM_shift_L104 t i0 o j N n x u = mM_shift_L141 o j N 256 0 (M_put_item_aside (M_item u, fun k => if i ≤ k ∧ k < N.toInt.toNat then M_item u (60 * t.toInt.toNat + i0.toInt.toNat + k) else M_aside u k) u) := by
  induction d with
  | zero =>
    intro n i x u h1 h2 h3
    obtain ⟨n, rfl⟩ : ∃ m, n = m + 1 := ⟨n - 1, by omega⟩
    rw [mM_shift_L104, if_pos (by (try simp only [z_in0, z_isPlaceM, z_isPlaceN, z_isLetterN, z_isTenthN, z_isTapeN, z_isTapeM]); (try simp only [Int32.lt_iff_toInt_lt, Int32.le_iff_toInt_le, ← Int32.toInt_inj, Int32.reduceToInt, Int64.reduceToInt]); omega)]
    have : (fun k => if i ≤ k ∧ k < N.toInt.toNat then M_item u (60 * t.toInt.toNat + i0.toInt.toNat + k) else M_aside u k) = M_aside u := by
      funext k
      rw [if_neg (by omega)]
    rw [this]
    rfl
  | succ d ih =>
    intro n i x u h1 h2 h3
    obtain ⟨n, rfl⟩ : ∃ m, n = m + 1 := ⟨n - 1, by omega⟩
    have e := z_60b ht (y := i0) (z := x) (by omega) (by omega)
    rw [mM_shift_L104, if_neg (by (try simp only [z_in0, z_isPlaceM, z_isPlaceN, z_isLetterN, z_isTenthN, z_isTapeN, z_isTapeM]); (try simp only [Int32.lt_iff_toInt_lt, Int32.le_iff_toInt_le, ← Int32.toInt_inj, Int32.reduceToInt, Int64.reduceToInt]); omega), zgi_ok _ (by omega) (by omega), zgi_ok _ (by omega) (by omega), ih n (i + 1) (x + 1) _ (by omega) (by omega) (by rw [z_one x (by omega) (by omega), h3]; rfl)]
    refine congrArg (mM_shift_L141 o j N 256 0) ?_
    show M_put_item_aside (M_item u, fun k => if i + 1 ≤ k ∧ k < N.toInt.toNat then M_item u (60 * t.toInt.toNat + i0.toInt.toNat + k) else vp_updL (M_aside u) x.toNatClampNeg (M_item u (60 * t + i0 + x).toNatClampNeg) k) u = _
    refine congrArg (fun f => M_put_item_aside (M_item u, f) u) (funext fun k => ?_)
    rw [z_nat, z_nat, e]
    by_cases h : k = i
    · rw [if_neg (by omega), if_pos (by omega)]
      have h7 : x.toInt.toNat = k := by omega
      have h8 : (60 * t.toInt + i0.toInt + x.toInt).toNat = 60 * t.toInt.toNat + i0.toInt.toNat + k := by omega
      rw [h7, h8]
      exact vp_updL_eq _ _ _
    · rw [vp_updL_ne _ _ (by omega)]
      by_cases h5 : i + 1 ≤ k ∧ k < N.toInt.toNat
      · rw [if_pos h5, if_pos (by omega)]
      · rw [if_neg h5, if_neg (by omega)]
theorem pS_shift : zS_shift Rel := by
  intro x1 x2 x3 x4 x5 u v R
  obtain ⟨R1, R2, R3, R4, R5, R6, R7, R8, R9⟩ := id R
  unfold mV_shift mM_shift
  simp only [z_isTapeM, z_isTapeN]
  by_cases a : x1.toInt < 0 ∨ 5 < x1.toInt
  · rw [if_pos a, if_pos a]
    exact ⟨_, _, _, rfl, rfl, R⟩
  · rw [if_neg a, if_neg a]
    by_cases a' : x3.toInt < 0 ∨ 5 < x3.toInt
    · rw [if_pos a', if_pos a']
      exact ⟨_, _, _, rfl, rfl, R⟩
    · rw [if_neg a', if_neg a']
      have ht : 0 ≤ x1.toInt ∧ x1.toInt ≤ 5 := by omega
      have ht' : 0 ≤ x3.toInt ∧ x3.toInt ≤ 5 := by omega
      obtain ⟨⟨a1, a2⟩, ⟨a3, a4, a5⟩, a6⟩ := R8 x1.toInt.toNat (by omega)
      obtain ⟨⟨b1, b2⟩, ⟨b3, b4, b5⟩, b6⟩ := R8 x3.toInt.toNat (by omega)
      rw [← z_nat] at a1 a2 a3 a4 a5 a6 b1 b2 b3 b4 b5 b6
      have a7 := a4
      have a8 := a3
      have b7 := b4
      have b8 := b3
      unfold zrg at a7 a8 b7 b8
      have hr := z_isRow a1 a3
      have hr' := z_isRow b1 b3
      have hh := z_run (i := x2) (n := x5) a2 a4
      have hh' := z_run (i := x4) (n := x5) b2 b4
      simp only [zgi_ok (n := 6) _ ht.1 (by omega), zgi_ok (n := 6) _ ht'.1 (by omega), hr, hh, hr', hh', a1, b1]
      simp only [Int32.lt_iff_toInt_lt, Int32.le_iff_toInt_le, ← Int32.toInt_inj, Int32.reduceToInt, Int64.reduceToInt]
      have lx := z_lt x5
      by_cases c : (M_sort v x1.toNatClampNeg).toInt < 0
      · simp (disch := omega) only [if_pos, if_neg]
        exact ⟨_, _, _, rfl, rfl, R⟩
      · by_cases c' : (M_sort v x3.toNatClampNeg).toInt < 0
        · simp (disch := omega) only [if_pos, if_neg]
          exact ⟨_, _, _, rfl, rfl, R⟩
        · by_cases d : (M_sort v x1.toNatClampNeg).toInt = (M_sort v x3.toNatClampNeg).toInt
          · by_cases f : x2.toInt < 0 ∨ x5.toInt < 0 ∨ (M_length v x1.toNatClampNeg).toInt < x2.toInt + x5.toInt
            · simp (disch := omega) only [if_pos, if_neg]
              refine ⟨_, _, (M_item v, M_aside v), rfl, ?_, R⟩
              by_cases f1 : x5.toInt < 0
              · rw [if_pos f1]
              · rw [if_neg f1]
                by_cases f2 : x2.toInt < 0
                · rw [if_pos f2]
                · rw [if_neg f2]
                  by_cases f3 : x4.toInt < 0
                  · rw [if_pos f3]
                  · rw [if_neg f3, z_subI (by omega) (by omega), if_pos (by omega)]
            · by_cases g : x4.toInt < 0 ∨ x5.toInt < 0 ∨ (M_length v x3.toNatClampNeg).toInt < x4.toInt + x5.toInt
              · simp (disch := omega) only [if_pos, if_neg]
                refine ⟨_, _, (M_item v, M_aside v), rfl, ?_, R⟩
                by_cases f3 : x4.toInt < 0
                · rw [if_pos f3]
                · rw [if_neg f3, z_subI (by omega) (by omega), if_neg (by omega), z_subI (by omega) (by omega), if_neg (by omega)]
              · have s1 : (M_length v x1.toNatClampNeg - x5).toInt = (M_length v x1.toNatClampNeg).toInt - x5.toInt := z_subI (by omega) (by omega)
                have s2 : (M_length v x3.toNatClampNeg - x5).toInt = (M_length v x3.toNatClampNeg).toInt - x5.toInt := z_subI (by omega) (by omega)
                simp only [s1, s2]
                simp (disch := omega) only [if_pos, if_neg]
                rw [l_sh1 x1 x2 x3 x4 x5 ht (by omega) (by omega) (by omega) x5.toInt.toNat 256 0 0 v (by omega) (by omega) rfl, l_sh2 x3 x4 x5 ht' (by omega) (by omega) (by omega) x5.toInt.toNat 256 0 0 _ (by omega) (by omega) rfl]
                unfold zgcp
                rw [if_pos (by (try simp only [z_in0, z_isPlaceM, z_isPlaceN, z_isLetterN, z_isTenthN, z_isTapeN, z_isTapeM]); (try simp only [Int32.lt_iff_toInt_lt, Int32.le_iff_toInt_le, ← Int32.toInt_inj, Int32.reduceToInt, Int64.reduceToInt, z_nat]); omega)]
                refine ⟨_, _, _, rfl, rfl, R1, R2, R3, R4, R5, R6, R7, ?_, R9⟩
                intro k hk
                obtain ⟨⟨d1, d2⟩, ⟨d3, d4, d5⟩, d6⟩ := R8 k hk
                show (T_sort (va_up (V_ts u) x3.toNatClampNeg _ k) = M_sort v k ∧ T_length (va_up (V_ts u) x3.toNatClampNeg _ k) = M_length v k) ∧ (zrg (-1) 4 (M_sort v k) ∧ zrg 0 60 (M_length v k) ∧ (M_sort v k = -1 → M_length v k = 0)) ∧ ∀ j, j < 60 → T_items (va_up (V_ts u) x3.toNatClampNeg _ k) j = (if 60 * x3.toInt.toNat + x4.toInt.toNat + 0 ≤ 60 * k + j ∧ 60 * k + j < 60 * x3.toInt.toNat + x4.toInt.toNat + x5.toInt.toNat then (if 0 ≤ 60 * k + j - (60 * x3.toInt.toNat + x4.toInt.toNat) ∧ 60 * k + j - (60 * x3.toInt.toNat + x4.toInt.toNat) < x5.toInt.toNat then M_item v (60 * x1.toInt.toNat + x2.toInt.toNat + (60 * k + j - (60 * x3.toInt.toNat + x4.toInt.toNat))) else M_aside v _) else M_item v (60 * k + j))
                by_cases f9 : k = x3.toNatClampNeg
                · subst f9
                  simp only [va_up, if_true]
                  refine ⟨⟨d1, d2⟩, ⟨d3, d4, d5⟩, fun j hj => ?_⟩
                  show (if x4.toNatClampNeg ≤ j ∧ j < x4.toNatClampNeg + x5.toNatClampNeg then T_items (V_ts u x1.toNatClampNeg) (x2.toNatClampNeg + (j - x4.toNatClampNeg)) else T_items (V_ts u x3.toNatClampNeg) j) = _
                  by_cases g9 : x4.toNatClampNeg ≤ j ∧ j < x4.toNatClampNeg + x5.toNatClampNeg
                  · rw [if_pos g9]
                    simp only [z_nat] at *
                    rw [if_pos (by omega), if_pos (by omega), a6 _ (by omega)]
                    exact congrArg (M_item v) (by omega)
                  · rw [if_neg g9]
                    simp only [z_nat] at *
                    rw [if_neg (by omega), b6 _ (by omega)]
                · simp only [va_up, if_neg f9]
                  refine ⟨⟨d1, d2⟩, ⟨d3, d4, d5⟩, fun j hj => ?_⟩
                  rw [z_nat] at f9
                  rw [if_neg (by omega)]
                  exact d6 j hj
          · simp (disch := omega) only [if_pos, if_neg]
            exact ⟨_, _, _, rfl, rfl, R⟩
