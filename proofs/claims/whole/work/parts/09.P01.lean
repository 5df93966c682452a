/-! 09.P1: the easy calls -/
theorem z_lg0 (x y : Int64) : (lg_cmp x y < 0) = (x.toInt < y.toInt) := by
  unfold lg_cmp
  by_cases h : x > y
  · have h2 : y.toInt < x.toInt := Int64.lt_iff_toInt_lt.mp h
    have h3 : ¬ x.toInt < y.toInt := by omega
    simp [h, h3]
  · by_cases h2 : x = y
    · subst h2; simp
    · have h3 : ¬ y.toInt < x.toInt := fun h4 => h (Int64.lt_iff_toInt_lt.mpr h4)
      have h4 : ¬ x.toInt = y.toInt := fun h4 => h2 (Int64.toInt_inj.mp h4)
      have h5 : x.toInt < y.toInt := by omega
      simp [h, h2, h5]
theorem z_lg2 (x y : Int64) : (lg_cmp x y = 0) = (x = y) := by
  unfold lg_cmp
  by_cases h : x > y
  · have h2 : y.toInt < x.toInt := Int64.lt_iff_toInt_lt.mp h
    have h3 : ¬ x = y := fun h4 => by subst h4; omega
    simp [h, h3]
  · by_cases h2 : x = y
    · subst h2; simp
    · simp [h, h2]
theorem z_lg1 (x y : Int64) : (lg_cmp x y ≤ 0) = (x.toInt ≤ y.toInt) := by
  unfold lg_cmp
  by_cases h : x > y
  · have h2 : y.toInt < x.toInt := Int64.lt_iff_toInt_lt.mp h
    have h3 : ¬ x.toInt ≤ y.toInt := by omega
    simp [h, h3]
  · have h3 : ¬ y.toInt < x.toInt := fun h4 => h (Int64.lt_iff_toInt_lt.mpr h4)
    have h4 : x.toInt ≤ y.toInt := by omega
    by_cases h2 : x = y
    · subst h2; simp
    · simp [h, h2, h4]
theorem upd_eq (f : Nat → Int32) (k : Nat) (x : Int32) : upd f k x k = x := if_pos rfl
theorem upd_ne (f : Nat → Int32) {k j : Nat} (x : Int32) (h : j ≠ k) : upd f k x j = f j := if_neg h
theorem pS_mouth : zS_mouth Rel := by
  intro x1 u v R
  obtain ⟨⟨⟨h1, h2, h3, h4, h5, h6⟩, hw, ⟨r1, r2, r3, r4, r5, r6⟩, hl⟩, R2, R3, R4, R5, R6, R7, R8, R9⟩ := id R
  unfold mV_mouth mM_mouth
  (try simp only [z_in0, z_isPlaceM, z_isPlaceN, z_isLetterN, z_isTenthN, z_isTapeN, z_isTapeM]); (try simp only [Int32.lt_iff_toInt_lt, Int32.le_iff_toInt_le, ← Int32.toInt_inj, Int32.reduceToInt, Int64.reduceToInt])
  split
  · exact ⟨_, _, _, rfl, rfl, R⟩
  · next h => exact ⟨M_mouth v, S_set_mouth x1 (V_stage u), x1, by rw [h1], rfl, ⟨⟨rfl, h2, h3, h4, h5, h6⟩, hw, ⟨(show zrg 0 40 x1 from ⟨by omega, by omega⟩), r2, r3, r4, r5, r6⟩, hl⟩, R2, R3, R4, R5, R6, R7, R8, R9⟩
theorem pS_jaw : zS_jaw Rel := by
  intro x1 x2 u v R
  obtain ⟨⟨⟨h1, h2, h3, h4, h5, h6⟩, hw, ⟨r1, r2, r3, r4, r5, r6⟩, hl⟩, R2, R3, R4, R5, R6, R7, R8, R9⟩ := id R
  unfold mV_jaw mM_jaw
  simp only [z_lg0, z_lg1, z_lg2]
  (try simp only [z_in0, z_isPlaceM, z_isPlaceN, z_isLetterN, z_isTenthN, z_isTapeN, z_isTapeM]); (try simp only [Int32.lt_iff_toInt_lt, Int32.le_iff_toInt_le, ← Int32.toInt_inj, Int32.reduceToInt, Int64.reduceToInt])
  split
  · exact ⟨_, _, _, rfl, rfl, R⟩
  · split
    · exact ⟨_, _, _, rfl, rfl, R⟩
    · split
      · next h h8 h9 => exact ⟨M_jaw v, S_set_moving x2 (S_set_jaw x1 (V_stage u)), _, by rw [h2], rfl, ⟨⟨h1, rfl, rfl, h4, h5, h6⟩, hw, ⟨r1, (show zrg 0 40 x1 from ⟨by omega, by omega⟩), ⟨Int.not_lt.mp h8, h9⟩, r4, r5, r6⟩, hl⟩, R2, R3, R4, R5, R6, R7, R8, R9⟩
      · exact ⟨_, _, _, rfl, rfl, R⟩
theorem pS_slips : zS_slips Rel := by
  intro x1 u v R
  obtain ⟨⟨⟨h1, h2, h3, h4, h5, h6⟩, hw, ⟨r1, r2, r3, r4, r5, r6⟩, hl⟩, R2, R3, R4, R5, R6, R7, R8, R9⟩ := id R
  unfold mV_slips mM_slips
  (try simp only [z_in0, z_isPlaceM, z_isPlaceN, z_isLetterN, z_isTenthN, z_isTapeN, z_isTapeM]); (try simp only [Int32.lt_iff_toInt_lt, Int32.le_iff_toInt_le, ← Int32.toInt_inj, Int32.reduceToInt, Int64.reduceToInt])
  by_cases h : x1.toInt < 0 ∨ 10 < x1.toInt
  · have e : (if x1.toInt < 0 then some ((-2 : Int32), V_stage u) else if x1.toInt ≤ 10 then some (S_slips (V_stage u), S_set_slips x1 (V_stage u)) else some ((-2 : Int32), V_stage u)) = some ((-2 : Int32), V_stage u) := by
      split
      · rfl
      · rw [if_neg (by omega)]
    exact ⟨-2, V_stage u, M_slips v, e, if_pos h, R⟩
  · refine ⟨M_slips v, S_set_slips x1 (V_stage u), x1, ?_, if_neg h, ⟨⟨h1, h2, h3, h4, rfl, h6⟩, hw, ⟨r1, r2, r3, r4, (show zrg 0 10 x1 from ⟨by omega, by omega⟩), r6⟩, hl⟩, R2, R3, R4, R5, R6, R7, R8, R9⟩
    rw [if_neg (by omega), if_pos (by omega), h5]
theorem pS_seat : zS_seat Rel := by
  intro x1 x2 u v R
  obtain ⟨R1, R2, ⟨⟨h1, h2⟩, h3⟩, R4, R5, R6, R7, R8, R9⟩ := id R
  unfold mV_seat mM_seat
  rw [h1]
  (try simp only [z_in0, z_isPlaceM, z_isPlaceN, z_isLetterN, z_isTenthN, z_isTapeN, z_isTapeM]); (try simp only [Int32.lt_iff_toInt_lt, Int32.le_iff_toInt_le, ← Int32.toInt_inj, Int32.reduceToInt, Int64.reduceToInt])
  unfold zrg at h2
  by_cases a1 : x1.toInt < 1
  · rw [if_pos a1, if_pos (Or.inl a1)]
    exact ⟨-2, (V_seats u, V_far u, V_side u), _, by rw [h1], rfl, R⟩
  · rw [if_neg a1]
    by_cases a2 : x1.toInt ≤ 40
    · rw [if_pos a2, if_neg (show ¬ (x1.toInt < 1 ∨ 40 < x1.toInt) by omega)]
      by_cases a3 : x2.toInt < 0 ∨ 40 < x2.toInt
      · rw [if_pos a3, if_pos a3]
        exact ⟨-1, (V_seats u, V_far u, V_side u), _, by rw [h1], rfl, R⟩
      · rw [if_neg a3, if_neg a3]
        by_cases a4 : (M_seats v).toInt = 8
        · rw [if_neg (by omega), if_pos a4]
          exact ⟨-4, (V_seats u, V_far u, V_side u), _, by rw [h1], rfl, R⟩
        · rw [if_pos (by omega), if_neg a4, zgi_ok _ h2.1 (by omega), zgi_ok _ h2.1 (by omega), zgi_ok _ h2.1 (by omega), zgi_ok _ h2.1 (by omega)]
          refine ⟨_, _, _, rfl, rfl, R1, R2, ⟨⟨rfl, ?_⟩, ?_⟩, R4, R5, R6, R7, R8, R9⟩
          · show zrg 0 8 (M_seats v + 1)
            unfold zrg
            rw [z_addI (by simp only [Int32.reduceToInt]; omega) (by simp only [Int32.reduceToInt]; omega)]
            simp only [Int32.reduceToInt]
            omega
          · intro k hk
            show (upd (V_far u) _ x1 k = upd (M_far v) _ x1 k ∧ upd (V_side u) _ x2 k = upd (M_side v) _ x2 k) ∧ zrg 0 40 (upd (M_far v) _ x1 k) ∧ zrg 0 40 (upd (M_side v) _ x2 k)
            obtain ⟨⟨b1, b2⟩, b3, b4⟩ := h3 k hk
            by_cases e : k = (M_seats v).toNatClampNeg
            · subst e
              simp only [upd_eq]
              exact ⟨⟨trivial, trivial⟩, ⟨by omega, by omega⟩, ⟨by omega, by omega⟩⟩
            · simp only [upd_ne _ _ e]
              exact ⟨⟨b1, b2⟩, b3, b4⟩
    · rw [if_neg a2, if_pos (by omega)]
      exact ⟨-2, (V_seats u, V_far u, V_side u), _, by rw [h1], rfl, R⟩
theorem z_isSeat {u : SV} {v : SM} (R : Rel u v) (x : Int32) : mV_isSeat x u = mM_isSeat x v ∧ ((mM_isSeat x v = 0) = (x.toInt < 0 ∨ (M_seats v).toInt ≤ x.toInt)) ∧ zrg 0 8 (M_seats v) := by
  obtain ⟨R1, R2, ⟨⟨h1, h2⟩, h3⟩, R4, R5, R6, R7, R8, R9⟩ := id R
  have hz := h2
  unfold zrg at h2
  have e : (M_seats v - 1).toInt = (M_seats v).toInt - 1 := z_subI (by simp only [Int32.reduceToInt]; omega) (by simp only [Int32.reduceToInt]; omega)
  refine ⟨?_, ?_, hz⟩
  · unfold mV_isSeat mM_isSeat mM_in
    rw [h1]
    simp only [Int32.lt_iff_toInt_lt, Int32.le_iff_toInt_le, Int32.reduceToInt, e]
    by_cases a : (M_seats v).toInt ≤ x.toInt
    · rw [if_pos a, if_pos (by omega : (M_seats v).toInt - 1 < x.toInt)]
    · rw [if_neg a, if_neg (by omega : ¬ (M_seats v).toInt - 1 < x.toInt)]
  · unfold mM_isSeat
    rw [z_in0, e]
    simp only [Int32.reduceToInt, eq_iff_iff]
    omega
theorem pS_of : zS_of Rel := by
  intro x1 x2 u v R
  obtain ⟨e1, e2, e3⟩ := z_isSeat R x1
  obtain ⟨R1, R2, ⟨⟨h1, h2⟩, h3⟩, R4, R5, R6, R7, R8, R9⟩ := id R
  unfold mV_of mM_of
  rw [e1]
  unfold zrg at e3
  by_cases a : mM_isSeat x1 v = 0
  · rw [if_pos a, if_pos a]
    exact ⟨_, rfl, rfl, R⟩
  · rw [if_neg a, if_neg a]
    rw [e2] at a
    obtain ⟨⟨b1, b2⟩, b3, b4⟩ := h3 x1.toInt.toNat (by omega)
    (try simp only [z_in0, z_isPlaceM, z_isPlaceN, z_isLetterN, z_isTenthN, z_isTapeN, z_isTapeM]); (try simp only [Int32.lt_iff_toInt_lt, Int32.le_iff_toInt_le, ← Int32.toInt_inj, Int32.reduceToInt, Int64.reduceToInt])
    simp only [z_nat, b1, b2]
    rw [zgi_ok _ (by omega) (by omega), zgi_ok _ (by omega) (by omega)]
    by_cases c : x2.toInt < 0
    · rw [if_pos c, if_pos (Or.inl c)]
      exact ⟨_, rfl, rfl, R⟩
    · rw [if_neg c]
      by_cases d : x2.toInt ≤ 1
      · rw [if_pos d, if_neg (by omega : ¬ (x2.toInt < 0 ∨ 1 < x2.toInt))]
        split
        · exact ⟨_, rfl, rfl, R⟩
        · exact ⟨_, rfl, rfl, R⟩
      · rw [if_neg d, if_pos (by omega : (x2.toInt < 0 ∨ 1 < x2.toInt))]
        exact ⟨_, rfl, rfl, R⟩
theorem pS_say : zS_say Rel := by
  intro x1 u v R
  obtain ⟨⟨⟨h1, h2, h3, h4, h5, h6⟩, hw, ⟨r1, r2, r3, r4, r5, r6⟩, hl⟩, R2, R3, R4, R5, R6, R7, R8, R9⟩ := id R
  unfold mV_say mM_say
  (try simp only [z_in0, z_isPlaceM, z_isPlaceN, z_isLetterN, z_isTenthN, z_isTapeN, z_isTapeM]); (try simp only [Int32.lt_iff_toInt_lt, Int32.le_iff_toInt_le, ← Int32.toInt_inj, Int32.reduceToInt, Int64.reduceToInt])
  simp only [h4]
  have q4 := r4
  unfold zrg at r4
  by_cases a : x1.toInt = -1
  · rw [if_neg (by omega), if_pos (by omega), if_pos a, if_pos a]
    exact ⟨_, _, _, rfl, rfl, ⟨⟨h1, h2, h3, rfl, h5, h6⟩, hw, ⟨r1, r2, r3, (show zrg 0 20 0 from ⟨by decide, by decide⟩), r5, r6⟩, hl⟩, R2, R3, R4, R5, R6, R7, R8, R9⟩
  · rw [if_neg a, if_neg a]
    by_cases b : x1.toInt < 0 ∨ 9 < x1.toInt
    · rw [if_pos b]
      by_cases c : x1.toInt < -1
      · rw [if_pos c]
        exact ⟨_, _, _, rfl, rfl, R⟩
      · rw [if_neg c, if_neg (by omega)]
        exact ⟨_, _, _, rfl, rfl, R⟩
    · rw [if_neg b, if_neg (by omega), if_pos (by omega)]
      by_cases d : (M_letters v).toInt = 20
      · rw [if_pos d, if_neg (by omega)]
        exact ⟨_, _, _, rfl, rfl, R⟩
      · rw [if_neg d, if_pos (by omega), zgi_ok _ (by omega) (by omega), zgi_ok _ (by omega) (by omega)]
        refine ⟨M_letters v + 1, S_set_letters (M_letters v + 1) (S_set_words (upd (S_words (V_stage u)) (M_letters v).toNatClampNeg x1) (V_stage u)), _, ?_, rfl, ⟨⟨h1, h2, h3, rfl, h5, h6⟩, ?_, ⟨r1, r2, r3, ?_, r5, r6⟩, ?_⟩, R2, R3, R4, R5, R6, R7, R8, R9⟩
        · show some (S_letters (V_stage u) + 1, S_set_letters (S_letters (V_stage u) + 1) _) = _
          rw [h4]
        · intro k hk
          show upd (S_words (V_stage u)) _ x1 k = upd (M_letter v) _ x1 k
          unfold upd
          split
          · rfl
          · exact hw k hk
        · show zrg 0 20 (M_letters v + 1)
          unfold zrg
          rw [z_addI (by simp only [Int32.reduceToInt]; omega) (by simp only [Int32.reduceToInt]; omega)]
          simp only [Int32.reduceToInt]
          omega
        · intro k hk
          show zrg 0 9 (upd (M_letter v) _ x1 k)
          unfold upd
          split
          · exact ⟨by omega, by omega⟩
          · exact hl k hk
theorem pS_count : zS_count Rel := by
  intro x1 u v R
  obtain ⟨⟨⟨h1, h2, h3, h4, h5, h6⟩, hw, hr, hl⟩, R2, R3, R4, R5, R6, R7, R8, R9⟩ := id R
  refine ⟨mV_count x1 u, rfl, ?_, R⟩
  unfold mM_count mV_count
  rw [h1, h2, h4, R3.1.1, R5.1.1, R6.1.1, R4.1.1, show B_ran (V_acting u) = M_ran v by rw [R7]; rfl]
