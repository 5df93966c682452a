/-! 09.P17: wrong, changed, houseful -/
theorem l_wrong {u : SV} {v : SM} (R : Rel u v) {a s : Int32} (hV : zV u v a) (hs : 0 ≤ s.toInt ∧ s.toInt ≤ 7) (d : Nat) : ∀ (n i : Nat) (x c : Int32) (K : SK) (p : Nat → Int32), (i : Int) + d = (M_letters v).toInt → d < n → x.toInt = i → ∃ r K' p', mV_wrong_L26 a.toInt.toNat s n c x (V_put_look K u) = some (r, K') ∧ mM_wrong_L23 a s n c x (M_put_pile p v) = some (r, p') := by
  have hl := R.1.2.2.1.2.2.2.1
  have h4 := R.1.1.2.2.2.1
  have q1 : ∀ K, S_letters (V_stage (V_put_look K u)) = M_letters v := fun _ => h4
  have q2 : ∀ p : Nat → Int32, M_letters (M_put_pile p v) = M_letters v := fun _ => rfl
  have q3 : ∀ K K' : SK, V_put_look K (V_put_look K' u) = V_put_look K u := fun _ _ => rfl
  have q4 : ∀ p p' : Nat → Int32, M_put_pile p (M_put_pile p' v) = M_put_pile p v := fun _ _ => rfl
  unfold zrg at hl
  induction d with
  | zero =>
    intro n i x c K p h1 h2 h3
    obtain ⟨n, rfl⟩ : ∃ m, n = m + 1 := ⟨n - 1, by omega⟩
    rw [mV_wrong_L26, mM_wrong_L23, q1, q2, if_pos (by (try simp only [z_in0, z_isPlaceM, z_isPlaceN, z_isLetterN, z_isTenthN, z_isTapeN, z_isTapeM]); (try simp only [Int32.lt_iff_toInt_lt, Int32.le_iff_toInt_le, ← Int32.toInt_inj, Int32.reduceToInt, Int64.reduceToInt]); omega), if_pos (by (try simp only [z_in0, z_isPlaceM, z_isPlaceN, z_isLetterN, z_isTenthN, z_isTapeN, z_isTapeM]); (try simp only [Int32.lt_iff_toInt_lt, Int32.le_iff_toInt_le, ← Int32.toInt_inj, Int32.reduceToInt, Int64.reduceToInt]); omega)]
    exact ⟨_, _, _, rfl, rfl⟩
  | succ d ih =>
    intro n i x c K p h1 h2 h3
    obtain ⟨n, rfl⟩ : ∃ m, n = m + 1 := ⟨n - 1, by omega⟩
    have hx := z_one x (by omega) (by omega)
    obtain ⟨K1, e1⟩ := c_right (u := V_put_look K u) (v := v) R (a := a) (s := s) (i := x) hV hs (by omega)
    obtain ⟨p1, e2⟩ := q_right R hV hs (i := x) (by omega) p
    rw [mV_wrong_L26, mM_wrong_L23, q1, q2, if_neg (by (try simp only [z_in0, z_isPlaceM, z_isPlaceN, z_isLetterN, z_isTenthN, z_isTapeN, z_isTapeM]); (try simp only [Int32.lt_iff_toInt_lt, Int32.le_iff_toInt_le, ← Int32.toInt_inj, Int32.reduceToInt, Int64.reduceToInt]); omega), if_neg (by (try simp only [z_in0, z_isPlaceM, z_isPlaceN, z_isLetterN, z_isTenthN, z_isTapeN, z_isTapeM]); (try simp only [Int32.lt_iff_toInt_lt, Int32.le_iff_toInt_le, ← Int32.toInt_inj, Int32.reduceToInt, Int64.reduceToInt]); omega), e1, e2]
    simp only [Option.bind_some, q3, q4, z_add0]
    cases xRt v a s x
    · simp only [z_tfF, if_true]
      exact ih n (i + 1) (x + 1) _ _ _ (by omega) (by omega) (by omega)
    · simp only [z_tfT, if_false]
      exact ih n (i + 1) (x + 1) _ _ _ (by omega) (by omega) (by omega)
theorem pS_wrong : zS_wrong Rel := by
  intro x1 x2 u v R
  have hRR : ∀ w1 w2, Rel (V_put_look w1 u) (M_put_pile w2 v) := fun _ _ => R
  have hl := R.1.2.2.1.2.2.2.1
  unfold zrg at hl
  unfold mV_wrong mM_wrong
  rcases z_vo R x1 with ⟨a, b⟩ | ⟨a, b, hV⟩
  · rw [a, if_pos b]
    exact ⟨_, _, _, rfl, rfl, R⟩
  · rw [a, if_neg b, Option.bind_some]
    simp only [zcs]
    rcases z_st R x2 with ⟨c, d⟩ | ⟨c, d, hs⟩
    · rw [if_pos c, if_pos d]
      exact ⟨_, _, _, rfl, rfl, R⟩
    · rw [if_neg c, if_neg d]
      obtain ⟨r, K', p', e1, e2⟩ := l_wrong R hV hs (M_letters v).toInt.toNat 256 0 0 0 (V_look u) (M_pile v) (by omega) (by omega) rfl
      exact ⟨r, K', p', e1, e2, hRR _ _⟩
/-- whether one of the LETTERS from here on is heard as it -/
def xSome (v : SM) (s : Int32) (w : Int32) (j : Bool) : Nat → Nat → Bool
  | 0, _ => false
  | d + 1, i => if xSd v s (Int32.ofNat i) j = w then true else xSome v s w j d (i + 1)
theorem l_can {u : SV} {v : SM} (R : Rel u v) {a s i0 : Int32} (hs : 0 ≤ s.toInt ∧ s.toInt ≤ 7) (hi : 0 ≤ i0.toInt ∧ i0.toInt ≤ 19) (j : Bool) (d : Nat) : ∀ (n i : Nat) (x : Int32) (K : SK), i + d = 10 → d < n → x.toInt = i → ∃ K', mV_canBeHeard_L17 a.toInt.toNat s i0 (ztf j) n x (V_put_look K u) = some (ztf (xSome v s (M_letter v i0.toInt.toNat) j d i), K') := by
  have hw := R.1.2.1 i0.toInt.toNat (by omega)
  have q1 : ∀ K, S_words (V_stage (V_put_look K u)) = S_words (V_stage u) := fun _ => rfl
  induction d with
  | zero =>
    intro n i x K h1 h2 h3
    obtain ⟨n, rfl⟩ : ∃ m, n = m + 1 := ⟨n - 1, by omega⟩
    rw [mV_canBeHeard_L17, if_pos (by (try simp only [z_in0, z_isPlaceM, z_isPlaceN, z_isLetterN, z_isTenthN, z_isTapeN, z_isTapeM]); (try simp only [Int32.lt_iff_toInt_lt, Int32.le_iff_toInt_le, ← Int32.toInt_inj, Int32.reduceToInt, Int64.reduceToInt]); omega)]
    exact ⟨_, rfl⟩
  | succ d ih =>
    intro n i x K h1 h2 h3
    obtain ⟨n, rfl⟩ : ∃ m, n = m + 1 := ⟨n - 1, by omega⟩
    have hx := z_one x (by omega) (by omega)
    have hxi : Int32.ofNat i = x := by
      have := z_ofNat (x := x) (by omega)
      rw [show x.toInt.toNat = i by omega] at this
      exact this
    rw [mV_canBeHeard_L17, if_neg (by (try simp only [z_in0, z_isPlaceM, z_isPlaceN, z_isLetterN, z_isTenthN, z_isTapeN, z_isTapeM]); (try simp only [Int32.lt_iff_toInt_lt, Int32.le_iff_toInt_le, ← Int32.toInt_inj, Int32.reduceToInt, Int64.reduceToInt]); omega), c_soundAt (u := V_put_look K u) (v := v) R hs ⟨by omega, by omega⟩, Option.bind_some, zgi_ok _ hi.1 (by omega), q1, z_nat, hw]
    unfold xSome
    rw [hxi]
    by_cases c : xSd v s x j = M_letter v i0.toInt.toNat
    · rw [if_pos c, if_pos c]
      exact ⟨_, rfl⟩
    · rw [if_neg c, if_neg c]
      exact ih n (i + 1) (x + 1) K (by omega) (by omega) (by omega)
theorem l_chi {u : SV} {v : SM} (R : Rel u v) {a s i0 c : Int32} (hV : zV u v a) (hs : 0 ≤ s.toInt ∧ s.toInt ≤ 7) (hi : 0 ≤ i0.toInt ∧ i0.toInt ≤ 19) (K23 : Int32 → Int32 → SM → Option (Int32 × (Nat → Int32))) (d : Nat) : ∀ (n i : Nat) (x : Int32) (b : Bool) (p : Nat → Int32), i + d = 10 → d < n → x.toInt = i → ∃ p', mM_changed_L45 K23 a s c i0 n (ztf b) x (M_put_pile p v) = (if (b || xSome v s (M_letter v i0.toInt.toNat) (xJ v a s (2 * i0) (M_jaw v) 0) d i) = true then K23 c (i0 + 1) (M_put_pile p' v) else K23 (c + 1) (i0 + 1) (M_put_pile p' v)) := by
  have q4 : ∀ p p' : Nat → Int32, M_put_pile p (M_put_pile p' v) = M_put_pile p v := fun _ _ => rfl
  have q1 : ∀ p : Nat → Int32, M_letter (M_put_pile p v) = M_letter v := fun _ => rfl
  induction d with
  | zero =>
    intro n i x b p h1 h2 h3
    obtain ⟨n, rfl⟩ : ∃ m, n = m + 1 := ⟨n - 1, by omega⟩
    rw [mM_changed_L45, if_pos (by (try simp only [z_in0, z_isPlaceM, z_isPlaceN, z_isLetterN, z_isTenthN, z_isTapeN, z_isTapeM]); (try simp only [Int32.lt_iff_toInt_lt, Int32.le_iff_toInt_le, ← Int32.toInt_inj, Int32.reduceToInt, Int64.reduceToInt]); omega)]
    unfold xSome
    cases b
    · simp only [z_tfF, if_true]
      exact ⟨p, rfl⟩
    · simp only [z_tfT, if_false, z_add0]
      exact ⟨p, rfl⟩
  | succ d ih =>
    intro n i x b p h1 h2 h3
    obtain ⟨n, rfl⟩ : ∃ m, n = m + 1 := ⟨n - 1, by omega⟩
    have hx := z_one x (by omega) (by omega)
    have hxi : Int32.ofNat i = x := by
      have := z_ofNat (x := x) (by omega)
      rw [show x.toInt.toNat = i by omega] at this
      exact this
    obtain ⟨p1, e1⟩ := q_heardOf R hV hs hi (l := x) ⟨by omega, by omega⟩ p
    rw [mM_changed_L45, if_neg (by (try simp only [z_in0, z_isPlaceM, z_isPlaceN, z_isLetterN, z_isTenthN, z_isTapeN, z_isTapeM]); (try simp only [Int32.lt_iff_toInt_lt, Int32.le_iff_toInt_le, ← Int32.toInt_inj, Int32.reduceToInt, Int64.reduceToInt]); omega)]
    cases b
    · simp only [z_tfF, if_true, e1, Option.bind_some, zgi_ok (i := i0) (n := 20) _ hi.1 (by omega), q1, q4, z_nat, Bool.false_or]
      unfold xSome
      rw [hxi]
      by_cases c : xSd v s x (xJ v a s (2 * i0) (M_jaw v) 0) = M_letter v i0.toInt.toNat
      · rw [if_pos c, if_pos c]
        obtain ⟨p', hp⟩ := ih n (i + 1) (x + 1) true p1 (by omega) (by omega) (by omega)
        simp only [Bool.true_or, if_true] at hp ⊢
        exact ⟨p', hp⟩
      · rw [if_neg c, if_neg c]
        obtain ⟨p', hp⟩ := ih n (i + 1) (x + 1) false p1 (by omega) (by omega) (by omega)
        simp only [Bool.false_or] at hp
        exact ⟨p', hp⟩
    · simp only [z_tfT, if_false]
      obtain ⟨p', hp⟩ := ih n (i + 1) (x + 1) true p (by omega) (by omega) (by omega)
      simp only [Bool.true_or, if_true] at hp ⊢
      exact ⟨p', hp⟩
/-- whether the i-th is heard, or could be -/
def xOk (v : SM) (a s i : Int32) : Bool := xRt v a s i || xSome v s (M_letter v i.toInt.toNat) (xJ v a s (2 * i) (M_jaw v) 0) 10 0
theorem c_can {u : SV} {v : SM} (R : Rel u v) {a s i : Int32} (hV : zV u v a) (hs : 0 ≤ s.toInt ∧ s.toInt ≤ 7) (hi : 0 ≤ i.toInt ∧ i.toInt ≤ 19) : ∃ K, mV_canBeHeard a.toInt.toNat s i u = some (ztf (xSome v s (M_letter v i.toInt.toNat) (xJ v a s (2 * i) (M_jaw v) 0) 10 0), K) := by
  have h2i := z_2i (i := i) (by omega)
  obtain ⟨K2, e4, k1, k2, k3, k4, k5, k6, k7⟩ := c_look R (a := a) (s := s) (t := 2 * i) hV hs (by omega)
  obtain ⟨K3, e5⟩ := l_can R (a := a) hs hi (xJ v a s (2 * i) (M_jaw v) 0) 10 256 0 0 K2 rfl (by omega) rfl
  unfold mV_canBeHeard
  rw [e4, Option.bind_some, k5, e5]
  exact ⟨K3, rfl⟩
theorem l_ch1 {u : SV} {v : SM} (R : Rel u v) {a s : Int32} (hV : zV u v a) (hs : 0 ≤ s.toInt ∧ s.toInt ≤ 7) (n : Nat) (c x : Int32) (hx : 0 ≤ x.toInt ∧ x.toInt < (M_letters v).toInt) (K : SK) : ∃ K', mV_changed_L26 a.toInt.toNat s (n + 1) c x (V_put_look K u) = mV_changed_L26 a.toInt.toNat s n (if xOk v a s x = true then c else c + 1) (x + 1) (V_put_look K' u) := by
  have hl := R.1.2.2.1.2.2.2.1
  have h4 : S_letters (V_stage (V_put_look K u)) = M_letters v := R.1.1.2.2.2.1
  have q3 : ∀ K K' : SK, V_put_look K (V_put_look K' u) = V_put_look K u := fun _ _ => rfl
  unfold zrg at hl
  obtain ⟨K1, e1⟩ := c_right (u := V_put_look K u) (v := v) R (a := a) (s := s) (i := x) hV hs (by omega)
  obtain ⟨K2, e2⟩ := c_can (u := V_put_look K1 u) (v := v) R (a := a) (s := s) (i := x) hV hs (by omega)
  rw [mV_changed_L26, h4, if_neg (by (try simp only [z_in0, z_isPlaceM, z_isPlaceN, z_isLetterN, z_isTenthN, z_isTapeN, z_isTapeM]); (try simp only [Int32.lt_iff_toInt_lt, Int32.le_iff_toInt_le, ← Int32.toInt_inj, Int32.reduceToInt, Int64.reduceToInt]); omega), e1, Option.bind_some]
  unfold xOk
  simp only [q3]
  cases xRt v a s x
  · simp only [z_tfF, if_true, Bool.false_or]
    rw [e2, Option.bind_some]
    simp only [q3]
    cases xSome v s (M_letter v x.toInt.toNat) (xJ v a s (2 * x) (M_jaw v) 0) 10 0
    · simp only [z_tfF, if_true, Bool.false_eq_true, if_false]
      exact ⟨_, rfl⟩
    · simp only [z_tfT, if_true, if_false]
      exact ⟨_, rfl⟩
  · simp only [z_tfT, if_true, if_false, Bool.true_or]
    exact ⟨_, rfl⟩
theorem l_ch2 {u : SV} {v : SM} (R : Rel u v) {a s : Int32} (hV : zV u v a) (hs : 0 ≤ s.toInt ∧ s.toInt ≤ 7) (n : Nat) (c x : Int32) (hx : 0 ≤ x.toInt ∧ x.toInt < (M_letters v).toInt) (p : Nat → Int32) : ∃ p', mM_changed_L23 a s (n + 1) c x (M_put_pile p v) = mM_changed_L23 a s n (if xOk v a s x = true then c else c + 1) (x + 1) (M_put_pile p' v) := by
  have hl := R.1.2.2.1.2.2.2.1
  have h4 : M_letters (M_put_pile p v) = M_letters v := rfl
  have q4 : ∀ p p' : Nat → Int32, M_put_pile p (M_put_pile p' v) = M_put_pile p v := fun _ _ => rfl
  unfold zrg at hl
  obtain ⟨p1, e2⟩ := q_right R hV hs (i := x) (by omega) p
  obtain ⟨p2, e3⟩ := l_chi R (c := c) (i0 := x) hV hs (by omega) (mM_changed_L23 a s n) 10 256 0 0 (xRt v a s x) p1 rfl (by omega) rfl
  rw [mM_changed_L23, h4, if_neg (by (try simp only [z_in0, z_isPlaceM, z_isPlaceN, z_isLetterN, z_isTenthN, z_isTapeN, z_isTapeM]); (try simp only [Int32.lt_iff_toInt_lt, Int32.le_iff_toInt_le, ← Int32.toInt_inj, Int32.reduceToInt, Int64.reduceToInt]); omega), e2, Option.bind_some, q4]
  refine ⟨p2, e3.trans ?_⟩
  unfold xOk
  split <;> rfl
theorem l_changed {u : SV} {v : SM} (R : Rel u v) {a s : Int32} (hV : zV u v a) (hs : 0 ≤ s.toInt ∧ s.toInt ≤ 7) (d : Nat) : ∀ (n i : Nat) (x c : Int32) (K : SK) (p : Nat → Int32), (i : Int) + d = (M_letters v).toInt → d < n → x.toInt = i → ∃ r K' p', mV_changed_L26 a.toInt.toNat s n c x (V_put_look K u) = some (r, K') ∧ mM_changed_L23 a s n c x (M_put_pile p v) = some (r, p') := by
  have hl := R.1.2.2.1.2.2.2.1
  have h4 := R.1.1.2.2.2.1
  have q1 : ∀ K, S_letters (V_stage (V_put_look K u)) = M_letters v := fun _ => h4
  have q2 : ∀ p : Nat → Int32, M_letters (M_put_pile p v) = M_letters v := fun _ => rfl
  unfold zrg at hl
  induction d with
  | zero =>
    intro n i x c K p h1 h2 h3
    obtain ⟨n, rfl⟩ : ∃ m, n = m + 1 := ⟨n - 1, by omega⟩
    rw [mV_changed_L26, mM_changed_L23, q1, q2, if_pos (by (try simp only [z_in0, z_isPlaceM, z_isPlaceN, z_isLetterN, z_isTenthN, z_isTapeN, z_isTapeM]); (try simp only [Int32.lt_iff_toInt_lt, Int32.le_iff_toInt_le, ← Int32.toInt_inj, Int32.reduceToInt, Int64.reduceToInt]); omega), if_pos (by (try simp only [z_in0, z_isPlaceM, z_isPlaceN, z_isLetterN, z_isTenthN, z_isTapeN, z_isTapeM]); (try simp only [Int32.lt_iff_toInt_lt, Int32.le_iff_toInt_le, ← Int32.toInt_inj, Int32.reduceToInt, Int64.reduceToInt]); omega)]
    exact ⟨_, _, _, rfl, rfl⟩
  | succ d ih =>
    intro n i x c K p h1 h2 h3
    obtain ⟨n, rfl⟩ : ∃ m, n = m + 1 := ⟨n - 1, by omega⟩
    have hx := z_one x (by omega) (by omega)
    obtain ⟨K1, e1⟩ := l_ch1 R hV hs n c x (by omega) K
    obtain ⟨p1, e2⟩ := l_ch2 R hV hs n c x (by omega) p
    rw [e1, e2]
    exact ih n (i + 1) (x + 1) _ _ _ (by omega) (by omega) (by omega)
theorem pS_changed : zS_changed Rel := by
  intro x1 x2 u v R
  have hRR : ∀ w1 w2, Rel (V_put_look w1 u) (M_put_pile w2 v) := fun _ _ => R
  have hl := R.1.2.2.1.2.2.2.1
  unfold zrg at hl
  unfold mV_changed mM_changed
  rcases z_vo R x1 with ⟨a, b⟩ | ⟨a, b, hV⟩
  · rw [a, if_pos b]
    exact ⟨_, _, _, rfl, rfl, R⟩
  · rw [a, if_neg b, Option.bind_some]
    simp only [zcs]
    rcases z_st R x2 with ⟨c, d⟩ | ⟨c, d, hs⟩
    · rw [if_pos c, if_pos d]
      exact ⟨_, _, _, rfl, rfl, R⟩
    · rw [if_neg c, if_neg d]
      obtain ⟨r, K', p', e1, e2⟩ := l_changed R hV hs (M_letters v).toInt.toNat 256 0 0 0 (V_look u) (M_pile v) (by omega) (by omega) rfl
      exact ⟨r, K', p', e1, e2, hRR _ _⟩
