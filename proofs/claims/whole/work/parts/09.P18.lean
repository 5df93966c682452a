/-! 09.P18: houseful, latest, drawn -/
def zall (P : Nat → Bool) : Nat → Nat → Bool
  | 0, _ => true
  | d + 1, i => P i && zall P d (i + 1)
theorem zall_and (P Q : Nat → Bool) : ∀ (d i : Nat), zall (fun k => P k && Q k) d i = (zall P d i && zall Q d i)
  | 0, _ => rfl
  | d + 1, i => by
    show (P i && Q i && zall (fun k => P k && Q k) d (i + 1)) = (P i && zall P d (i + 1) && (Q i && zall Q d (i + 1)))
    rw [zall_and P Q d (i + 1)]
    cases P i <;> cases Q i <;> cases zall P d (i + 1) <;> cases zall Q d (i + 1) <;> rfl
theorem z_ofI {x : Int32} {i : Nat} (h : x.toInt = i) : Int32.ofNat i = x := by
  have := z_ofNat (x := x) (by omega)
  rw [show x.toInt.toNat = i by omega] at this
  exact this
theorem z_or0 (x : Int32) : x ||| 0 = x := by
  rw [← Int32.toBitVec_inj, Int32.toBitVec_or]
  show x.toBitVec ||| 0#32 = x.toBitVec
  simp
theorem l_always {u : SV} {v : SM} (R : Rel u v) {a s T : Int32} (hV : zV u v a) (hs : 0 ≤ s.toInt ∧ s.toInt ≤ 7) (hT : T.toInt ≤ 40) (d : Nat) : ∀ (n i : Nat) (x : Int32) (K : SK), (i : Int) + d = T.toInt → d < n → x.toInt = i → ∃ K', mV_isAlwaysCaught_L11 a.toInt.toNat s T n x (V_put_look K u) = some (ztf (zall (fun k => xC v a s (Int32.ofNat k)) d i), K') := by
  have q3 : ∀ K K' : SK, V_put_look K (V_put_look K' u) = V_put_look K u := fun _ _ => rfl
  induction d with
  | zero =>
    intro n i x K h1 h2 h3
    obtain ⟨n, rfl⟩ : ∃ m, n = m + 1 := ⟨n - 1, by omega⟩
    rw [mV_isAlwaysCaught_L11, if_pos (by (try simp only [z_in0, z_isPlaceM, z_isPlaceN, z_isLetterN, z_isTenthN, z_isTapeN, z_isTapeM]); (try simp only [Int32.lt_iff_toInt_lt, Int32.le_iff_toInt_le, ← Int32.toInt_inj, Int32.reduceToInt, Int64.reduceToInt]); omega)]
    exact ⟨_, rfl⟩
  | succ d ih =>
    intro n i x K h1 h2 h3
    obtain ⟨n, rfl⟩ : ∃ m, n = m + 1 := ⟨n - 1, by omega⟩
    have hx := z_one x (by omega) (by omega)
    obtain ⟨K1, e1, k1, k2, k3, k4, k5, k6, k7⟩ := c_look (u := V_put_look K u) (v := v) R (a := a) (s := s) (t := x) hV hs (by omega)
    rw [mV_isAlwaysCaught_L11, if_neg (by (try simp only [z_in0, z_isPlaceM, z_isPlaceN, z_isLetterN, z_isTenthN, z_isTapeN, z_isTapeM]); (try simp only [Int32.lt_iff_toInt_lt, Int32.le_iff_toInt_le, ← Int32.toInt_inj, Int32.reduceToInt, Int64.reduceToInt]); omega), e1, Option.bind_some, k7, q3]
    unfold zall
    simp only [z_ofI h3]
    cases xC v a s x
    · simp only [z_tfF, if_true]
      exact ⟨_, rfl⟩
    · simp only [z_tfT, if_false, Bool.true_and]
      exact ih n (i + 1) (x + 1) K1 (by omega) (by omega) (by omega)
theorem c_always {u : SV} {v : SM} (R : Rel u v) {a s : Int32} (hV : zV u v a) (hs : 0 ≤ s.toInt ∧ s.toInt ≤ 7) : ∃ K', mV_isAlwaysCaught a.toInt.toNat s u = some (ztf (zall (fun k => xC v a s (Int32.ofNat k)) (2 * (M_letters v).toInt).toNat 0), K') := by
  have hl := R.1.2.2.1.2.2.2.1
  have h4 := R.1.1.2.2.2.1
  have e2 := z_two hl
  unfold zrg at hl
  unfold mV_isAlwaysCaught mS_tenthsSaidIn
  rw [h4]
  exact l_always R hV hs (by omega) (2 * (M_letters v).toInt).toNat 256 0 0 (V_look u) (by omega) (by omega) rfl
/-- whether a SEAT is caught: in that TENTH, or in all -/
def xCt (v : SM) (a s t : Int32) : Bool := if t.toInt < 0 then zall (fun k => xC v a s (Int32.ofNat k)) (2 * (M_letters v).toInt).toNat 0 else xC v a s t
theorem l_hf9 {u : SV} {v : SM} (R : Rel u v) {a s B t : Int32} (hV : zV u v a) (hs : 0 ≤ s.toInt ∧ s.toInt ≤ 7) (ht : t.toInt < 0) (KK : Int32 → Int32 → SM → Option (Int32 × (Nat → Int32))) (d : Nat) : ∀ (n i : Nat) (x : Int32) (b : Bool) (p : Nat → Int32), (i : Int) + d = 2 * (M_letters v).toInt → d < n → x.toInt = i → ∃ p', mM_houseful_L49 KK a t B s n (ztf b) x (M_put_pile p v) = KK (if (b && zall (fun k => xC v a s (Int32.ofNat k)) d i) = true then B ||| ((1 : Int32) <<< (s &&& 31)) else B) (s + 1) (M_put_pile p' v) := by
  have hl := R.1.2.2.1.2.2.2.1
  have e2 := z_two hl
  have q2 : ∀ p : Nat → Int32, M_letters (M_put_pile p v) = M_letters v := fun _ => rfl
  have q4 : ∀ p p' : Nat → Int32, M_put_pile p (M_put_pile p' v) = M_put_pile p v := fun _ _ => rfl
  unfold zrg at hl
  have out : ∀ (b : Bool) (p : Nat → Int32) (x : Int32), mM_houseful_J92 KK a t B s (ztf b) (M_put_pile p v) = KK (if b = true then B ||| ((1 : Int32) <<< (s &&& 31)) else B) (s + 1) (M_put_pile p v) := by
    intro b p x
    unfold mM_houseful_J92
    cases b
    · simp only [z_tfF, if_true, z_or0, Bool.false_eq_true, if_false]
    · simp only [z_tfT, if_true, if_false]
  induction d with
  | zero =>
    intro n i x b p h1 h2 h3
    obtain ⟨n, rfl⟩ : ∃ m, n = m + 1 := ⟨n - 1, by omega⟩
    rw [mM_houseful_L49, if_neg (by (try simp only [z_in0, z_isPlaceM, z_isPlaceN, z_isLetterN, z_isTenthN, z_isTapeN, z_isTapeM]); (try simp only [Int32.lt_iff_toInt_lt, Int32.le_iff_toInt_le, ← Int32.toInt_inj, Int32.reduceToInt, Int64.reduceToInt]); omega), q2]
    unfold mM_houseful_J67
    rw [if_pos (by (try simp only [z_in0, z_isPlaceM, z_isPlaceN, z_isLetterN, z_isTenthN, z_isTapeN, z_isTapeM]); (try simp only [Int32.lt_iff_toInt_lt, Int32.le_iff_toInt_le, ← Int32.toInt_inj, Int32.reduceToInt, Int64.reduceToInt]); omega), out b p x]
    refine ⟨p, ?_⟩
    unfold zall
    cases b <;> rfl
  | succ d ih =>
    intro n i x b p h1 h2 h3
    obtain ⟨n, rfl⟩ : ∃ m, n = m + 1 := ⟨n - 1, by omega⟩
    have hx := z_one x (by omega) (by omega)
    rw [mM_houseful_L49, if_neg (by (try simp only [z_in0, z_isPlaceM, z_isPlaceN, z_isLetterN, z_isTenthN, z_isTapeN, z_isTapeM]); (try simp only [Int32.lt_iff_toInt_lt, Int32.le_iff_toInt_le, ← Int32.toInt_inj, Int32.reduceToInt, Int64.reduceToInt]); omega), q2]
    unfold mM_houseful_J67
    rw [if_neg (by (try simp only [z_in0, z_isPlaceM, z_isPlaceN, z_isLetterN, z_isTenthN, z_isTapeN, z_isTapeM]); (try simp only [Int32.lt_iff_toInt_lt, Int32.le_iff_toInt_le, ← Int32.toInt_inj, Int32.reduceToInt, Int64.reduceToInt]); omega), out b p x]
    cases b
    · simp only [z_tfF, if_true]
      exact ⟨p, rfl⟩
    · obtain ⟨p1, e1⟩ := q_caught R hV hs (t := x) (by omega) p
      simp only [z_tfT, if_false, e1, Option.bind_some, q4]
      obtain ⟨p2, e3⟩ := ih n (i + 1) (x + 1) (xC v a s x) p1 (by omega) (by omega) (by omega)
      refine ⟨p2, e3.trans ?_⟩
      conv => rhs; unfold zall
      simp only [z_ofI h3, Bool.true_and]
theorem l_hf1 {u : SV} {v : SM} (R : Rel u v) {a s B t : Int32} (hV : zV u v a) (hs : 0 ≤ s.toInt ∧ s.toInt ≤ 7) (ht : -1 ≤ t.toInt ∧ t.toInt ≤ 39) (n : Nat) (hn : s.toInt < (M_seats v).toInt) (p : Nat → Int32) : ∃ p', mM_houseful_L26 a t (n + 1) B s (M_put_pile p v) = mM_houseful_L26 a t n (if xCt v a s t = true then B ||| ((1 : Int32) <<< (s &&& 31)) else B) (s + 1) (M_put_pile p' v) := by
  have hl := R.1.2.2.1.2.2.2.1
  have q2 : M_seats (M_put_pile p v) = M_seats v := rfl
  have q4 : ∀ p p' : Nat → Int32, M_put_pile p (M_put_pile p' v) = M_put_pile p v := fun _ _ => rfl
  unfold zrg at hl
  rw [mM_houseful_L26, q2, if_neg (by (try simp only [z_in0, z_isPlaceM, z_isPlaceN, z_isLetterN, z_isTenthN, z_isTapeN, z_isTapeM]); (try simp only [Int32.lt_iff_toInt_lt, Int32.le_iff_toInt_le, ← Int32.toInt_inj, Int32.reduceToInt, Int64.reduceToInt]); omega)]
  unfold xCt
  by_cases c : t.toInt < 0
  · rw [if_neg (by (try simp only [z_in0, z_isPlaceM, z_isPlaceN, z_isLetterN, z_isTenthN, z_isTapeN, z_isTapeM]); (try simp only [Int32.lt_iff_toInt_lt, Int32.le_iff_toInt_le, ← Int32.toInt_inj, Int32.reduceToInt, Int64.reduceToInt]); omega), if_pos c]
    obtain ⟨p', e⟩ := l_hf9 R (B := B) hV hs c (mM_houseful_L26 a t n) (2 * (M_letters v).toInt).toNat 256 0 0 true p (by omega) (by omega) rfl
    refine ⟨p', e.trans ?_⟩
    rw [Bool.true_and]
  · have hx := z_one t (by omega) (by omega)
    rw [if_pos (by (try simp only [z_in0, z_isPlaceM, z_isPlaceN, z_isLetterN, z_isTenthN, z_isTapeN, z_isTapeM]); (try simp only [Int32.lt_iff_toInt_lt, Int32.le_iff_toInt_le, ← Int32.toInt_inj, Int32.reduceToInt, Int64.reduceToInt]); omega), if_neg c]
    obtain ⟨p1, e1⟩ := q_caught R hV hs (t := t) (by omega) p
    obtain ⟨N, hN⟩ : ∃ N : Nat, N = 254 := ⟨_, rfl⟩
    rw [show (256 : Nat) = N + 1 + 1 by omega, mM_houseful_L49, if_pos (by (try simp only [z_in0, z_isPlaceM, z_isPlaceN, z_isLetterN, z_isTenthN, z_isTapeN, z_isTapeM]); (try simp only [Int32.lt_iff_toInt_lt, Int32.le_iff_toInt_le, ← Int32.toInt_inj, Int32.reduceToInt, Int64.reduceToInt]); omega)]
    unfold mM_houseful_J67
    rw [if_neg (by (try simp only [z_in0, z_isPlaceM, z_isPlaceN, z_isLetterN, z_isTenthN, z_isTapeN, z_isTapeM]); (try simp only [Int32.lt_iff_toInt_lt, Int32.le_iff_toInt_le, ← Int32.toInt_inj, Int32.reduceToInt, Int64.reduceToInt]); omega), if_neg (by decide), e1, Option.bind_some, q4]
    refine ⟨p1, ?_⟩
    rw [mM_houseful_L49, if_pos (by (try simp only [z_in0, z_isPlaceM, z_isPlaceN, z_isLetterN, z_isTenthN, z_isTapeN, z_isTapeM]); (try simp only [Int32.lt_iff_toInt_lt, Int32.le_iff_toInt_le, ← Int32.toInt_inj, Int32.reduceToInt, Int64.reduceToInt]); omega)]
    unfold mM_houseful_J67
    rw [if_pos (by (try simp only [z_in0, z_isPlaceM, z_isPlaceN, z_isLetterN, z_isTenthN, z_isTapeN, z_isTapeM]); (try simp only [Int32.lt_iff_toInt_lt, Int32.le_iff_toInt_le, ← Int32.toInt_inj, Int32.reduceToInt, Int64.reduceToInt]); omega)]
    unfold mM_houseful_J92
    cases xC v a s t
    · simp only [z_tfF, if_true, z_or0, Bool.false_eq_true, if_false]
    · simp only [z_tfT, if_true, if_false]
theorem l_hf2 {u : SV} {v : SM} (R : Rel u v) {a s B t : Int32} (hV : zV u v a) (hs : 0 ≤ s.toInt ∧ s.toInt ≤ 7) (ht : -1 ≤ t.toInt ∧ t.toInt ≤ 39) (n : Nat) (hn : s.toInt < (M_seats v).toInt) (K : SK) : ∃ K', mV_houseful_L30 a.toInt.toNat t (n + 1) B s (V_put_look K u) = mV_houseful_L30 a.toInt.toNat t n (if xCt v a s t = true then B ||| ((1 : Int32) <<< (s &&& 31)) else B) (s + 1) (V_put_look K' u) := by
  have q2 : V_seats (V_put_look K u) = M_seats v := R.2.2.1.1.1
  have q3 : ∀ K K' : SK, V_put_look K (V_put_look K' u) = V_put_look K u := fun _ _ => rfl
  rw [mV_houseful_L30, q2, if_neg (by (try simp only [z_in0, z_isPlaceM, z_isPlaceN, z_isLetterN, z_isTenthN, z_isTapeN, z_isTapeM]); (try simp only [Int32.lt_iff_toInt_lt, Int32.le_iff_toInt_le, ← Int32.toInt_inj, Int32.reduceToInt, Int64.reduceToInt]); omega)]
  unfold xCt mV_houseful_J65
  by_cases c : t.toInt < 0
  · obtain ⟨K1, e1⟩ := c_always (u := V_put_look K u) (v := v) R hV hs
    rw [if_pos (by (try simp only [z_in0, z_isPlaceM, z_isPlaceN, z_isLetterN, z_isTenthN, z_isTapeN, z_isTapeM]); (try simp only [Int32.lt_iff_toInt_lt, Int32.le_iff_toInt_le, ← Int32.toInt_inj, Int32.reduceToInt, Int64.reduceToInt]); omega), if_pos c, e1, Option.bind_some, q3]
    cases zall (fun k => xC v a s (Int32.ofNat k)) (2 * (M_letters v).toInt).toNat 0
    · simp only [z_tfF, if_true, Bool.false_eq_true, if_false]
      exact ⟨K1, rfl⟩
    · simp only [z_tfT, if_true, if_false]
      exact ⟨K1, rfl⟩
  · obtain ⟨K1, e1, k1, k2, k3, k4, k5, k6, k7⟩ := c_look (u := V_put_look K u) (v := v) R (a := a) (s := s) (t := t) hV hs (by omega)
    rw [if_neg (by (try simp only [z_in0, z_isPlaceM, z_isPlaceN, z_isLetterN, z_isTenthN, z_isTapeN, z_isTapeM]); (try simp only [Int32.lt_iff_toInt_lt, Int32.le_iff_toInt_le, ← Int32.toInt_inj, Int32.reduceToInt, Int64.reduceToInt]); omega), if_neg c, e1, Option.bind_some, q3, k7]
    cases xC v a s t
    · simp only [z_tfF, if_true, Bool.false_eq_true, if_false]
      exact ⟨K1, rfl⟩
    · simp only [z_tfT, if_true, if_false]
      exact ⟨K1, rfl⟩
theorem l_hf {u : SV} {v : SM} (R : Rel u v) {a t : Int32} (hV : zV u v a) (ht : -1 ≤ t.toInt ∧ t.toInt ≤ 39) (d : Nat) : ∀ (n i : Nat) (x B : Int32) (K : SK) (p : Nat → Int32), (i : Int) + d = (M_seats v).toInt → d < n → x.toInt = i → ∃ r K' p', mV_houseful_L30 a.toInt.toNat t n B x (V_put_look K u) = some (r, K') ∧ mM_houseful_L26 a t n B x (M_put_pile p v) = some (r, p') := by
  have h4 := R.2.2.1.1.1
  have hl := R.2.2.1.1.2
  have q1 : ∀ K, V_seats (V_put_look K u) = M_seats v := fun _ => h4
  have q2 : ∀ p : Nat → Int32, M_seats (M_put_pile p v) = M_seats v := fun _ => rfl
  unfold zrg at hl
  induction d with
  | zero =>
    intro n i x B K p h1 h2 h3
    obtain ⟨n, rfl⟩ : ∃ m, n = m + 1 := ⟨n - 1, by omega⟩
    rw [mV_houseful_L30, mM_houseful_L26, q1, q2, if_pos (by (try simp only [z_in0, z_isPlaceM, z_isPlaceN, z_isLetterN, z_isTenthN, z_isTapeN, z_isTapeM]); (try simp only [Int32.lt_iff_toInt_lt, Int32.le_iff_toInt_le, ← Int32.toInt_inj, Int32.reduceToInt, Int64.reduceToInt]); omega), if_pos (by (try simp only [z_in0, z_isPlaceM, z_isPlaceN, z_isLetterN, z_isTenthN, z_isTapeN, z_isTapeM]); (try simp only [Int32.lt_iff_toInt_lt, Int32.le_iff_toInt_le, ← Int32.toInt_inj, Int32.reduceToInt, Int64.reduceToInt]); omega)]
    exact ⟨_, _, _, rfl, rfl⟩
  | succ d ih =>
    intro n i x B K p h1 h2 h3
    obtain ⟨n, rfl⟩ : ∃ m, n = m + 1 := ⟨n - 1, by omega⟩
    have hx := z_one x (by omega) (by omega)
    obtain ⟨K1, e1⟩ := l_hf2 R hV (s := x) (by omega) ht n (B := B) (by omega) K
    obtain ⟨p1, e2⟩ := l_hf1 R hV (s := x) (by omega) ht n (B := B) (by omega) p
    rw [e1, e2]
    exact ih n (i + 1) (x + 1) _ _ _ (by omega) (by omega) (by omega)
theorem pS_houseful : zS_houseful Rel := by
  intro x1 x2 u v R
  have hRR : ∀ w1 w2, Rel (V_put_look w1 u) (M_put_pile w2 v) := fun _ _ => R
  have hl := R.2.2.1.1.2
  unfold zrg at hl
  unfold mV_houseful mM_houseful
  rcases z_vo R x1 with ⟨a, b⟩ | ⟨a, b, hV⟩
  · rw [a, if_pos b]
    exact ⟨_, _, _, rfl, rfl, R⟩
  · rw [a, if_neg b, Option.bind_some]
    simp only [zcs, z_isTenthN, z_in0, Int32.reduceToInt]
    by_cases c : x2.toInt < -1 ∨ 39 < x2.toInt
    · rw [if_pos c, if_neg (by (try simp only [z_in0, z_isPlaceM, z_isPlaceN, z_isLetterN, z_isTenthN, z_isTapeN, z_isTapeM]); (try simp only [Int32.lt_iff_toInt_lt, Int32.le_iff_toInt_le, ← Int32.toInt_inj, Int32.reduceToInt, Int64.reduceToInt]); omega), if_pos (by omega)]
      exact ⟨_, _, _, rfl, rfl, R⟩
    · obtain ⟨r, K', p', e1, e2⟩ := l_hf R hV (t := x2) (by omega) (M_seats v).toInt.toNat 256 0 0 0 (V_look u) (M_pile v) (by omega) (by omega) rfl
      have e1' : mV_houseful_L30 x1.toInt.toNat x2 256 0 0 u = some (r, K') := e1
      have e2' : mM_houseful_L26 x1 x2 256 0 0 v = some (r, p') := e2
      refine ⟨r, K', p', ?_, ?_, hRR _ _⟩
      · rw [e1']
        by_cases d : x2 = -1
        · rw [if_pos d]
        · rw [if_neg d, if_neg]
          have : x2.toInt ≠ -1 := fun h => d (Int32.toInt_inj.mp (by rw [h]; rfl))
          omega
      · rw [if_neg c]
        exact e2'
