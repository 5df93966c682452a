/-! 09.P20: swap, changes, judge -/
/-- bits of a row of truths -/
def zB (f : Nat → Bool) : Nat → Nat
  | 0 => 0
  | n + 1 => zB f n + (if f n then 2 ^ n else 0)
theorem zB_lt (f : Nat → Bool) : ∀ n, zB f n < 2 ^ n
  | 0 => (by show (0 : Nat) < 1; decide)
  | n + 1 => by
    have := zB_lt f n
    have e : 2 ^ (n + 1) = 2 * 2 ^ n := by rw [Nat.pow_succ]; omega
    show zB f n + (if f n then 2 ^ n else 0) < 2 ^ (n + 1)
    split <;> omega
theorem zB_bit (f : Nat → Bool) : ∀ (n s : Nat), s < n → (zB f n).testBit s = f s
  | n + 1, s, h => by
    have hlt := zB_lt f n
    show (zB f n + (if f n then 2 ^ n else 0)).testBit s = f s
    by_cases c : s = n
    · subst c
      cases hf : f s
      · simp only [Bool.false_eq_true, if_false, Nat.add_zero]
        exact Nat.testBit_lt_two_pow hlt
      · simp only [if_true]
        rw [Nat.add_comm, Nat.testBit_two_pow_add_eq, Nat.testBit_lt_two_pow hlt]
        rfl
    · have hs : s < n := by omega
      split
      · rw [Nat.add_comm, Nat.testBit_two_pow_add_gt hs]
        exact zB_bit f n s hs
      · rw [Nat.add_zero]
        exact zB_bit f n s hs
theorem z_or8 : ∀ i, i < 8 → ∀ b, b < 2 ^ i → (Int32.ofNat b ||| ((1 : Int32) <<< (Int32.ofNat i &&& 31))) = Int32.ofNat (b + 2 ^ i) := by decide +kernel
theorem z_bt8 : ∀ s, s < 8 → ∀ b, b < 256 → ((Int32.ofNat b >>> (Int32.ofNat s &&& 31)) &&& 1 = 0) = (b.testBit s = false) := by
  have h : ∀ s, s < 8 → ∀ b, b < 256 → (((Int32.ofNat b >>> (Int32.ofNat s &&& 31)) &&& 1 = 0) ↔ (b.testBit s = false)) := by decide +kernel
  exact fun s hs b hb => propext (h s hs b hb)
/-- who is JOINED -/
def xJs (v : SM) (a t : Int32) (s : Nat) : Bool := xJ v a (Int32.ofNat s) t (M_jaw v) 0
theorem l_js {u : SV} {v : SM} (R : Rel u v) {a t : Int32} (hV : zV u v a) (ht : 0 ≤ t.toInt ∧ t.toInt ≤ 39) (d : Nat) : ∀ (n i : Nat) (x B : Int32) (K : SK), (i : Int) + d = (M_seats v).toInt → d < n → x.toInt = i → B = Int32.ofNat (zB (xJs v a t) i) → ∃ K', mV_joinedSeats_L5 a.toInt.toNat t n B x (V_put_look K u) = some (Int32.ofNat (zB (xJs v a t) (i + d)), K') := by
  have h4 := R.2.2.1.1.1
  have hl := R.2.2.1.1.2
  have q1 : ∀ K, V_seats (V_put_look K u) = M_seats v := fun _ => h4
  have q3 : ∀ K K' : SK, V_put_look K (V_put_look K' u) = V_put_look K u := fun _ _ => rfl
  unfold zrg at hl
  induction d with
  | zero =>
    intro n i x B K h1 h2 h3 hB
    obtain ⟨n, rfl⟩ : ∃ m, n = m + 1 := ⟨n - 1, by omega⟩
    rw [mV_joinedSeats_L5, q1, if_pos (by (try simp only [z_in0, z_isPlaceM, z_isPlaceN, z_isLetterN, z_isTenthN, z_isTapeN, z_isTapeM]); (try simp only [Int32.lt_iff_toInt_lt, Int32.le_iff_toInt_le, ← Int32.toInt_inj, Int32.reduceToInt, Int64.reduceToInt]); omega), hB]
    exact ⟨_, rfl⟩
  | succ d ih =>
    intro n i x B K h1 h2 h3 hB
    obtain ⟨n, rfl⟩ : ∃ m, n = m + 1 := ⟨n - 1, by omega⟩
    have hx := z_one x (by omega) (by omega)
    obtain ⟨K1, e1, k1, k2, k3, k4, k5, k6, k7⟩ := c_look (u := V_put_look K u) (v := v) R (a := a) (s := x) (t := t) hV (by omega) ht
    rw [mV_joinedSeats_L5, q1, if_neg (by (try simp only [z_in0, z_isPlaceM, z_isPlaceN, z_isLetterN, z_isTenthN, z_isTapeN, z_isTapeM]); (try simp only [Int32.lt_iff_toInt_lt, Int32.le_iff_toInt_le, ← Int32.toInt_inj, Int32.reduceToInt, Int64.reduceToInt]); omega), e1, Option.bind_some, k5, q3, show i + (d + 1) = i + 1 + d by omega]
    have hz : zB (xJs v a t) (i + 1) = zB (xJs v a t) i + (if xJs v a t i then 2 ^ i else 0) := rfl
    have hj : xJs v a t i = xJ v a x t (M_jaw v) 0 := by unfold xJs; rw [z_ofI h3]
    rw [hj] at hz
    cases hc : xJ v a x t (M_jaw v) 0
    · simp only [z_tfF, if_true]
      exact ih n (i + 1) (x + 1) B K1 (by omega) (by omega) (by omega) (by rw [hz, hc, hB]; rfl)
    · simp only [z_tfT, if_false]
      refine ih n (i + 1) (x + 1) _ K1 (by omega) (by omega) (by omega) ?_
      have := z_or8 i (by omega) (zB (xJs v a t) i) (zB_lt _ _)
      rw [z_ofI h3] at this
      rw [hz, hc, hB, this]
      rfl
/-- how many SEATS hear it -/
def xHc (v : SM) (a t w l : Int32) (s : Nat) : Bool := decide (xSd v (Int32.ofNat s) l (xJs v a t s) = w)
theorem l_sh {u : SV} {v : SM} (R : Rel u v) {a t w l : Int32} (hl9 : zrg 0 9 l) (d : Nat) : ∀ (n i : Nat) (x c : Int32), (i : Int) + d = (M_seats v).toInt → d < n → x.toInt = i → c = Int32.ofNat (zcnt (xHc v a t w l) i) → mV_seatsHearing_L6 w l (Int32.ofNat (zB (xJs v a t) (M_seats v).toInt.toNat)) u n c x = some (Int32.ofNat (zcnt (xHc v a t w l) (i + d))) := by
  have h4 := R.2.2.1.1.1
  have hl := R.2.2.1.1.2
  unfold zrg at hl
  induction d with
  | zero =>
    intro n i x c h1 h2 h3 hc
    obtain ⟨n, rfl⟩ : ∃ m, n = m + 1 := ⟨n - 1, by omega⟩
    rw [mV_seatsHearing_L6, h4, if_pos (by (try simp only [z_in0, z_isPlaceM, z_isPlaceN, z_isLetterN, z_isTenthN, z_isTapeN, z_isTapeM]); (try simp only [Int32.lt_iff_toInt_lt, Int32.le_iff_toInt_le, ← Int32.toInt_inj, Int32.reduceToInt, Int64.reduceToInt]); omega), hc]
    rfl
  | succ d ih =>
    intro n i x c h1 h2 h3 hc
    obtain ⟨n, rfl⟩ : ∃ m, n = m + 1 := ⟨n - 1, by omega⟩
    have hx := z_one x (by omega) (by omega)
    have hlt := zB_lt (xJs v a t) (M_seats v).toInt.toNat
    have hp : 2 ^ (M_seats v).toInt.toNat ≤ 2 ^ 8 := Nat.pow_le_pow_right (by omega) (by omega)
    have hb := z_bt8 i (by omega) (zB (xJs v a t) (M_seats v).toInt.toNat) (by omega)
    rw [z_ofI h3, zB_bit _ _ _ (by omega)] at hb
    rw [mV_seatsHearing_L6, h4, if_neg (by (try simp only [z_in0, z_isPlaceM, z_isPlaceN, z_isLetterN, z_isTenthN, z_isTapeN, z_isTapeM]); (try simp only [Int32.lt_iff_toInt_lt, Int32.le_iff_toInt_le, ← Int32.toInt_inj, Int32.reduceToInt, Int64.reduceToInt]); omega), show i + (d + 1) = i + 1 + d by omega]
    simp only [hb]
    have s0 := c_soundAt R (s := x) (l := l) (by omega) hl9 false
    have s1 := c_soundAt R (s := x) (l := l) (by omega) hl9 true
    rw [show ztf false = 0 from rfl] at s0
    rw [show ztf true = 1 from rfl] at s1
    rw [s0, s1]
    simp only [Option.bind_some]
    have hz : zcnt (xHc v a t w l) (i + 1) = zcnt (xHc v a t w l) i + (if xHc v a t w l i then 1 else 0) := rfl
    have hcl := zcnt_le (xHc v a t w l) i
    have hadd : c + 1 = Int32.ofNat (zcnt (xHc v a t w l) i + 1) := by
      rw [hc]
      apply Int32.toInt_inj.mp
      have e1 : (Int32.ofNat (zcnt (xHc v a t w l) i)).toInt = zcnt (xHc v a t w l) i := Int32.toInt_ofNat_of_lt (by omega)
      rw [z_one _ (by rw [e1]; omega) (by rw [e1]; omega), e1, Int32.toInt_ofNat_of_lt (by omega)]
      omega
    have fin : ∀ j : Bool, xJs v a t i = j → (if xSd v x l j = w then mV_seatsHearing_L6 w l (Int32.ofNat (zB (xJs v a t) (M_seats v).toInt.toNat)) u n (c + 1) (x + 1) else mV_seatsHearing_L6 w l (Int32.ofNat (zB (xJs v a t) (M_seats v).toInt.toNat)) u n c (x + 1)) = some (Int32.ofNat (zcnt (xHc v a t w l) (i + 1 + d))) := by
      intro j hj
      have he : xHc v a t w l i = decide (xSd v x l j = w) := by unfold xHc; rw [z_ofI h3, hj]
      by_cases q : xSd v x l j = w
      · rw [if_pos q]
        rw [decide_eq_true q] at he
        exact ih n (i + 1) (x + 1) (c + 1) (by omega) (by omega) (by omega) (by rw [hz, he, hadd]; rfl)
      · rw [if_neg q]
        rw [decide_eq_false q] at he
        exact ih n (i + 1) (x + 1) c (by omega) (by omega) (by omega) (by rw [hz, he, hc]; rfl)
    cases hj : xJs v a t i
    · simp only [if_true]
      exact fin false hj
    · simp only [Bool.true_eq_false, if_false]
      exact fin true hj
theorem l_shM {u : SV} {v : SM} (R : Rel u v) {a i0 w4 b m l : Int32} (hV : zV u v a) (hi : 0 ≤ i0.toInt ∧ i0.toInt ≤ 19) (hl9 : zrg 0 9 l) (KK : Int32 → Int32 → Int32 → SM → Option (Int32 × (Nat → Int32))) (d : Nat) : ∀ (n i : Nat) (x c : Int32) (p : Nat → Int32), (i : Int) + d = (M_seats v).toInt → d < n → x.toInt = i → c = Int32.ofNat (zcnt (xHc v a (2 * i0) (M_letter v i0.toInt.toNat) l) i) → ∃ p', mM_swap_L57 KK a i0 w4 b m l n c x (M_put_pile p v) = if m < Int32.ofNat (zcnt (xHc v a (2 * i0) (M_letter v i0.toInt.toNat) l) (i + d)) then KK l (Int32.ofNat (zcnt (xHc v a (2 * i0) (M_letter v i0.toInt.toNat) l) (i + d))) (l + 1) (M_put_pile p' v) else KK b m (l + 1) (M_put_pile p' v) := by
  have hl := R.2.2.1.1.2
  have q1 : ∀ p : Nat → Int32, M_seats (M_put_pile p v) = M_seats v := fun _ => rfl
  have q2 : ∀ p : Nat → Int32, M_letter (M_put_pile p v) = M_letter v := fun _ => rfl
  have q4 : ∀ p p' : Nat → Int32, M_put_pile p (M_put_pile p' v) = M_put_pile p v := fun _ _ => rfl
  unfold zrg at hl
  induction d with
  | zero =>
    intro n i x c p h1 h2 h3 hc
    obtain ⟨n, rfl⟩ : ∃ m, n = m + 1 := ⟨n - 1, by omega⟩
    rw [mM_swap_L57, q1, if_pos (by (try simp only [z_in0, z_isPlaceM, z_isPlaceN, z_isLetterN, z_isTenthN, z_isTapeN, z_isTapeM]); (try simp only [Int32.lt_iff_toInt_lt, Int32.le_iff_toInt_le, ← Int32.toInt_inj, Int32.reduceToInt, Int64.reduceToInt]); omega), hc]
    exact ⟨p, rfl⟩
  | succ d ih =>
    intro n i x c p h1 h2 h3 hc
    obtain ⟨n, rfl⟩ : ∃ m, n = m + 1 := ⟨n - 1, by omega⟩
    have hx := z_one x (by omega) (by omega)
    obtain ⟨p1, e1⟩ := q_heardOf R hV (s := x) (i := i0) (l := l) (by omega) hi hl9 p
    rw [mM_swap_L57, q1, if_neg (by (try simp only [z_in0, z_isPlaceM, z_isPlaceN, z_isLetterN, z_isTenthN, z_isTapeN, z_isTapeM]); (try simp only [Int32.lt_iff_toInt_lt, Int32.le_iff_toInt_le, ← Int32.toInt_inj, Int32.reduceToInt, Int64.reduceToInt]); omega), e1, Option.bind_some, zgi_ok _ hi.1 (by omega), q2, q4, z_nat, show i + (d + 1) = i + 1 + d by omega]
    have hz : zcnt (xHc v a (2 * i0) (M_letter v i0.toInt.toNat) l) (i + 1) = zcnt (xHc v a (2 * i0) (M_letter v i0.toInt.toNat) l) i + (if xHc v a (2 * i0) (M_letter v i0.toInt.toNat) l i then 1 else 0) := rfl
    have hcl := zcnt_le (xHc v a (2 * i0) (M_letter v i0.toInt.toNat) l) i
    have hadd : c + 1 = Int32.ofNat (zcnt (xHc v a (2 * i0) (M_letter v i0.toInt.toNat) l) i + 1) := by
      rw [hc]
      apply Int32.toInt_inj.mp
      have e1 : (Int32.ofNat (zcnt (xHc v a (2 * i0) (M_letter v i0.toInt.toNat) l) i)).toInt = zcnt (xHc v a (2 * i0) (M_letter v i0.toInt.toNat) l) i := Int32.toInt_ofNat_of_lt (by omega)
      rw [z_one _ (by rw [e1]; omega) (by rw [e1]; omega), e1, Int32.toInt_ofNat_of_lt (by omega)]
      omega
    have he : xHc v a (2 * i0) (M_letter v i0.toInt.toNat) l i = decide (xSd v x l (xJ v a x (2 * i0) (M_jaw v) 0) = M_letter v i0.toInt.toNat) := by unfold xHc xJs; rw [z_ofI h3]
    by_cases q : xSd v x l (xJ v a x (2 * i0) (M_jaw v) 0) = M_letter v i0.toInt.toNat
    · simp only [if_pos q]
      rw [decide_eq_true q] at he
      exact ih n (i + 1) (x + 1) (c + 1) p1 (by omega) (by omega) (by omega) (by rw [hz, he, hadd]; rfl)
    · simp only [if_neg q, z_add0]
      rw [decide_eq_false q] at he
      exact ih n (i + 1) (x + 1) c p1 (by omega) (by omega) (by omega) (by rw [hz, he, hc]; rfl)
