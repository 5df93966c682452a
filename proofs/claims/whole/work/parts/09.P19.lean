/-! 09.P19: latest, drawn -/
/-- the greatest below, if there is one -/
def zdown (P : Nat → Bool) : Nat → Option Nat
  | 0 => none
  | n + 1 => if P n = true then some n else zdown P n
def zcd : Option Nat → Int32
  | none => -5
  | some n => Int32.ofNat n
theorem zdown_none {P : Nat → Bool} : ∀ {n : Nat}, (∀ k, k < n → P k = false) → zdown P n = none
  | 0, _ => rfl
  | n + 1, h => by
    show (if P n = true then some n else zdown P n) = none
    rw [h n (by omega)]
    exact zdown_none (fun k hk => h k (by omega))
theorem zdown_cg {P Q : Nat → Bool} : ∀ {n : Nat}, (∀ k, k < n → P k = Q k) → zdown P n = zdown Q n
  | 0, _ => rfl
  | n + 1, h => by
    show (if P n = true then some n else zdown P n) = (if Q n = true then some n else zdown Q n)
    rw [h n (by omega), zdown_cg (fun k hk => h k (by omega))]
theorem z_dec {x : Int32} (h : 0 ≤ x.toInt) : ∃ y, y = x + -1 ∧ y.toInt = x.toInt - 1 := by
  have := z_lt x
  refine ⟨x + -1, rfl, ?_⟩
  rw [z_addI (by simp only [Int32.reduceToInt]; omega) (by simp only [Int32.reduceToInt]; omega)]
  simp only [Int32.reduceToInt]
  omega
theorem l_lt9 {u : SV} {v : SM} (R : Rel u v) {a s l : Int32} (hV : zV u v a) (hs : 0 ≤ s.toInt ∧ s.toInt ≤ 7) (hl : 0 ≤ l.toInt ∧ l.toInt ≤ 20) (KK : Int32 → SM → Option (Int32 × (Nat → Int32))) (d : Nat) : ∀ (n i : Nat) (x : Int32) (b : Bool) (p : Nat → Int32), (i : Int) + d = 2 * (M_letters v).toInt → d < n → x.toInt = i → ∃ p', mM_latest_L31 KK a s l n (ztf b) x (M_put_pile p v) = if (b && zall (fun k => xJ v a s (Int32.ofNat k) (M_jaw v) l) d i) = true then some (l, p') else KK (l + -1) (M_put_pile p' v) := by
  have hll := R.1.2.2.1.2.2.2.1
  have e2 := z_two hll
  have q2 : ∀ p : Nat → Int32, M_letters (M_put_pile p v) = M_letters v := fun _ => rfl
  have q5 : ∀ p : Nat → Int32, M_jaw (M_put_pile p v) = M_jaw v := fun _ => rfl
  have q4 : ∀ p p' : Nat → Int32, M_put_pile p (M_put_pile p' v) = M_put_pile p v := fun _ _ => rfl
  unfold zrg at hll
  induction d with
  | zero =>
    intro n i x b p h1 h2 h3
    obtain ⟨n, rfl⟩ : ∃ m, n = m + 1 := ⟨n - 1, by omega⟩
    rw [mM_latest_L31, q2, if_pos (by (try simp only [z_in0, z_isPlaceM, z_isPlaceN, z_isLetterN, z_isTenthN, z_isTapeN, z_isTapeM]); (try simp only [Int32.lt_iff_toInt_lt, Int32.le_iff_toInt_le, ← Int32.toInt_inj, Int32.reduceToInt, Int64.reduceToInt]); omega)]
    refine ⟨p, ?_⟩
    unfold zall
    cases b
    · rfl
    · rfl
  | succ d ih =>
    intro n i x b p h1 h2 h3
    obtain ⟨n, rfl⟩ : ∃ m, n = m + 1 := ⟨n - 1, by omega⟩
    have hx := z_one x (by omega) (by omega)
    rw [mM_latest_L31, q2, q5, if_neg (by (try simp only [z_in0, z_isPlaceM, z_isPlaceN, z_isLetterN, z_isTenthN, z_isTapeN, z_isTapeM]); (try simp only [Int32.lt_iff_toInt_lt, Int32.le_iff_toInt_le, ← Int32.toInt_inj, Int32.reduceToInt, Int64.reduceToInt]); omega)]
    cases b
    · simp only [z_tfF, if_true]
      exact ⟨p, rfl⟩
    · obtain ⟨p1, e1⟩ := q_join R hV hs (t := x) (by omega) R.1.2.2.1.2.1 hl p
      simp only [z_tfT, if_false, e1, Option.bind_some, q4]
      obtain ⟨p2, e3⟩ := ih n (i + 1) (x + 1) (xJ v a s x (M_jaw v) l) p1 (by omega) (by omega) (by omega)
      refine ⟨p2, e3.trans ?_⟩
      conv => rhs; unfold zall
      simp only [z_ofI h3, Bool.true_and]
theorem l_ltM {u : SV} {v : SM} (R : Rel u v) {a s : Int32} (hV : zV u v a) (hs : 0 ≤ s.toInt ∧ s.toInt ≤ 7) (d : Nat) : ∀ (n : Nat) (x : Int32) (p : Nat → Int32), d ≤ 21 → d < n → x.toInt = d - 1 → ∃ p', mM_latest_L21 a s n x (M_put_pile p v) = some (zcd (zdown (fun m => zall (fun k => xJ v a s (Int32.ofNat k) (M_jaw v) (Int32.ofNat m)) (2 * (M_letters v).toInt).toNat 0) d), p') := by
  have hll := R.1.2.2.1.2.2.2.1
  unfold zrg at hll
  induction d with
  | zero =>
    intro n x p h0 h1 h2
    obtain ⟨n, rfl⟩ : ∃ m, n = m + 1 := ⟨n - 1, by omega⟩
    rw [mM_latest_L21, if_pos (by (try simp only [z_in0, z_isPlaceM, z_isPlaceN, z_isLetterN, z_isTenthN, z_isTapeN, z_isTapeM]); (try simp only [Int32.lt_iff_toInt_lt, Int32.le_iff_toInt_le, ← Int32.toInt_inj, Int32.reduceToInt, Int64.reduceToInt]); omega)]
    exact ⟨_, rfl⟩
  | succ d ih =>
    intro n x p h0 h1 h2
    obtain ⟨n, rfl⟩ : ∃ m, n = m + 1 := ⟨n - 1, by omega⟩
    have h3 : x.toInt = (d : Int) := by omega
    rw [mM_latest_L21, if_neg (by (try simp only [z_in0, z_isPlaceM, z_isPlaceN, z_isLetterN, z_isTenthN, z_isTapeN, z_isTapeM]); (try simp only [Int32.lt_iff_toInt_lt, Int32.le_iff_toInt_le, ← Int32.toInt_inj, Int32.reduceToInt, Int64.reduceToInt]); omega)]
    obtain ⟨p1, e1⟩ := l_lt9 R (l := x) hV hs (by omega) (mM_latest_L21 a s n) (2 * (M_letters v).toInt).toNat 256 0 0 true p (by omega) (by omega) rfl
    have e1' := e1
    rw [show ztf true = 1 from rfl] at e1'
    rw [e1', Bool.true_and]
    unfold zdown
    simp only [z_ofI h3]
    split
    · exact ⟨p1, by show _ = some (Int32.ofNat d, p1); rw [z_ofI h3]⟩
    · obtain ⟨y, hy, hy2⟩ := z_dec (x := x) (by omega)
      rw [← hy]
      exact ih n y p1 (by omega) (by omega) (by omega)
theorem l_thr {u : SV} {v : SM} (R : Rel u v) {a l T : Int32} (hV : zV u v a) (hl : 0 ≤ l.toInt ∧ l.toInt ≤ 20) (hT : T.toInt ≤ 40) (d : Nat) : ∀ (n i : Nat) (x : Int32), (i : Int) + d = T.toInt → d < n → x.toInt = i → mV_isMovingThroughout_L3 (mO_movingOf (mN_later (M_moves v) l) (V_vo u a.toInt.toNat)) T u n x = some (ztf (zall (fun k => decide (0 < xN v a (Int32.ofNat k) l)) d i)) := by
  induction d with
  | zero =>
    intro n i x h1 h2 h3
    obtain ⟨n, rfl⟩ : ∃ m, n = m + 1 := ⟨n - 1, by omega⟩
    rw [mV_isMovingThroughout_L3, if_pos (by (try simp only [z_in0, z_isPlaceM, z_isPlaceN, z_isLetterN, z_isTenthN, z_isTapeN, z_isTapeM]); (try simp only [Int32.lt_iff_toInt_lt, Int32.le_iff_toInt_le, ← Int32.toInt_inj, Int32.reduceToInt, Int64.reduceToInt]); omega)]
    rfl
  | succ d ih =>
    intro n i x h1 h2 h3
    obtain ⟨n, rfl⟩ : ∃ m, n = m + 1 := ⟨n - 1, by omega⟩
    have hx := z_one x (by omega) (by omega)
    have hq : mV_isMoving (mO_movingOf (mN_later (M_moves v) l) (V_vo u a.toInt.toNat)) x u = some (ztf (decide (0 < xN v a x l))) := by
      rw [hV.2.2.1]
      have hb := q_isMoving R (t := x) (by omega) (m := M_moves v) (b := l.toInt + (if M_kind v a.toInt.toNat = 6 then (M_v v a.toInt.toNat).toInt else 0)) (fun k hk => zb_moving (m' := mN_later (M_moves v) l) (m := M_moves v) (n := l.toInt) (o := a) (kd := M_kind v a.toInt.toNat) (w := M_v v a.toInt.toNat) (by omega) (fun k hk => zb_later hl.1 (by omega) (M_moves v) hk) hV.2.2.2.2 hk)
      rw [hb]
      rfl
    rw [mV_isMovingThroughout_L3, if_neg (by (try simp only [z_in0, z_isPlaceM, z_isPlaceN, z_isLetterN, z_isTenthN, z_isTapeN, z_isTapeM]); (try simp only [Int32.lt_iff_toInt_lt, Int32.le_iff_toInt_le, ← Int32.toInt_inj, Int32.reduceToInt, Int64.reduceToInt]); omega), hq, Option.bind_some]
    unfold zall
    simp only [z_ofI h3]
    cases decide (0 < xN v a x l)
    · simp only [z_tfF, if_true]
      rfl
    · simp only [z_tfT, if_false, Bool.true_and]
      exact ih n (i + 1) (x + 1) (by omega) (by omega) (by omega)
theorem l_ltV2 {u : SV} {v : SM} (R : Rel u v) {a T : Int32} (hV : zV u v a) (hT : 0 ≤ T.toInt ∧ T.toInt ≤ 40) (d : Nat) : ∀ (n : Nat) (x : Int32), d ≤ 21 → d < n → x.toInt = d - 1 → ∃ K, mV_latest_L66 a.toInt.toNat T n x u = some (zcd (zdown (fun m => zall (fun k => decide (0 < xN v a (Int32.ofNat k) (Int32.ofNat m))) T.toInt.toNat 0) d), K) := by
  have h3s := R.1.1.2.2.1
  induction d with
  | zero =>
    intro n x h0 h1 h2
    obtain ⟨n, rfl⟩ : ∃ m, n = m + 1 := ⟨n - 1, by omega⟩
    rw [mV_latest_L66, if_pos (by (try simp only [z_in0, z_isPlaceM, z_isPlaceN, z_isLetterN, z_isTenthN, z_isTapeN, z_isTapeM]); (try simp only [Int32.lt_iff_toInt_lt, Int32.le_iff_toInt_le, ← Int32.toInt_inj, Int32.reduceToInt, Int64.reduceToInt]); omega)]
    exact ⟨_, rfl⟩
  | succ d ih =>
    intro n x h0 h1 h2
    obtain ⟨n, rfl⟩ : ∃ m, n = m + 1 := ⟨n - 1, by omega⟩
    have h3 : x.toInt = (d : Int) := by omega
    rw [mV_latest_L66, if_neg (by (try simp only [z_in0, z_isPlaceM, z_isPlaceN, z_isLetterN, z_isTenthN, z_isTapeN, z_isTapeM]); (try simp only [Int32.lt_iff_toInt_lt, Int32.le_iff_toInt_le, ← Int32.toInt_inj, Int32.reduceToInt, Int64.reduceToInt]); omega), zgk_ok _ hV.2.1, h3s]
    unfold mV_isMovingThroughout
    rw [l_thr R hV (l := x) (by omega) hT.2 T.toInt.toNat 256 0 0 (by omega) (by omega) rfl, Option.bind_some]
    unfold zdown
    simp only [z_ofI h3]
    cases zall (fun k => decide (0 < xN v a (Int32.ofNat k) x)) T.toInt.toNat 0
    · simp only [z_tfF, if_true, Bool.false_eq_true, if_false]
      obtain ⟨y, hy, hy2⟩ := z_dec (x := x) (by omega)
      rw [← hy]
      exact ih n y (by omega) (by omega) (by omega)
    · simp only [z_tfT, if_false, if_true]
      exact ⟨_, by show _ = some (Int32.ofNat d, _); rw [z_ofI h3]⟩
theorem l_ltV {u : SV} {v : SM} (R : Rel u v) {a s T : Int32} (hV : zV u v a) (hs : 0 ≤ s.toInt ∧ s.toInt ≤ 7) (hT : 0 ≤ T.toInt ∧ T.toInt ≤ 40) (d : Nat) : ∀ (n i : Nat) (x : Int32) (K : SK), (i : Int) + d = T.toInt → d < n → x.toInt = i → ∃ K', mV_latest_L32 a.toInt.toNat s T n x (V_put_look K u) = some (if zall (fun k => xM v a s (Int32.ofNat k) (M_jaw v)) d i = true then zcd (zdown (fun m => zall (fun k => decide (0 < xN v a (Int32.ofNat k) (Int32.ofNat m))) T.toInt.toNat 0) 21) else -5, K') := by
  have q3 : ∀ K K' : SK, V_put_look K (V_put_look K' u) = V_put_look K u := fun _ _ => rfl
  induction d with
  | zero =>
    intro n i x K h1 h2 h3
    obtain ⟨n, rfl⟩ : ∃ m, n = m + 1 := ⟨n - 1, by omega⟩
    obtain ⟨K1, e1⟩ := l_ltV2 (u := V_put_look K u) (v := v) R (a := a) hV hT 21 256 20 (by omega) (by omega) rfl
    rw [mV_latest_L32, if_pos (by (try simp only [z_in0, z_isPlaceM, z_isPlaceN, z_isLetterN, z_isTenthN, z_isTapeN, z_isTapeM]); (try simp only [Int32.lt_iff_toInt_lt, Int32.le_iff_toInt_le, ← Int32.toInt_inj, Int32.reduceToInt, Int64.reduceToInt]); omega), e1]
    exact ⟨K1, rfl⟩
  | succ d ih =>
    intro n i x K h1 h2 h3
    obtain ⟨n, rfl⟩ : ∃ m, n = m + 1 := ⟨n - 1, by omega⟩
    have hx := z_one x (by omega) (by omega)
    obtain ⟨K1, e1, k1, k2, k3, k4, k5, k6, k7⟩ := c_look (u := V_put_look K u) (v := v) R (a := a) (s := s) (t := x) hV hs (by omega)
    rw [mV_latest_L32, if_neg (by (try simp only [z_in0, z_isPlaceM, z_isPlaceN, z_isLetterN, z_isTenthN, z_isTapeN, z_isTapeM]); (try simp only [Int32.lt_iff_toInt_lt, Int32.le_iff_toInt_le, ← Int32.toInt_inj, Int32.reduceToInt, Int64.reduceToInt]); omega), e1, Option.bind_some, k4, q3]
    rw [show zall (fun k => xM v a s (Int32.ofNat k) (M_jaw v)) (d + 1) i = (xM v a s (Int32.ofNat i) (M_jaw v) && zall (fun k => xM v a s (Int32.ofNat k) (M_jaw v)) d (i + 1)) from rfl, z_ofI h3]
    cases xM v a s x (M_jaw v)
    · simp only [z_tfF, if_true, Bool.false_and, Bool.false_eq_true, if_false]
      exact ⟨_, rfl⟩
    · simp only [z_tfT, if_false, Bool.true_and]
      exact ih n (i + 1) (x + 1) K1 (by omega) (by omega) (by omega)
theorem pS_latest : zS_latest Rel := by
  intro x1 x2 u v R
  have hRR : ∀ w1 w2, Rel (V_put_look w1 u) (M_put_pile w2 v) := fun _ _ => R
  have hl := R.1.2.2.1.2.2.2.1
  have h4 := R.1.1.2.2.2.1
  have e2 := z_two hl
  unfold zrg at hl
  unfold mV_latest mM_latest mS_tenthsSaidIn
  rw [h4]
  rcases z_vo R x1 with ⟨a, b⟩ | ⟨a, b, hV⟩
  · rw [a, if_pos b]
    exact ⟨_, _, _, rfl, rfl, R⟩
  · rw [a, if_neg b, Option.bind_some]
    simp only [zcs]
    rcases z_st R x2 with ⟨c, d⟩ | ⟨c, d, hs⟩
    · rw [if_pos c, if_pos d]
      exact ⟨_, _, _, rfl, rfl, R⟩
    · rw [if_neg c, if_neg d]
      obtain ⟨K', f1⟩ := l_ltV R hV hs (T := 2 * M_letters v) (by omega) (2 * (M_letters v).toInt).toNat 256 0 0 (V_look u) (by omega) (by omega) rfl
      obtain ⟨p', f2⟩ := l_ltM R hV hs 21 256 20 (M_pile v) (by omega) (by omega) rfl
      have f1' : mV_latest_L32 x1.toInt.toNat x2 (2 * M_letters v) 256 0 u = _ := f1
      have f2' : mM_latest_L21 x1 x2 256 20 v = _ := f2
      rw [f1', f2', e2]
      refine ⟨_, K', p', rfl, ?_, hRR _ _⟩
      refine congrArg some (Prod.ext ?_ rfl)
      show zcd _ = if _ then _ else (-5 : Int32)
      have hand : ∀ m : Int32, zall (fun k => xJ v x1 x2 (Int32.ofNat k) (M_jaw v) m) (2 * (M_letters v).toInt).toNat 0 = (zall (fun k => xM v x1 x2 (Int32.ofNat k) (M_jaw v)) (2 * (M_letters v).toInt).toNat 0 && zall (fun k => decide (0 < xN v x1 (Int32.ofNat k) m)) (2 * (M_letters v).toInt).toNat 0) := fun m => zall_and (fun k => xM v x1 x2 (Int32.ofNat k) (M_jaw v)) (fun k => decide (0 < xN v x1 (Int32.ofNat k) m)) _ _
      by_cases h : zall (fun k => xM v x1 x2 (Int32.ofNat k) (M_jaw v)) (2 * (M_letters v).toInt).toNat 0 = true
      · rw [if_pos h]
        exact congrArg zcd (zdown_cg (fun k _ => by rw [hand, h, Bool.true_and]))
      · rw [if_neg h, zdown_none (fun k _ => by rw [hand, Bool.eq_false_iff.mpr h, Bool.false_and])]
        rfl
/-- at that far a jaw -/
def xRd (v : SM) (a s t : Int32) (d : Nat) : Bool := xR v a s t (M_mouth v + Int32.ofNat d)
theorem z_pl {v : SM} (hm : zrg 0 40 (M_mouth v)) {d : Nat} (h : (M_mouth v).toInt + d ≤ 40) : (M_mouth v + Int32.ofNat d).toInt = (M_mouth v).toInt + d := by
  unfold zrg at hm
  have e : (Int32.ofNat d).toInt = d := Int32.toInt_ofNat_of_lt (by omega)
  rw [z_addI (by rw [e]; omega) (by rw [e]; omega), e]
theorem l_drV {u : SV} {v : SM} (R : Rel u v) {a s t : Int32} (hV : zV u v a) (hs : 0 ≤ s.toInt ∧ s.toInt ≤ 7) (ht : 0 ≤ t.toInt ∧ t.toInt ≤ 39) {w : Int32} (hw : w.toInt = (xE v a s t).toInt + (xU v 1 a s t).toInt) (d : Nat) : ∀ (n : Nat) (x : Int32), (M_mouth v).toInt + d ≤ 41 → d < n → x.toInt = (M_mouth v).toInt + d - 1 → ∃ K, mV_drawn_L79 a.toInt.toNat w n x u = some (zcd (zdown (xRd v a s t) d), K) := by
  have hm := R.1.2.2.1.1
  have h1s := R.1.1.1
  have hm' := hm
  unfold zrg at hm'
  induction d with
  | zero =>
    intro n x h0 h1 h2
    obtain ⟨n, rfl⟩ : ∃ m, n = m + 1 := ⟨n - 1, by omega⟩
    rw [mV_drawn_L79, h1s, if_pos (by (try simp only [z_in0, z_isPlaceM, z_isPlaceN, z_isLetterN, z_isTenthN, z_isTapeN, z_isTapeM]); (try simp only [Int32.lt_iff_toInt_lt, Int32.le_iff_toInt_le, ← Int32.toInt_inj, Int32.reduceToInt, Int64.reduceToInt]); omega)]
    exact ⟨_, rfl⟩
  | succ d ih =>
    intro n x h0 h1 h2
    obtain ⟨n, rfl⟩ : ∃ m, n = m + 1 := ⟨n - 1, by omega⟩
    have hp := z_pl hm (d := d) (by omega)
    have hx : M_mouth v + Int32.ofNat d = x := Int32.toInt_inj.mp (by omega)
    have hj : zrg 0 40 x := ⟨by omega, by omega⟩
    have hS := xS_rg hV hm hj
    rw [mV_drawn_L79, h1s, if_neg (by (try simp only [z_in0, z_isPlaceM, z_isPlaceN, z_isLetterN, z_isTenthN, z_isTapeN, z_isTapeM]); (try simp only [Int32.lt_iff_toInt_lt, Int32.le_iff_toInt_le, ← Int32.toInt_inj, Int32.reduceToInt, Int64.reduceToInt]); omega), zgk_ok _ hV.2.1, hV.2.2.1, c_sounds hV hm hj, Option.bind_some, q_abs (by omega) hS.1]
    unfold zdown xRd xR
    rw [hx]
    simp only [Int32.lt_iff_toInt_lt, hw]
    by_cases c : (xE v a s t).toInt + (xU v 1 a s t).toInt < (mM_apart x (xS v a x)).toInt
    · rw [if_pos c, decide_eq_false (by omega)]
      obtain ⟨y, hy, hy2⟩ := z_dec (x := x) (by omega)
      rw [← hy]
      exact ih n y (by omega) (by omega) (by omega)
    · rw [if_neg c, decide_eq_true (by omega)]
      refine ⟨V_look u, ?_⟩
      simp only [if_true]
      have : x - M_mouth v = Int32.ofNat d := by
        apply Int32.toInt_inj.mp
        rw [z_subI (by omega) (by omega), Int32.toInt_ofNat_of_lt (by omega)]
        omega
      rw [this]
      rfl
theorem l_drM {u : SV} {v : SM} (R : Rel u v) {a s t : Int32} (hV : zV u v a) (hs : 0 ≤ s.toInt ∧ s.toInt ≤ 7) (ht : 0 ≤ t.toInt ∧ t.toInt ≤ 39) (d : Nat) : ∀ (n i : Nat) (b x : Int32) (p : Nat → Int32), (M_mouth v).toInt + i + d = 41 → d < n → x.toInt = i → b = zcd (zdown (fun k => xJ v a s t (M_mouth v + Int32.ofNat k) 0) i) → ∃ p', mM_drawn_L36 a s t n b x (M_put_pile p v) = some (zcd (zdown (fun k => xJ v a s t (M_mouth v + Int32.ofNat k) 0) (i + d)), p') := by
  have hm := R.1.2.2.1.1
  have q1 : ∀ p : Nat → Int32, M_mouth (M_put_pile p v) = M_mouth v := fun _ => rfl
  have q4 : ∀ p p' : Nat → Int32, M_put_pile p (M_put_pile p' v) = M_put_pile p v := fun _ _ => rfl
  have hm' := hm
  unfold zrg at hm'
  induction d with
  | zero =>
    intro n i b x p h1 h2 h3 h4
    obtain ⟨n, rfl⟩ : ∃ m, n = m + 1 := ⟨n - 1, by omega⟩
    have e := z_addI (x := M_mouth v) (y := x) (by omega) (by omega)
    rw [mM_drawn_L36, q1, if_pos (by (try simp only [z_in0, z_isPlaceM, z_isPlaceN, z_isLetterN, z_isTenthN, z_isTapeN, z_isTapeM]); (try simp only [Int32.lt_iff_toInt_lt, Int32.le_iff_toInt_le, ← Int32.toInt_inj, Int32.reduceToInt, Int64.reduceToInt]); omega), h4]
    exact ⟨_, rfl⟩
  | succ d ih =>
    intro n i b x p h1 h2 h3 h4
    obtain ⟨n, rfl⟩ : ∃ m, n = m + 1 := ⟨n - 1, by omega⟩
    have hx := z_one x (by omega) (by omega)
    have e := z_addI (x := M_mouth v) (y := x) (by omega) (by omega)
    obtain ⟨p1, e1⟩ := q_join R hV hs ht (j := M_mouth v + x) (l := 0) ⟨by omega, by omega⟩ (by decide) p
    rw [mM_drawn_L36, q1, if_neg (by (try simp only [z_in0, z_isPlaceM, z_isPlaceN, z_isLetterN, z_isTenthN, z_isTapeN, z_isTapeM]); (try simp only [Int32.lt_iff_toInt_lt, Int32.le_iff_toInt_le, ← Int32.toInt_inj, Int32.reduceToInt, Int64.reduceToInt]); omega), e1, Option.bind_some, q4]
    have hs1 : zdown (fun k => xJ v a s t (M_mouth v + Int32.ofNat k) 0) (i + 1) = if xJ v a s t (M_mouth v + Int32.ofNat i) 0 = true then some i else zdown (fun k => xJ v a s t (M_mouth v + Int32.ofNat k) 0) i := rfl
    rw [z_ofI h3] at hs1
    rw [show i + (d + 1) = i + 1 + d by omega]
    cases hc : xJ v a s t (M_mouth v + x) 0
    · simp only [z_tfF, if_true]
      exact ih n (i + 1) b (x + 1) p1 (by omega) (by omega) (by omega) (by rw [hs1, hc, h4]; rfl)
    · simp only [z_tfT, if_false]
      exact ih n (i + 1) x (x + 1) p1 (by omega) (by omega) (by omega) (by rw [hs1, hc]; show x = Int32.ofNat i; rw [z_ofI h3])
theorem pS_drawn : zS_drawn Rel := by
  intro x1 x2 x3 u v R
  have hRR : ∀ w1 w2, Rel (V_put_look w1 u) (M_put_pile w2 v) := fun _ _ => R
  have hm := R.1.2.2.1.1
  have h3s := R.1.1.2.2.1
  unfold zrg at hm
  unfold mV_drawn mM_drawn
  rcases z_vo R x1 with ⟨a, b⟩ | ⟨a, b, hV⟩
  · rw [a, if_pos b]
    exact ⟨_, _, _, rfl, rfl, R⟩
  · rw [a, if_neg b, Option.bind_some]
    simp only [zcs]
    rcases z_st R x2 with ⟨c, d⟩ | ⟨c, d, hs⟩
    · rw [if_pos c, if_pos d]
      exact ⟨_, _, _, rfl, rfl, R⟩
    · rw [if_neg c, if_neg d]
      simp only [z_isTenthN, z_in0, Int32.reduceToInt]
      by_cases e : x3.toInt < 0 ∨ 39 < x3.toInt
      · rw [if_pos e, if_pos e]
        exact ⟨_, _, _, rfl, rfl, R⟩
      · have ht : 0 ≤ x3.toInt ∧ x3.toInt ≤ 39 := by omega
        rw [if_neg e, if_neg e]
        obtain ⟨p', f2⟩ := l_drM R hV hs ht (41 - (M_mouth v).toInt).toNat 256 0 (-5) 0 (M_pile v) (by omega) (by omega) rfl rfl
        have f2' : mM_drawn_L36 x1 x2 x3 256 (-5) 0 v = _ := f2
        rw [f2', Nat.zero_add, c_canJoin R hV ht, Option.bind_some]
        have hq : mV_isMoving (mO_movingOf (S_moving (V_stage u)) (V_vo u x1.toInt.toNat)) x3 u = some (ztf (decide (0 < xN v x1 x3 0))) := by
          rw [h3s, hV.2.2.1]
          have hb := q_isMoving R ht (m := M_moves v) (b := 0 + (if M_kind v x1.toInt.toNat = 6 then (M_v v x1.toInt.toNat).toInt else 0)) (fun k hk => zb_moving (m' := M_moves v) (m := M_moves v) (n := 0) (o := x1) (kd := M_kind v x1.toInt.toNat) (w := M_v v x1.toInt.toNat) (by omega) (fun k hk => by rw [decide_eq_true (by omega)]; simp) hV.2.2.2.2 hk)
          rw [hb]
          unfold xN xby
          rfl
        rw [zgk_ok _ hV.2.1, hq, Option.bind_some]
        have none : (xA v x1 x3 = false ∨ decide (0 < xN v x1 x3 0) = false) → zdown (fun k => xJ v x1 x2 x3 (M_mouth v + Int32.ofNat k) 0) (41 - (M_mouth v).toInt).toNat = none := by
          intro h
          refine zdown_none (fun k _ => ?_)
          unfold xJ xM
          rcases h with h | h
          · rw [h]; simp
          · rw [h]; simp
        cases hA : xA v x1 x3
        · simp only [z_tfF, if_true]
          rw [none (Or.inl hA)]
          exact ⟨_, _, _, rfl, rfl, hRR _ _⟩
        · simp only [z_tfT, if_false]
          cases hN : decide (0 < xN v x1 x3 0)
          · simp only [z_tfF, if_true]
            rw [none (Or.inr hN)]
            exact ⟨_, _, _, rfl, rfl, hRR _ _⟩
          · simp only [z_tfT, if_false]
            obtain ⟨K, e1, k1, k2, k3, k4, k5, k6, k7⟩ := c_look R hV hs ht
            have hE := xE_rg R hV hs ht
            obtain ⟨_, hU, _⟩ := q_unsure R (w := 1) (Or.inr rfl) hV.1 hs ht
            unfold zrg at hE hU
            have hw : (mK_reach K).toInt = (xE v x1 x2 x3).toInt + (xU v 1 x1 x2 x3).toInt := by
              unfold mK_reach
              rw [k1, k2, z_addI (by omega) (by omega)]
            obtain ⟨K2, g1⟩ := l_drV (u := V_put_look K u) (v := v) R (a := x1) (s := x2) (t := x3) hV hs ht hw (41 - (M_mouth v).toInt).toNat 256 40 (by omega) (by omega) (by show (40 : Int) = _; omega)
            rw [e1, Option.bind_some, g1]
            refine ⟨_, K2, p', rfl, ?_, hRR _ _⟩
            refine congrArg some (Prod.ext (congrArg zcd (zdown_cg (fun k _ => ?_))) rfl)
            show xJ v x1 x2 x3 (M_mouth v + Int32.ofNat k) 0 = xRd v x1 x2 x3 k
            unfold xJ xM xRd
            rw [hA, hN]
            simp
