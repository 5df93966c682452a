/-! 09.P14: what a SEAT holds, in both -/
def xA (v : SM) (a t : Int32) : Bool := decide (t.toInt < 2 * (M_letters v).toInt) && !decide (M_kind v a.toInt.toNat = 4 ∧ 0 < (M_v v a.toInt.toNat).toInt ∧ t.toInt % (M_v v a.toInt.toNat).toInt = 0)
def xR (v : SM) (a s t j : Int32) : Bool := decide ((mM_apart j (xS v a j)).toInt ≤ (xE v a s t).toInt + (xU v 1 a s t).toInt)
def xM (v : SM) (a s t j : Int32) : Bool := xA v a t && xR v a s t j
def xJ (v : SM) (a s t j l : Int32) : Bool := xM v a s t j && decide (0 < xN v a t l)
def xH (v : SM) (a s t : Int32) : Int32 := if xJ v a s t (M_jaw v) 0 = true then (xS v a (M_jaw v) * xU v 1 a s t + M_jaw v * xE v a s t) / (xE v a s t + xU v 1 a s t) else xS v a (M_jaw v)
def xC (v : SM) (a s t : Int32) : Bool := decide ((mM_apart (xH v a s t) (M_jaw v)).toInt < (mM_apart (xH v a s t) (M_mouth v)).toInt)
theorem zgb_tf {α : Type} (b : Bool) (o : Option α) : zgb (ztf b) o = o := by cases b <;> rfl
theorem xS_rg {u : SV} {v : SM} {a j : Int32} (hV : zV u v a) (hm : zrg 0 40 (M_mouth v)) (hj : zrg 0 40 j) : zrg 0 40 (xS v a j) := by
  unfold zrg
  rw [xS_I hV hm hj]
  exact sI_rg hV.2.2.2.2 hm hj
theorem pl_last (p : Nat → Int32) (w o : Int32) (v : SM) : ∀ (n : Nat) (d x : Int32), mM_last_L9 w o (M_put_pile p v) n d x = mM_last_L9 w o v n d x := by
  intro n
  induction n with
  | zero => intro d x; rw [mM_last_L9, mM_last_L9]
  | succ n ih =>
    intro d x
    rw [mM_last_L9, mM_last_L9]
    simp only [ih]
    rfl
theorem pl_lastF (p : Nat → Int32) (w o d : Int32) (v : SM) : mM_last w o d (M_put_pile p v) = mM_last w o d v := by
  unfold mM_last
  exact pl_last p w o v 256 d (mM_first v)
theorem pl_lateNow (p : Nat → Int32) (v : SM) : mM_lateNow (M_put_pile p v) = mM_lateNow v := by
  unfold mM_lateNow
  rw [pl_lastF]
theorem pl_hears (p : Nat → Int32) (a b : Int32) (v : SM) : mM_hears a b (M_put_pile p v) = mM_hears a b v := by
  unfold mM_hears
  rw [pl_lastF]
theorem pl_moves (p : Nat → Int32) (t L b : Int32) (v : SM) : ∀ (n : Nat) (d x : Int32), mM_movesBy_L37 t L b (M_put_pile p v) n d x = mM_movesBy_L37 t L b v n d x := by
  intro n
  induction n with
  | zero => intro d x; rw [mM_movesBy_L37, mM_movesBy_L37]
  | succ n ih =>
    intro d x
    rw [mM_movesBy_L37, mM_movesBy_L37]
    simp only [ih]
    rfl
theorem pl_movesBy (p : Nat → Int32) (a t l : Int32) (v : SM) : mM_movesBy a t l (M_put_pile p v) = mM_movesBy a t l v := by
  have e1 : M_kind (M_put_pile p v) = M_kind v := rfl
  have e2 : M_v (M_put_pile p v) = M_v v := rfl
  unfold mM_movesBy
  rw [pl_lateNow, e1, e2]
  simp only [pl_moves]
theorem q_may {u : SV} {v : SM} (R : Rel u v) {a s t j : Int32} (hV : zV u v a) (hs : 0 ≤ s.toInt ∧ s.toInt ≤ 7) (ht : 0 ≤ t.toInt ∧ t.toInt ≤ 39) (hj : zrg 0 40 j) (p : Nat → Int32) : ∃ p', mM_mayJoin a s t j (M_put_pile p v) = some (ztf (xM v a s t j), p') := by
  have hm := R.1.2.2.1.1
  have hl := R.1.2.2.1.2.2.2.1
  have p1 : ∀ p : Nat → Int32, M_kind (M_put_pile p v) = M_kind v := fun _ => rfl
  have p2 : ∀ p : Nat → Int32, M_v (M_put_pile p v) = M_v v := fun _ => rfl
  have p3 : ∀ p q : Nat → Int32, M_put_pile q (M_put_pile p v) = M_put_pile q v := fun _ _ => rfl
  have hJ : ∀ p : Nat → Int32, ∃ p', mM_mayJoin_J40 a s t j (M_put_pile p v) = some (ztf (xR v a s t j), p') := by
    intro p
    obtain ⟨p', e1⟩ := q_ear R hV hs ht p
    obtain ⟨h1, h2, _⟩ := q_unsure R (w := 1) (Or.inr rfl) hV.1 hs ht
    obtain ⟨p'', e2⟩ := h1 p'
    have e3 : mM_soundsOf a j (M_put_pile p v) = some (xS v a j) := q_sounds hV hm hj
    have hE := xE_rg R hV hs ht
    unfold zrg at h2 hE
    have e4 := z_addI (x := xE v a s t) (y := xU v 1 a s t) (by omega) (by omega)
    unfold mM_mayJoin_J40
    rw [e3, Option.bind_some, e1, Option.bind_some]
    simp only [p3]
    rw [e2, Option.bind_some]
    refine ⟨p'', ?_⟩
    unfold xR
    simp only [Int32.lt_iff_toInt_lt, e4]
    by_cases c : (xE v a s t).toInt + (xU v 1 a s t).toInt < (mM_apart j (xS v a j)).toInt
    · rw [if_pos c, decide_eq_false (by omega)]; rfl
    · rw [if_neg c, decide_eq_true (by omega)]; rfl
  obtain ⟨ha, _, _, hk, hv⟩ := hV
  have hs1 : mM_isSaid t (M_put_pile p v) = mM_isSaid t v := rfl
  obtain ⟨p', hp⟩ := hJ p
  unfold mM_mayJoin
  rw [hs1, p1, p2]
  simp only [z_said hl, zgi_ok (n := 10) _ ha.1 (by omega), z_nat, hp]
  unfold xM xA
  unfold zrg at hv
  by_cases c1 : 2 * (M_letters v).toInt ≤ t.toInt
  · rw [if_pos c1, decide_eq_false (by omega)]
    exact ⟨_, rfl⟩
  · rw [if_neg c1, decide_eq_true (by omega)]
    by_cases c2 : M_kind v a.toInt.toNat = 4
    · rw [if_pos c2]
      by_cases c3 : M_v v a.toInt.toNat ≤ 0
      · have c3' : (M_v v a.toInt.toNat).toInt ≤ 0 := Int32.le_iff_toInt_le.mp c3
        rw [if_pos c3, decide_eq_false (by omega)]
        simp only [Bool.true_and, Bool.not_false]
        exact ⟨p', rfl⟩
      · have c3' : 0 < (M_v v a.toInt.toNat).toInt := Int.not_le.mp (fun h => c3 (Int32.le_iff_toInt_le.mpr h))
        have hr := z_rem (x := t) (y := M_v v a.toInt.toNat) ht.1 c3'
        have hz : ∀ {α : Type} (o : Option α), zgz (M_v v a.toInt.toNat) o = o := by
          intro α o
          exact if_neg (fun h => by rw [h] at c3'; exact absurd c3' (by decide))
        rw [if_neg c3, hz]
        by_cases c4 : t - t / M_v v a.toInt.toNat * M_v v a.toInt.toNat = 0
        · rw [if_pos c4]
          rw [c4] at hr
          rw [decide_eq_true ⟨c2, c3', hr.symm⟩]
          exact ⟨_, rfl⟩
        · rw [if_neg c4, decide_eq_false]
          · simp only [Bool.true_and, Bool.not_false]
            exact ⟨p', rfl⟩
          · rintro ⟨_, _, h⟩
            exact c4 (Int32.toInt_inj.mp (by rw [hr, h]; rfl))
    · rw [if_neg c2, decide_eq_false (fun h => c2 h.1)]
      simp only [Bool.true_and, Bool.not_false]
      exact ⟨p', rfl⟩
theorem q_join {u : SV} {v : SM} (R : Rel u v) {a s t j l : Int32} (hV : zV u v a) (hs : 0 ≤ s.toInt ∧ s.toInt ≤ 7) (ht : 0 ≤ t.toInt ∧ t.toInt ≤ 39) (hj : zrg 0 40 j) (hl : 0 ≤ l.toInt ∧ l.toInt ≤ 20) (p : Nat → Int32) : ∃ p', mM_joined a s t j l (M_put_pile p v) = some (ztf (xJ v a s t j l), p') := by
  obtain ⟨p', h1⟩ := q_may R hV hs ht hj p
  obtain ⟨r, h2, h3⟩ := q_moves R hV ht hl
  have h4 : ∀ p, mM_movesBy a t l (M_put_pile p v) = mM_movesBy a t l v := fun p => pl_movesBy p a t l v
  have h5 : ∀ q : Nat → Int32, M_put_pile q (M_put_pile p v) = M_put_pile q v := fun _ => rfl
  unfold mM_joined
  rw [h1, Option.bind_some]
  simp only [h5, h4, h2, Option.bind_some]
  unfold xJ
  refine ⟨p', ?_⟩
  cases xM v a s t j
  · rfl
  · rw [if_neg (show ¬ ztf true = 0 by decide)]
    simp only [Bool.true_and, Int32.le_iff_toInt_le, Int32.reduceToInt, h3]
    by_cases c : 0 < xN v a t l
    · rw [if_neg (by omega), decide_eq_true c]; rfl
    · rw [if_pos (by omega), decide_eq_false c]; rfl
theorem q_held {u : SV} {v : SM} (R : Rel u v) {a s t : Int32} (hV : zV u v a) (hs : 0 ≤ s.toInt ∧ s.toInt ≤ 7) (ht : 0 ≤ t.toInt ∧ t.toInt ≤ 39) (p : Nat → Int32) : ∃ p', mM_heldOf a s t (M_put_pile p v) = some (xH v a s t, p') := by
  have hm := R.1.2.2.1.1
  have hj := R.1.2.2.1.2.1
  obtain ⟨p1, h1⟩ := q_join R (l := 0) hV hs ht hj (by decide) p
  obtain ⟨p2, h2⟩ := q_ear R hV hs ht p1
  obtain ⟨h3, h4, _⟩ := q_unsure R (w := 1) (Or.inr rfl) hV.1 hs ht
  obtain ⟨p3, h5⟩ := h3 p2
  have e3 : mM_soundsOf a (M_jaw v) (M_put_pile p v) = some (xS v a (M_jaw v)) := q_sounds hV hm hj
  have e0 : M_jaw (M_put_pile p v) = M_jaw v := rfl
  have h6 : ∀ q r : Nat → Int32, M_put_pile q (M_put_pile r v) = M_put_pile q v := fun _ _ => rfl
  have hE := xE_rg R hV hs ht
  unfold zrg at h4 hE
  have e4 := z_addI (x := xE v a s t) (y := xU v 1 a s t) (by omega) (by omega)
  have hz : ∀ {α : Type} (o : Option α), zgz (xE v a s t + xU v 1 a s t) o = o := by
    intro α o
    exact if_neg (fun h => by rw [h] at e4; have : (0 : Int) = (xE v a s t).toInt + (xU v 1 a s t).toInt := e4; omega)
  unfold mM_heldOf
  rw [e0, e3, Option.bind_some, h1, Option.bind_some]
  simp only [h6, h2, h5, Option.bind_some, hz]
  unfold xH
  cases xJ v a s t (M_jaw v) 0
  · exact ⟨_, rfl⟩
  · exact ⟨_, rfl⟩
theorem xH_rg {u : SV} {v : SM} (R : Rel u v) {a s t : Int32} (hV : zV u v a) (hs : 0 ≤ s.toInt ∧ s.toInt ≤ 7) (ht : 0 ≤ t.toInt ∧ t.toInt ≤ 39) : zrg 0 40 (xH v a s t) := by
  have hm := R.1.2.2.1.1
  have hj := R.1.2.2.1.2.1
  have hS := xS_rg hV hm hj
  have hE := xE_rg R hV hs ht
  obtain ⟨_, hU, _⟩ := q_unsure R (w := 1) (Or.inr rfl) hV.1 hs ht
  unfold xH
  split
  · unfold zrg at hS hE hU hj ⊢
    have b1 : 0 ≤ (xS v a (M_jaw v)).toInt * (xU v 1 a s t).toInt := Int.mul_nonneg hS.1 (by omega)
    have b2 : (xS v a (M_jaw v)).toInt * (xU v 1 a s t).toInt ≤ 40 * (xU v 1 a s t).toInt := Int.mul_le_mul_of_nonneg_right hS.2 (by omega)
    have b3 : 0 ≤ (M_jaw v).toInt * (xE v a s t).toInt := Int.mul_nonneg hj.1 (by omega)
    have b4 : (M_jaw v).toInt * (xE v a s t).toInt ≤ 40 * (xE v a s t).toInt := Int.mul_le_mul_of_nonneg_right hj.2 (by omega)
    have e1 : (xS v a (M_jaw v) * xU v 1 a s t).toInt = (xS v a (M_jaw v)).toInt * (xU v 1 a s t).toInt := z_mulI (by omega) (by omega)
    have e2 : (M_jaw v * xE v a s t).toInt = (M_jaw v).toInt * (xE v a s t).toInt := z_mulI (by omega) (by omega)
    have e3 : (xS v a (M_jaw v) * xU v 1 a s t + M_jaw v * xE v a s t).toInt = (xS v a (M_jaw v)).toInt * (xU v 1 a s t).toInt + (M_jaw v).toInt * (xE v a s t).toInt := by rw [z_addI (by omega) (by omega), e1, e2]
    have e4 := z_addI (x := xE v a s t) (y := xU v 1 a s t) (by omega) (by omega)
    rw [z_div (by omega) (by omega), e3, e4]
    refine ⟨Int.ediv_nonneg (by omega) (by omega), ?_⟩
    apply Int.ediv_le_of_le_mul (by omega)
    omega
  · exact hS
theorem q_caught {u : SV} {v : SM} (R : Rel u v) {a s t : Int32} (hV : zV u v a) (hs : 0 ≤ s.toInt ∧ s.toInt ≤ 7) (ht : 0 ≤ t.toInt ∧ t.toInt ≤ 39) (p : Nat → Int32) : ∃ p', mM_isCaught a s t (M_put_pile p v) = some (ztf (xC v a s t), p') := by
  obtain ⟨p1, h1⟩ := q_held R hV hs ht p
  have e0 : M_jaw (M_put_pile p v) = M_jaw v := rfl
  have e1 : M_mouth (M_put_pile p v) = M_mouth v := rfl
  unfold mM_isCaught
  rw [h1, Option.bind_some, e0, e1]
  refine ⟨p1, ?_⟩
  unfold xC
  simp only [Int32.le_iff_toInt_le]
  by_cases c : (mM_apart (xH v a s t) (M_jaw v)).toInt < (mM_apart (xH v a s t) (M_mouth v)).toInt
  · rw [if_neg (by omega), decide_eq_true c]; rfl
  · rw [if_pos (by omega), decide_eq_false c]; rfl
theorem q_abs {x y : Int32} (hx : 0 ≤ x.toInt) (hy : 0 ≤ y.toInt) : zabs (x - y) = mM_apart x y := by
  have := z_lt x
  have := z_lt y
  have e := z_subI (x := x) (y := y) (by omega) (by omega)
  unfold zabs mM_apart
  simp only [Int32.le_iff_toInt_le, Int32.reduceToInt, e]
  by_cases c : y.toInt ≤ x.toInt
  · rw [if_pos c, if_pos (by omega)]
  · rw [if_neg c, if_neg (by omega)]
    apply Int32.toInt_inj.mp
    rw [z_subI (by rw [e]; simp only [Int32.reduceToInt]; omega) (by rw [e]; simp only [Int32.reduceToInt]; omega), e, z_subI (x := y) (y := x) (by omega) (by omega)]
    simp only [Int32.reduceToInt]
    omega
theorem c_canJoin {u : SV} {v : SM} (R : Rel u v) {a t : Int32} (hV : zV u v a) (ht : 0 ≤ t.toInt ∧ t.toInt ≤ 39) : mV_canJoin a.toInt.toNat t u = some (ztf (xA v a t)) := by
  have hl := R.1.2.2.1.2.2.2.1
  have h4 := R.1.1.2.2.2.1
  obtain ⟨ha, hn, he, hk, hv⟩ := hV
  unfold zrg at hv
  unfold mV_canJoin mS_tenthsSaidIn mO_isApartIn xA
  rw [h4, zgk_ok _ hn, he]
  show (if 2 * M_letters v ≤ t then some 0 else (if M_kind v a.toInt.toNat = 4 then (if M_v v a.toInt.toNat = 0 then some (0 : Int32) else zgz (M_v v a.toInt.toNat) (if t - t / M_v v a.toInt.toNat * M_v v a.toInt.toNat = 0 then some 1 else some 0)) else some 0).bind fun q1 => if q1 = 0 then some 1 else some 0) = _
  simp only [Int32.le_iff_toInt_le, z_two hl]
  by_cases c1 : 2 * (M_letters v).toInt ≤ t.toInt
  · rw [if_pos c1, decide_eq_false (by omega)]; rfl
  · rw [if_neg c1, decide_eq_true (by omega)]
    by_cases c2 : M_kind v a.toInt.toNat = 4
    · rw [if_pos c2]
      by_cases c3 : M_v v a.toInt.toNat = 0
      · rw [if_pos c3, decide_eq_false (by rw [c3]; rintro ⟨_, h, _⟩; exact absurd h (by decide))]
        rfl
      · have c3' : 0 < (M_v v a.toInt.toNat).toInt := by
          have : (M_v v a.toInt.toNat).toInt ≠ 0 := fun h => c3 (Int32.toInt_inj.mp h)
          omega
        have hr := z_rem (x := t) (y := M_v v a.toInt.toNat) ht.1 c3'
        rw [if_neg c3]
        unfold zgz
        rw [if_neg c3]
        by_cases c4 : t - t / M_v v a.toInt.toNat * M_v v a.toInt.toNat = 0
        · rw [if_pos c4]
          rw [c4] at hr
          rw [decide_eq_true ⟨c2, c3', hr.symm⟩]
          rfl
        · rw [if_neg c4, decide_eq_false]
          · rfl
          · rintro ⟨_, _, h⟩
            exact c4 (Int32.toInt_inj.mp (by rw [hr, h]; rfl))
    · rw [if_neg c2, decide_eq_false (fun h => c2 h.1)]
      rfl
