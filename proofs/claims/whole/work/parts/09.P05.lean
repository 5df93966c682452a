/-! 09.P5: acts -/
theorem y_bf00 : mN_bodyFrom 0 0 () = some 10 := rfl
theorem y_bf01 : mN_bodyFrom 0 1 () = some 11 := rfl
theorem y_bf02 : mN_bodyFrom 0 2 () = some 12 := rfl
theorem y_bf10 : mN_bodyFrom 1 0 () = some 10 := rfl
theorem y_bf11 : mN_bodyFrom 1 1 () = some 20 := rfl
theorem y_bf12 : mN_bodyFrom 1 2 () = some 12 := rfl
theorem y_bf20 : mN_bodyFrom 2 0 () = some 30 := rfl
theorem y_bf21 : mN_bodyFrom 2 1 () = some 11 := rfl
theorem y_bf22 : mN_bodyFrom 2 2 () = some 12 := rfl
theorem y_bf30 : mN_bodyFrom 3 0 () = some 10 := rfl
theorem y_bf31 : mN_bodyFrom 3 1 () = some 11 := rfl
theorem y_bf32 : mN_bodyFrom 3 2 () = some 40 := rfl
theorem y_bf40 : mN_bodyFrom 4 0 () = some 50 := rfl
theorem y_bf41 : mN_bodyFrom 4 1 () = some 51 := rfl
theorem y_bf42 : mN_bodyFrom 4 2 () = some 12 := rfl
theorem y_bf50 : mN_bodyFrom 5 0 () = some 30 := rfl
theorem y_bf51 : mN_bodyFrom 5 1 () = some 11 := rfl
theorem y_bf52 : mN_bodyFrom 5 2 () = some 60 := rfl
theorem y_bf60 : mN_bodyFrom 6 0 () = some 71 := rfl
theorem y_bf61 : mN_bodyFrom 6 1 () = some 70 := rfl
theorem y_bf62 : mN_bodyFrom 6 2 () = some 40 := rfl
theorem y_eta {α β γ : Type} (o : Option (α × β × γ)) : (o.bind fun q => some (q.1, (q.2.1, q.2.2))) = o := by cases o <;> rfl
theorem y_st {n : Nat} {k a x d r num kk w b : Int32} {f : Nat → Int32} (hb : mN_bodyFrom k a () = some b) (hd : d.toInt ≤ 30) (h0 : 0 ≤ r.toInt) (h1 : r.toInt < 20) : mA_F (n + 1) k a x d ((r, num), (kk, (w, f))) = mA_runBody (mA_F n) b x (d + 1) ((r + 1, num), (kk, (w, upd f r.toNatClampNeg b))) := by
  show mA_runFrom (mA_runBody (mA_F n)) k a x d ((r, num), (kk, (w, f))) = _
  unfold mA_runFrom
  rw [if_pos (by (try simp only [z_in0, z_isPlaceM, z_isPlaceN, z_isLetterN, z_isTenthN, z_isTapeN, z_isTapeM]); (try simp only [Int32.lt_iff_toInt_lt, Int32.le_iff_toInt_le, ← Int32.toInt_inj, Int32.reduceToInt, Int64.reduceToInt]); omega), hb]
  show (if 20 ≤ r then _ else zgi r 20 _) = _
  rw [if_neg (by (try simp only [z_in0, z_isPlaceM, z_isPlaceN, z_isLetterN, z_isTenthN, z_isTapeN, z_isTapeM]); (try simp only [Int32.lt_iff_toInt_lt, Int32.le_iff_toInt_le, ← Int32.toInt_inj, Int32.reduceToInt, Int64.reduceToInt]); omega), zgi_ok _ h0 (by omega)]
  unfold mA_runFrom_J36
  rw [y_eta]
  rfl
theorem y_s00 {n : Nat} {x d r num kk w : Int32} {f : Nat → Int32} (hd : d.toInt ≤ 30) (h0 : 0 ≤ r.toInt) (h1 : r.toInt < 20) : mA_F (n + 1) 0 0 x d ((r, num), (kk, (w, f))) = mA_runBody (mA_F n) 10 x (d + 1) ((r + 1, num), (kk, (w, upd f r.toNatClampNeg 10))) := y_st y_bf00 hd h0 h1
theorem y_s01 {n : Nat} {x d r num kk w : Int32} {f : Nat → Int32} (hd : d.toInt ≤ 30) (h0 : 0 ≤ r.toInt) (h1 : r.toInt < 20) : mA_F (n + 1) 0 1 x d ((r, num), (kk, (w, f))) = mA_runBody (mA_F n) 11 x (d + 1) ((r + 1, num), (kk, (w, upd f r.toNatClampNeg 11))) := y_st y_bf01 hd h0 h1
theorem y_s02 {n : Nat} {x d r num kk w : Int32} {f : Nat → Int32} (hd : d.toInt ≤ 30) (h0 : 0 ≤ r.toInt) (h1 : r.toInt < 20) : mA_F (n + 1) 0 2 x d ((r, num), (kk, (w, f))) = mA_runBody (mA_F n) 12 x (d + 1) ((r + 1, num), (kk, (w, upd f r.toNatClampNeg 12))) := y_st y_bf02 hd h0 h1
theorem y_s10 {n : Nat} {x d r num kk w : Int32} {f : Nat → Int32} (hd : d.toInt ≤ 30) (h0 : 0 ≤ r.toInt) (h1 : r.toInt < 20) : mA_F (n + 1) 1 0 x d ((r, num), (kk, (w, f))) = mA_runBody (mA_F n) 10 x (d + 1) ((r + 1, num), (kk, (w, upd f r.toNatClampNeg 10))) := y_st y_bf10 hd h0 h1
theorem y_s11 {n : Nat} {x d r num kk w : Int32} {f : Nat → Int32} (hd : d.toInt ≤ 30) (h0 : 0 ≤ r.toInt) (h1 : r.toInt < 20) : mA_F (n + 1) 1 1 x d ((r, num), (kk, (w, f))) = mA_runBody (mA_F n) 20 x (d + 1) ((r + 1, num), (kk, (w, upd f r.toNatClampNeg 20))) := y_st y_bf11 hd h0 h1
theorem y_s12 {n : Nat} {x d r num kk w : Int32} {f : Nat → Int32} (hd : d.toInt ≤ 30) (h0 : 0 ≤ r.toInt) (h1 : r.toInt < 20) : mA_F (n + 1) 1 2 x d ((r, num), (kk, (w, f))) = mA_runBody (mA_F n) 12 x (d + 1) ((r + 1, num), (kk, (w, upd f r.toNatClampNeg 12))) := y_st y_bf12 hd h0 h1
theorem y_s20 {n : Nat} {x d r num kk w : Int32} {f : Nat → Int32} (hd : d.toInt ≤ 30) (h0 : 0 ≤ r.toInt) (h1 : r.toInt < 20) : mA_F (n + 1) 2 0 x d ((r, num), (kk, (w, f))) = mA_runBody (mA_F n) 30 x (d + 1) ((r + 1, num), (kk, (w, upd f r.toNatClampNeg 30))) := y_st y_bf20 hd h0 h1
theorem y_s21 {n : Nat} {x d r num kk w : Int32} {f : Nat → Int32} (hd : d.toInt ≤ 30) (h0 : 0 ≤ r.toInt) (h1 : r.toInt < 20) : mA_F (n + 1) 2 1 x d ((r, num), (kk, (w, f))) = mA_runBody (mA_F n) 11 x (d + 1) ((r + 1, num), (kk, (w, upd f r.toNatClampNeg 11))) := y_st y_bf21 hd h0 h1
theorem y_s22 {n : Nat} {x d r num kk w : Int32} {f : Nat → Int32} (hd : d.toInt ≤ 30) (h0 : 0 ≤ r.toInt) (h1 : r.toInt < 20) : mA_F (n + 1) 2 2 x d ((r, num), (kk, (w, f))) = mA_runBody (mA_F n) 12 x (d + 1) ((r + 1, num), (kk, (w, upd f r.toNatClampNeg 12))) := y_st y_bf22 hd h0 h1
theorem y_s30 {n : Nat} {x d r num kk w : Int32} {f : Nat → Int32} (hd : d.toInt ≤ 30) (h0 : 0 ≤ r.toInt) (h1 : r.toInt < 20) : mA_F (n + 1) 3 0 x d ((r, num), (kk, (w, f))) = mA_runBody (mA_F n) 10 x (d + 1) ((r + 1, num), (kk, (w, upd f r.toNatClampNeg 10))) := y_st y_bf30 hd h0 h1
theorem y_s31 {n : Nat} {x d r num kk w : Int32} {f : Nat → Int32} (hd : d.toInt ≤ 30) (h0 : 0 ≤ r.toInt) (h1 : r.toInt < 20) : mA_F (n + 1) 3 1 x d ((r, num), (kk, (w, f))) = mA_runBody (mA_F n) 11 x (d + 1) ((r + 1, num), (kk, (w, upd f r.toNatClampNeg 11))) := y_st y_bf31 hd h0 h1
theorem y_s32 {n : Nat} {x d r num kk w : Int32} {f : Nat → Int32} (hd : d.toInt ≤ 30) (h0 : 0 ≤ r.toInt) (h1 : r.toInt < 20) : mA_F (n + 1) 3 2 x d ((r, num), (kk, (w, f))) = mA_runBody (mA_F n) 40 x (d + 1) ((r + 1, num), (kk, (w, upd f r.toNatClampNeg 40))) := y_st y_bf32 hd h0 h1
theorem y_s40 {n : Nat} {x d r num kk w : Int32} {f : Nat → Int32} (hd : d.toInt ≤ 30) (h0 : 0 ≤ r.toInt) (h1 : r.toInt < 20) : mA_F (n + 1) 4 0 x d ((r, num), (kk, (w, f))) = mA_runBody (mA_F n) 50 x (d + 1) ((r + 1, num), (kk, (w, upd f r.toNatClampNeg 50))) := y_st y_bf40 hd h0 h1
theorem y_s41 {n : Nat} {x d r num kk w : Int32} {f : Nat → Int32} (hd : d.toInt ≤ 30) (h0 : 0 ≤ r.toInt) (h1 : r.toInt < 20) : mA_F (n + 1) 4 1 x d ((r, num), (kk, (w, f))) = mA_runBody (mA_F n) 51 x (d + 1) ((r + 1, num), (kk, (w, upd f r.toNatClampNeg 51))) := y_st y_bf41 hd h0 h1
theorem y_s42 {n : Nat} {x d r num kk w : Int32} {f : Nat → Int32} (hd : d.toInt ≤ 30) (h0 : 0 ≤ r.toInt) (h1 : r.toInt < 20) : mA_F (n + 1) 4 2 x d ((r, num), (kk, (w, f))) = mA_runBody (mA_F n) 12 x (d + 1) ((r + 1, num), (kk, (w, upd f r.toNatClampNeg 12))) := y_st y_bf42 hd h0 h1
theorem y_s50 {n : Nat} {x d r num kk w : Int32} {f : Nat → Int32} (hd : d.toInt ≤ 30) (h0 : 0 ≤ r.toInt) (h1 : r.toInt < 20) : mA_F (n + 1) 5 0 x d ((r, num), (kk, (w, f))) = mA_runBody (mA_F n) 30 x (d + 1) ((r + 1, num), (kk, (w, upd f r.toNatClampNeg 30))) := y_st y_bf50 hd h0 h1
theorem y_s51 {n : Nat} {x d r num kk w : Int32} {f : Nat → Int32} (hd : d.toInt ≤ 30) (h0 : 0 ≤ r.toInt) (h1 : r.toInt < 20) : mA_F (n + 1) 5 1 x d ((r, num), (kk, (w, f))) = mA_runBody (mA_F n) 11 x (d + 1) ((r + 1, num), (kk, (w, upd f r.toNatClampNeg 11))) := y_st y_bf51 hd h0 h1
theorem y_s52 {n : Nat} {x d r num kk w : Int32} {f : Nat → Int32} (hd : d.toInt ≤ 30) (h0 : 0 ≤ r.toInt) (h1 : r.toInt < 20) : mA_F (n + 1) 5 2 x d ((r, num), (kk, (w, f))) = mA_runBody (mA_F n) 60 x (d + 1) ((r + 1, num), (kk, (w, upd f r.toNatClampNeg 60))) := y_st y_bf52 hd h0 h1
theorem y_s60 {n : Nat} {x d r num kk w : Int32} {f : Nat → Int32} (hd : d.toInt ≤ 30) (h0 : 0 ≤ r.toInt) (h1 : r.toInt < 20) : mA_F (n + 1) 6 0 x d ((r, num), (kk, (w, f))) = mA_runBody (mA_F n) 71 x (d + 1) ((r + 1, num), (kk, (w, upd f r.toNatClampNeg 71))) := y_st y_bf60 hd h0 h1
theorem y_s61 {n : Nat} {x d r num kk w : Int32} {f : Nat → Int32} (hd : d.toInt ≤ 30) (h0 : 0 ≤ r.toInt) (h1 : r.toInt < 20) : mA_F (n + 1) 6 1 x d ((r, num), (kk, (w, f))) = mA_runBody (mA_F n) 70 x (d + 1) ((r + 1, num), (kk, (w, upd f r.toNatClampNeg 70))) := y_st y_bf61 hd h0 h1
theorem y_s62 {n : Nat} {x d r num kk w : Int32} {f : Nat → Int32} (hd : d.toInt ≤ 30) (h0 : 0 ≤ r.toInt) (h1 : r.toInt < 20) : mA_F (n + 1) 6 2 x d ((r, num), (kk, (w, f))) = mA_runBody (mA_F n) 40 x (d + 1) ((r + 1, num), (kk, (w, upd f r.toNatClampNeg 40))) := y_st y_bf62 hd h0 h1
theorem y_b10 {RF : Int32 → Int32 → Int32 → Int32 → SA → Option (Int32 × Int32 × (Nat → Int32))} {x d r num kk w : Int32} {f : Nat → Int32} : mA_runBody RF 10 x d ((r, num), (kk, (w, f))) = some (x + num, (r, f)) := rfl
theorem y_b11 {RF : Int32 → Int32 → Int32 → Int32 → SA → Option (Int32 × Int32 × (Nat → Int32))} {x d r num kk w : Int32} {f : Nat → Int32} : mA_runBody RF 11 x d ((r, num), (kk, (w, f))) = (RF kk 0 x d ((r, num), (kk, (w, f)))).bind fun q => some (q.1 - w, (q.2.1, q.2.2)) := rfl
theorem y_b12 {RF : Int32 → Int32 → Int32 → Int32 → SA → Option (Int32 × Int32 × (Nat → Int32))} {x d r num kk w : Int32} {f : Nat → Int32} : mA_runBody RF 12 x d ((r, num), (kk, (w, f))) = (RF kk 1 x d ((r, num), (kk, (w, f)))).bind fun q => some (q.1 * 2, (q.2.1, q.2.2)) := rfl
theorem y_b20 {RF : Int32 → Int32 → Int32 → Int32 → SA → Option (Int32 × Int32 × (Nat → Int32))} {x d r num kk w : Int32} {f : Nat → Int32} : mA_runBody RF 20 x d ((r, num), (kk, (w, f))) = (RF 0 1 x d ((r, num), (kk, (w, f)))).bind fun q => some (q.1 ^^^ 6, (q.2.1, q.2.2)) := rfl
theorem y_b30 {RF : Int32 → Int32 → Int32 → Int32 → SA → Option (Int32 × Int32 × (Nat → Int32))} {x d r num kk w : Int32} {f : Nat → Int32} : mA_runBody RF 30 x d ((r, num), (kk, (w, f))) = (RF 0 0 (x * 3) d ((r, num), (kk, (w, f)))).bind fun q => some (q.1, (q.2.1, q.2.2)) := rfl
theorem y_b40 {RF : Int32 → Int32 → Int32 → Int32 → SA → Option (Int32 × Int32 × (Nat → Int32))} {x d r num kk w : Int32} {f : Nat → Int32} : mA_runBody RF 40 x d ((r, num), (kk, (w, f))) = (RF 0 2 x d ((r, num), (kk, (w, f)))).bind fun q => (RF kk 1 1 d ((q.2.1, num), (kk, (w, q.2.2)))).bind fun q6 => some (q.1 + q6.1, (q6.2.1, q6.2.2)) := rfl
theorem y_b50 {RF : Int32 → Int32 → Int32 → Int32 → SA → Option (Int32 × Int32 × (Nat → Int32))} {x d r num kk w : Int32} {f : Nat → Int32} : mA_runBody RF 50 x d ((r, num), (kk, (w, f))) = (RF 1 0 x d ((r, num), (kk, (w, f)))).bind fun q => some (-q.1, (q.2.1, q.2.2)) := rfl
theorem y_b51 {RF : Int32 → Int32 → Int32 → Int32 → SA → Option (Int32 × Int32 × (Nat → Int32))} {x d r num kk w : Int32} {f : Nat → Int32} : mA_runBody RF 51 x d ((r, num), (kk, (w, f))) = (RF 1 1 (x + 1) d ((r, num), (kk, (w, f)))).bind fun q => some (q.1, (q.2.1, q.2.2)) := rfl
theorem y_b60 {RF : Int32 → Int32 → Int32 → Int32 → SA → Option (Int32 × Int32 × (Nat → Int32))} {x d r num kk w : Int32} {f : Nat → Int32} : mA_runBody RF 60 x d ((r, num), (kk, (w, f))) = (RF 2 2 (x - num) d ((r, num), (kk, (w, f)))).bind fun q => some (q.1, (q.2.1, q.2.2)) := rfl
theorem y_b70 {RF : Int32 → Int32 → Int32 → Int32 → SA → Option (Int32 × Int32 × (Nat → Int32))} {x d r num kk w : Int32} {f : Nat → Int32} : mA_runBody RF 70 x d ((r, num), (kk, (w, f))) = (RF 3 1 x d ((r, num), (kk, (w, f)))).bind fun q => (RF 3 0 2 d ((q.2.1, num), (kk, (w, q.2.2)))).bind fun q6 => some (q.1 + q6.1, (q6.2.1, q6.2.2)) := rfl
theorem y_b71 {RF : Int32 → Int32 → Int32 → Int32 → SA → Option (Int32 × Int32 × (Nat → Int32))} {x d r num kk w : Int32} {f : Nat → Int32} : mA_runBody RF 71 x d ((r, num), (kk, (w, f))) = (RF 3 0 x d ((r, num), (kk, (w, f)))).bind fun q => some (q.1 ^^^ w, (q.2.1, q.2.2)) := rfl
theorem y_eb (v : SM) (b r : Int32) (f : Nat → Int32) (h0 : 0 ≤ r.toInt) (h1 : r.toInt < 20) : mM_body b (M_put_ran_bodies (r, f) v) = some (r + 1, upd f r.toNatClampNeg b) := by
  unfold mM_body
  show (if 20 ≤ r then _ else zgi r 20 _) = _
  rw [if_neg (by (try simp only [z_in0, z_isPlaceM, z_isPlaceN, z_isLetterN, z_isTenthN, z_isTapeN, z_isTapeM]); (try simp only [Int32.lt_iff_toInt_lt, Int32.le_iff_toInt_le, ← Int32.toInt_inj, Int32.reduceToInt, Int64.reduceToInt]); omega), zgi_ok _ h0 (by omega)]
  rfl
theorem y_ep (v : SM) (p q : Int32 × (Nat → Int32)) : M_put_ran_bodies p (M_put_ran_bodies q v) = M_put_ran_bodies p v := rfl
theorem y_e1 (v : SM) (p : Int32 × (Nat → Int32)) : M_kind (M_put_ran_bodies p v) = M_kind v := rfl
theorem y_e2 (v : SM) (p : Int32 × (Nat → Int32)) : M_v (M_put_ran_bodies p v) = M_v v := rfl
/-- both answer alike, and few bodies more have run -/
def yB (c : Int) (r : Int32) (A B : Option (Int32 × Int32 × (Nat → Int32))) : Prop := ∃ y r' f', A = some (y, (r', f')) ∧ B = some (y, (r', f')) ∧ r.toInt ≤ r'.toInt ∧ r'.toInt ≤ r.toInt + c
theorem y_P0 (a k w : Int32) (n : Nat) (x d r : Int32) (f : Nat → Int32) (hd : 0 ≤ d.toInt ∧ d.toInt ≤ 30) (hr : 0 ≤ r.toInt ∧ r.toInt ≤ 19) : mA_F (n + 1) 0 0 x d ((r, a), (k, (w, f))) = some (x + a, (r + 1, upd f r.toNatClampNeg 10)) := by
  rw [y_s00 (by omega) (by omega) (by omega), y_b10]
theorem y_P1 (a k w : Int32) (n : Nat) (x d r : Int32) (f : Nat → Int32) (hd : 0 ≤ d.toInt ∧ d.toInt ≤ 30) (hr : 0 ≤ r.toInt ∧ r.toInt ≤ 19) : mA_F (n + 1) 1 0 x d ((r, a), (k, (w, f))) = some (x + a, (r + 1, upd f r.toNatClampNeg 10)) := by
  rw [y_s10 (by omega) (by omega) (by omega), y_b10]
theorem y_P3 (a k w : Int32) (n : Nat) (x d r : Int32) (f : Nat → Int32) (hd : 0 ≤ d.toInt ∧ d.toInt ≤ 30) (hr : 0 ≤ r.toInt ∧ r.toInt ≤ 19) : mA_F (n + 1) 3 0 x d ((r, a), (k, (w, f))) = some (x + a, (r + 1, upd f r.toNatClampNeg 10)) := by
  rw [y_s30 (by omega) (by omega) (by omega), y_b10]
theorem y_PM (v : SM) (a x r : Int32) (f : Nat → Int32) (hr : 0 ≤ r.toInt ∧ r.toInt ≤ 19) : mM_plainHears a x (M_put_ran_bodies (r, f) v) = some (x + a, (r + 1, upd f r.toNatClampNeg 10)) := by
  unfold mM_plainHears
  rw [y_eb _ _ _ _ (by omega) (by omega)]
  rfl
theorem y_H (v : SM) (a k w : Int32) (h0 : 0 ≤ a.toInt) (h1 : a.toInt ≤ 9) (hk : M_kind v a.toNatClampNeg = k) (hv : M_v v a.toNatClampNeg = w) (K : zrg 0 6 k) (n : Nat) (x d r : Int32) (f : Nat → Int32) (hd : 0 ≤ d.toInt ∧ d.toInt ≤ 28) (hr : 0 ≤ r.toInt ∧ r.toInt ≤ 17) : yB 2 r (mA_F (n + 2) k 0 x d ((r, a), (k, (w, f)))) (mM_hearsAct a x (M_put_ran_bodies (r, f) v)) := by
  have z : ∀ {α : Type} (o : Option α), zgi a 10 o = o := fun o => zgi_ok o h0 (by omega)
  have hd1 := z_one d (by omega) (by omega)
  have hr1 := z_one r (by omega) (by omega)
  have hd2 := z_one (d + 1) (by omega) (by omega)
  have hr2 := z_one (r + 1) (by omega) (by omega)
  unfold mM_hearsAct mM_hearsAct_J40 yB
  simp only [z, y_e1, y_e2, hk, hv]
  rcases z_kinds K with rfl | rfl | rfl | rfl | rfl | rfl | rfl
  · rw [y_s00 (by omega) (by omega) (by omega), y_b10]
    refine ⟨_, _, _, rfl, ?_, by omega, by omega⟩
    show (mM_plainHears a x _).bind _ = _
    rw [y_PM _ _ _ _ _ (by omega)]
    rfl
  · rw [y_s10 (by omega) (by omega) (by omega), y_b10]
    refine ⟨_, _, _, rfl, ?_, by omega, by omega⟩
    show (mM_plainHears a x _).bind _ = _
    rw [y_PM _ _ _ _ _ (by omega)]
    rfl
  · rw [y_s20 (by omega) (by omega) (by omega), y_b30, y_P0 a 2 w n (x * 3) (d + 1) (r + 1) _ (by omega) (by omega)]
    refine ⟨_, r + 1 + 1, _, rfl, ?_, by omega, by omega⟩
    show (mM_body 30 _).bind _ = _
    rw [y_eb _ _ _ _ (by omega) (by omega), Option.bind_some, y_ep, y_PM v a _ (r + 1) _ (by omega)]
    rfl
  · rw [y_s30 (by omega) (by omega) (by omega), y_b10]
    refine ⟨_, _, _, rfl, ?_, by omega, by omega⟩
    show (mM_plainHears a x _).bind _ = _
    rw [y_PM _ _ _ _ _ (by omega)]
    rfl
  · rw [y_s40 (by omega) (by omega) (by omega), y_b50, y_P1 a 4 w n x (d + 1) (r + 1) _ (by omega) (by omega)]
    refine ⟨_, r + 1 + 1, _, rfl, ?_, by omega, by omega⟩
    show (mM_body 50 _).bind _ = _
    rw [y_eb _ _ _ _ (by omega) (by omega), Option.bind_some, y_ep, y_PM v a _ (r + 1) _ (by omega)]
    rfl
  · rw [y_s50 (by omega) (by omega) (by omega), y_b30, y_P0 a 5 w n (x * 3) (d + 1) (r + 1) _ (by omega) (by omega)]
    refine ⟨_, r + 1 + 1, _, rfl, ?_, by omega, by omega⟩
    show (mM_body 30 _).bind _ = _
    rw [y_eb _ _ _ _ (by omega) (by omega), Option.bind_some, y_ep, y_PM v a _ (r + 1) _ (by omega)]
    rfl
  · rw [y_s60 (by omega) (by omega) (by omega), y_b71, y_P3 a 6 w n x (d + 1) (r + 1) _ (by omega) (by omega)]
    refine ⟨_, r + 1 + 1, _, rfl, ?_, by omega, by omega⟩
    show (mM_body 71 _).bind _ = _
    rw [y_eb _ _ _ _ (by omega) (by omega), Option.bind_some, y_ep, y_PM v a _ (r + 1) _ (by omega)]
    rfl
theorem y_S0 (v : SM) (a k w : Int32) (h0 : 0 ≤ a.toInt) (h1 : a.toInt ≤ 9) (hk : M_kind v a.toNatClampNeg = k) (hv : M_v v a.toNatClampNeg = w) (K : zrg 0 6 k) (n : Nat) (x d r : Int32) (f : Nat → Int32) (hd : 0 ≤ d.toInt ∧ d.toInt ≤ 27) (hr : 0 ≤ r.toInt ∧ r.toInt ≤ 16) : yB 3 r (mA_F (n + 3) 0 1 x d ((r, a), (k, (w, f)))) (mM_plainSees a x (M_put_ran_bodies (r, f) v)) := by
  have z : ∀ {α : Type} (o : Option α), zgi a 10 o = o := fun o => zgi_ok o h0 (by omega)
  have hd1 := z_one d (by omega) (by omega)
  have hr1 := z_one r (by omega) (by omega)
  have hd2 := z_one (d + 1) (by omega) (by omega)
  have hr2 := z_one (r + 1) (by omega) (by omega)
  obtain ⟨y, r', f', a1, a2, a3, a4⟩ := y_H v a k w h0 h1 hk hv K n x (d + 1) (r + 1) (upd f r.toNatClampNeg 11) (by omega) (by omega)
  unfold mM_plainSees
  rw [y_s01 (by omega) (by omega) (by omega), y_b11, a1, y_eb _ _ _ _ (by omega) (by omega), Option.bind_some, Option.bind_some, y_ep, a2, Option.bind_some, z, y_e2, hv]
  exact ⟨_, r', f', rfl, rfl, by omega, by omega⟩
theorem y_S2 (v : SM) (a k w : Int32) (h0 : 0 ≤ a.toInt) (h1 : a.toInt ≤ 9) (hk : M_kind v a.toNatClampNeg = k) (hv : M_v v a.toNatClampNeg = w) (K : zrg 0 6 k) (n : Nat) (x d r : Int32) (f : Nat → Int32) (hd : 0 ≤ d.toInt ∧ d.toInt ≤ 27) (hr : 0 ≤ r.toInt ∧ r.toInt ≤ 16) : yB 3 r (mA_F (n + 3) 2 1 x d ((r, a), (k, (w, f)))) (mM_plainSees a x (M_put_ran_bodies (r, f) v)) := by
  have z : ∀ {α : Type} (o : Option α), zgi a 10 o = o := fun o => zgi_ok o h0 (by omega)
  have hd1 := z_one d (by omega) (by omega)
  have hr1 := z_one r (by omega) (by omega)
  have hd2 := z_one (d + 1) (by omega) (by omega)
  have hr2 := z_one (r + 1) (by omega) (by omega)
  obtain ⟨y, r', f', a1, a2, a3, a4⟩ := y_H v a k w h0 h1 hk hv K n x (d + 1) (r + 1) (upd f r.toNatClampNeg 11) (by omega) (by omega)
  unfold mM_plainSees
  rw [y_s21 (by omega) (by omega) (by omega), y_b11, a1, y_eb _ _ _ _ (by omega) (by omega), Option.bind_some, Option.bind_some, y_ep, a2, Option.bind_some, z, y_e2, hv]
  exact ⟨_, r', f', rfl, rfl, by omega, by omega⟩
theorem y_S3 (v : SM) (a k w : Int32) (h0 : 0 ≤ a.toInt) (h1 : a.toInt ≤ 9) (hk : M_kind v a.toNatClampNeg = k) (hv : M_v v a.toNatClampNeg = w) (K : zrg 0 6 k) (n : Nat) (x d r : Int32) (f : Nat → Int32) (hd : 0 ≤ d.toInt ∧ d.toInt ≤ 27) (hr : 0 ≤ r.toInt ∧ r.toInt ≤ 16) : yB 3 r (mA_F (n + 3) 3 1 x d ((r, a), (k, (w, f)))) (mM_plainSees a x (M_put_ran_bodies (r, f) v)) := by
  have z : ∀ {α : Type} (o : Option α), zgi a 10 o = o := fun o => zgi_ok o h0 (by omega)
  have hd1 := z_one d (by omega) (by omega)
  have hr1 := z_one r (by omega) (by omega)
  have hd2 := z_one (d + 1) (by omega) (by omega)
  have hr2 := z_one (r + 1) (by omega) (by omega)
  obtain ⟨y, r', f', a1, a2, a3, a4⟩ := y_H v a k w h0 h1 hk hv K n x (d + 1) (r + 1) (upd f r.toNatClampNeg 11) (by omega) (by omega)
  unfold mM_plainSees
  rw [y_s31 (by omega) (by omega) (by omega), y_b11, a1, y_eb _ _ _ _ (by omega) (by omega), Option.bind_some, Option.bind_some, y_ep, a2, Option.bind_some, z, y_e2, hv]
  exact ⟨_, r', f', rfl, rfl, by omega, by omega⟩
theorem y_S5 (v : SM) (a k w : Int32) (h0 : 0 ≤ a.toInt) (h1 : a.toInt ≤ 9) (hk : M_kind v a.toNatClampNeg = k) (hv : M_v v a.toNatClampNeg = w) (K : zrg 0 6 k) (n : Nat) (x d r : Int32) (f : Nat → Int32) (hd : 0 ≤ d.toInt ∧ d.toInt ≤ 27) (hr : 0 ≤ r.toInt ∧ r.toInt ≤ 16) : yB 3 r (mA_F (n + 3) 5 1 x d ((r, a), (k, (w, f)))) (mM_plainSees a x (M_put_ran_bodies (r, f) v)) := by
  have z : ∀ {α : Type} (o : Option α), zgi a 10 o = o := fun o => zgi_ok o h0 (by omega)
  have hd1 := z_one d (by omega) (by omega)
  have hr1 := z_one r (by omega) (by omega)
  have hd2 := z_one (d + 1) (by omega) (by omega)
  have hr2 := z_one (r + 1) (by omega) (by omega)
  obtain ⟨y, r', f', a1, a2, a3, a4⟩ := y_H v a k w h0 h1 hk hv K n x (d + 1) (r + 1) (upd f r.toNatClampNeg 11) (by omega) (by omega)
  unfold mM_plainSees
  rw [y_s51 (by omega) (by omega) (by omega), y_b11, a1, y_eb _ _ _ _ (by omega) (by omega), Option.bind_some, Option.bind_some, y_ep, a2, Option.bind_some, z, y_e2, hv]
  exact ⟨_, r', f', rfl, rfl, by omega, by omega⟩
theorem y_N (v : SM) (a k w : Int32) (h0 : 0 ≤ a.toInt) (h1 : a.toInt ≤ 9) (hk : M_kind v a.toNatClampNeg = k) (hv : M_v v a.toNatClampNeg = w) (K : zrg 0 6 k) (n : Nat) (x d r : Int32) (f : Nat → Int32) (hd : 0 ≤ d.toInt ∧ d.toInt ≤ 26) (hr : 0 ≤ r.toInt ∧ r.toInt ≤ 15) : yB 4 r (mA_F (n + 4) 1 1 x d ((r, a), (k, (w, f)))) (mM_nearSees a x (M_put_ran_bodies (r, f) v)) := by
  have z : ∀ {α : Type} (o : Option α), zgi a 10 o = o := fun o => zgi_ok o h0 (by omega)
  have hd1 := z_one d (by omega) (by omega)
  have hr1 := z_one r (by omega) (by omega)
  have hd2 := z_one (d + 1) (by omega) (by omega)
  have hr2 := z_one (r + 1) (by omega) (by omega)
  obtain ⟨y, r', f', a1, a2, a3, a4⟩ := y_S0 v a k w h0 h1 hk hv K n x (d + 1) (r + 1) (upd f r.toNatClampNeg 20) (by omega) (by omega)
  unfold mM_nearSees
  rw [y_s11 (by omega) (by omega) (by omega), y_b20, a1, y_eb _ _ _ _ (by omega) (by omega), Option.bind_some, Option.bind_some, y_ep, a2, Option.bind_some]
  exact ⟨_, r', f', rfl, rfl, by omega, by omega⟩
theorem y_E (v : SM) (a k w : Int32) (h0 : 0 ≤ a.toInt) (h1 : a.toInt ≤ 9) (hk : M_kind v a.toNatClampNeg = k) (hv : M_v v a.toNatClampNeg = w) (K : zrg 0 6 k) (n : Nat) (x d r : Int32) (f : Nat → Int32) (hd : 0 ≤ d.toInt ∧ d.toInt ≤ 24) (hr : 0 ≤ r.toInt ∧ r.toInt ≤ 12) : yB 5 r (mA_F (n + 5) k 1 x d ((r, a), (k, (w, f)))) (mM_seesAct a x (M_put_ran_bodies (r, f) v)) := by
  have z : ∀ {α : Type} (o : Option α), zgi a 10 o = o := fun o => zgi_ok o h0 (by omega)
  have hd1 := z_one d (by omega) (by omega)
  have hr1 := z_one r (by omega) (by omega)
  have hd2 := z_one (d + 1) (by omega) (by omega)
  have hr2 := z_one (r + 1) (by omega) (by omega)
  have Kk := K
  unfold mM_seesAct
  rw [z, y_e1, hk]
  rcases z_kinds K with rfl | rfl | rfl | rfl | rfl | rfl | rfl
  · obtain ⟨y, r', f', a1, a2, a3, a4⟩ := y_S0 v a 0 w h0 h1 hk hv Kk (n + 2) x d r f (by omega) (by omega)
    refine ⟨y, r', f', a1, ?_, by omega, by omega⟩
    show (mM_plainSees a x _).bind _ = _
    rw [a2]
    rfl
  · obtain ⟨y, r', f', a1, a2, a3, a4⟩ := y_N v a 1 w h0 h1 hk hv Kk (n + 1) x d r f (by omega) (by omega)
    refine ⟨y, r', f', a1, ?_, by omega, by omega⟩
    show (mM_nearSees a x _).bind _ = _
    rw [a2]
    rfl
  · obtain ⟨y, r', f', a1, a2, a3, a4⟩ := y_S2 v a 2 w h0 h1 hk hv Kk (n + 2) x d r f (by omega) (by omega)
    refine ⟨y, r', f', a1, ?_, by omega, by omega⟩
    show (mM_plainSees a x _).bind _ = _
    rw [a2]
    rfl
  · obtain ⟨y, r', f', a1, a2, a3, a4⟩ := y_S3 v a 3 w h0 h1 hk hv Kk (n + 2) x d r f (by omega) (by omega)
    refine ⟨y, r', f', a1, ?_, by omega, by omega⟩
    show (mM_plainSees a x _).bind _ = _
    rw [a2]
    rfl
  · obtain ⟨y, r', f', a1, a2, a3, a4⟩ := y_N v a 4 w h0 h1 hk hv Kk n (x + 1) (d + 1) (r + 1) (upd f r.toNatClampNeg 51) (by omega) (by omega)
    rw [y_s41 (by omega) (by omega) (by omega), y_b51, a1]
    refine ⟨y, r', f', rfl, ?_, by omega, by omega⟩
    show (mM_body 51 _).bind _ = _
    rw [y_eb _ _ _ _ (by omega) (by omega), Option.bind_some, y_ep, a2]
    rfl
  · obtain ⟨y, r', f', a1, a2, a3, a4⟩ := y_S5 v a 5 w h0 h1 hk hv Kk (n + 2) x d r f (by omega) (by omega)
    refine ⟨y, r', f', a1, ?_, by omega, by omega⟩
    show (mM_plainSees a x _).bind _ = _
    rw [a2]
    rfl
  · obtain ⟨y, r', f', a1, a2, a3, a4⟩ := y_S3 v a 6 w h0 h1 hk hv Kk (n + 1) x (d + 1) (r + 1) (upd f r.toNatClampNeg 70) (by omega) (by omega)
    rw [y_s61 (by omega) (by omega) (by omega), y_b70, a1, Option.bind_some]
    have hr3 := z_one r' (by omega) (by omega)
    refine ⟨_, r' + 1, _, by rw [y_P3 a 6 w (n + 3) 2 (d + 1) r' f' (by omega) (by omega)]; rfl, ?_, by omega, by omega⟩
    show (mM_body 70 _).bind _ = _
    rw [y_eb _ _ _ _ (by omega) (by omega), Option.bind_some, y_ep, a2]
    show (mM_plainHears a 2 (M_put_ran_bodies (r', f') v)).bind _ = _
    rw [y_PM _ _ _ _ _ (by omega)]
    rfl
theorem y_T0 (v : SM) (a k w : Int32) (h0 : 0 ≤ a.toInt) (h1 : a.toInt ≤ 9) (hk : M_kind v a.toNatClampNeg = k) (hv : M_v v a.toNatClampNeg = w) (K : zrg 0 6 k) (n : Nat) (x d r : Int32) (f : Nat → Int32) (hd : 0 ≤ d.toInt ∧ d.toInt ≤ 22) (hr : 0 ≤ r.toInt ∧ r.toInt ≤ 10) : yB 6 r (mA_F (n + 6) 0 2 x d ((r, a), (k, (w, f)))) (mM_plainTells a x (M_put_ran_bodies (r, f) v)) := by
  have z : ∀ {α : Type} (o : Option α), zgi a 10 o = o := fun o => zgi_ok o h0 (by omega)
  have hd1 := z_one d (by omega) (by omega)
  have hr1 := z_one r (by omega) (by omega)
  have hd2 := z_one (d + 1) (by omega) (by omega)
  have hr2 := z_one (r + 1) (by omega) (by omega)
  obtain ⟨y, r', f', a1, a2, a3, a4⟩ := y_E v a k w h0 h1 hk hv K n x (d + 1) (r + 1) (upd f r.toNatClampNeg 12) (by omega) (by omega)
  unfold mM_plainTells
  rw [y_s02 (by omega) (by omega) (by omega), y_b12, a1, y_eb _ _ _ _ (by omega) (by omega), Option.bind_some, Option.bind_some, y_ep, a2, Option.bind_some]
  exact ⟨_, r', f', rfl, rfl, by omega, by omega⟩
theorem y_T1 (v : SM) (a k w : Int32) (h0 : 0 ≤ a.toInt) (h1 : a.toInt ≤ 9) (hk : M_kind v a.toNatClampNeg = k) (hv : M_v v a.toNatClampNeg = w) (K : zrg 0 6 k) (n : Nat) (x d r : Int32) (f : Nat → Int32) (hd : 0 ≤ d.toInt ∧ d.toInt ≤ 22) (hr : 0 ≤ r.toInt ∧ r.toInt ≤ 10) : yB 6 r (mA_F (n + 6) 1 2 x d ((r, a), (k, (w, f)))) (mM_plainTells a x (M_put_ran_bodies (r, f) v)) := by
  have z : ∀ {α : Type} (o : Option α), zgi a 10 o = o := fun o => zgi_ok o h0 (by omega)
  have hd1 := z_one d (by omega) (by omega)
  have hr1 := z_one r (by omega) (by omega)
  have hd2 := z_one (d + 1) (by omega) (by omega)
  have hr2 := z_one (r + 1) (by omega) (by omega)
  obtain ⟨y, r', f', a1, a2, a3, a4⟩ := y_E v a k w h0 h1 hk hv K n x (d + 1) (r + 1) (upd f r.toNatClampNeg 12) (by omega) (by omega)
  unfold mM_plainTells
  rw [y_s12 (by omega) (by omega) (by omega), y_b12, a1, y_eb _ _ _ _ (by omega) (by omega), Option.bind_some, Option.bind_some, y_ep, a2, Option.bind_some]
  exact ⟨_, r', f', rfl, rfl, by omega, by omega⟩
theorem y_T2 (v : SM) (a k w : Int32) (h0 : 0 ≤ a.toInt) (h1 : a.toInt ≤ 9) (hk : M_kind v a.toNatClampNeg = k) (hv : M_v v a.toNatClampNeg = w) (K : zrg 0 6 k) (n : Nat) (x d r : Int32) (f : Nat → Int32) (hd : 0 ≤ d.toInt ∧ d.toInt ≤ 22) (hr : 0 ≤ r.toInt ∧ r.toInt ≤ 10) : yB 6 r (mA_F (n + 6) 2 2 x d ((r, a), (k, (w, f)))) (mM_plainTells a x (M_put_ran_bodies (r, f) v)) := by
  have z : ∀ {α : Type} (o : Option α), zgi a 10 o = o := fun o => zgi_ok o h0 (by omega)
  have hd1 := z_one d (by omega) (by omega)
  have hr1 := z_one r (by omega) (by omega)
  have hd2 := z_one (d + 1) (by omega) (by omega)
  have hr2 := z_one (r + 1) (by omega) (by omega)
  obtain ⟨y, r', f', a1, a2, a3, a4⟩ := y_E v a k w h0 h1 hk hv K n x (d + 1) (r + 1) (upd f r.toNatClampNeg 12) (by omega) (by omega)
  unfold mM_plainTells
  rw [y_s22 (by omega) (by omega) (by omega), y_b12, a1, y_eb _ _ _ _ (by omega) (by omega), Option.bind_some, Option.bind_some, y_ep, a2, Option.bind_some]
  exact ⟨_, r', f', rfl, rfl, by omega, by omega⟩
theorem y_T4 (v : SM) (a k w : Int32) (h0 : 0 ≤ a.toInt) (h1 : a.toInt ≤ 9) (hk : M_kind v a.toNatClampNeg = k) (hv : M_v v a.toNatClampNeg = w) (K : zrg 0 6 k) (n : Nat) (x d r : Int32) (f : Nat → Int32) (hd : 0 ≤ d.toInt ∧ d.toInt ≤ 22) (hr : 0 ≤ r.toInt ∧ r.toInt ≤ 10) : yB 6 r (mA_F (n + 6) 4 2 x d ((r, a), (k, (w, f)))) (mM_plainTells a x (M_put_ran_bodies (r, f) v)) := by
  have z : ∀ {α : Type} (o : Option α), zgi a 10 o = o := fun o => zgi_ok o h0 (by omega)
  have hd1 := z_one d (by omega) (by omega)
  have hr1 := z_one r (by omega) (by omega)
  have hd2 := z_one (d + 1) (by omega) (by omega)
  have hr2 := z_one (r + 1) (by omega) (by omega)
  obtain ⟨y, r', f', a1, a2, a3, a4⟩ := y_E v a k w h0 h1 hk hv K n x (d + 1) (r + 1) (upd f r.toNatClampNeg 12) (by omega) (by omega)
  unfold mM_plainTells
  rw [y_s42 (by omega) (by omega) (by omega), y_b12, a1, y_eb _ _ _ _ (by omega) (by omega), Option.bind_some, Option.bind_some, y_ep, a2, Option.bind_some]
  exact ⟨_, r', f', rfl, rfl, by omega, by omega⟩
theorem y_L (v : SM) (a k w : Int32) (h0 : 0 ≤ a.toInt) (h1 : a.toInt ≤ 9) (hk : M_kind v a.toNatClampNeg = k) (hv : M_v v a.toNatClampNeg = w) (K : zrg 0 6 k) (n : Nat) (x d r : Int32) (f : Nat → Int32) (hd : 0 ≤ d.toInt ∧ d.toInt ≤ 20) (hr : 0 ≤ r.toInt ∧ r.toInt ≤ 2) : yB 12 r (mA_F (n + 7) k 2 x d ((r, a), (k, (w, f)))) (mM_tellsAct a x (M_put_ran_bodies (r, f) v)) := by
  have z : ∀ {α : Type} (o : Option α), zgi a 10 o = o := fun o => zgi_ok o h0 (by omega)
  have hd1 := z_one d (by omega) (by omega)
  have hr1 := z_one r (by omega) (by omega)
  have hd2 := z_one (d + 1) (by omega) (by omega)
  have hr2 := z_one (r + 1) (by omega) (by omega)
  have Kk := K
  unfold mM_tellsAct mM_tellsAct_J36
  rw [z, y_e1, hk]
  rcases z_kinds K with rfl | rfl | rfl | rfl | rfl | rfl | rfl
  · obtain ⟨y, r', f', a1, a2, a3, a4⟩ := y_T0 v a 0 w h0 h1 hk hv Kk (n + 1) x d r f (by omega) (by omega)
    refine ⟨y, r', f', a1, ?_, by omega, by omega⟩
    show (mM_plainTells a x _).bind _ = _
    rw [a2]
    rfl
  · obtain ⟨y, r', f', a1, a2, a3, a4⟩ := y_T1 v a 1 w h0 h1 hk hv Kk (n + 1) x d r f (by omega) (by omega)
    refine ⟨y, r', f', a1, ?_, by omega, by omega⟩
    show (mM_plainTells a x _).bind _ = _
    rw [a2]
    rfl
  · obtain ⟨y, r', f', a1, a2, a3, a4⟩ := y_T2 v a 2 w h0 h1 hk hv Kk (n + 1) x d r f (by omega) (by omega)
    refine ⟨y, r', f', a1, ?_, by omega, by omega⟩
    show (mM_plainTells a x _).bind _ = _
    rw [a2]
    rfl
  · obtain ⟨y, r', f', a1, a2, a3, a4⟩ := y_T0 v a 3 w h0 h1 hk hv Kk n x (d + 1) (r + 1) (upd f r.toNatClampNeg 40) (by omega) (by omega)
    obtain ⟨z1, r2, f2, b1, b2, b3, b4⟩ := y_E v a 3 w h0 h1 hk hv Kk (n + 1) 1 (d + 1) r' f' (by omega) (by omega)
    rw [y_s32 (by omega) (by omega) (by omega), y_b40, a1, Option.bind_some]
    refine ⟨_, r2, f2, by rw [b1]; rfl, ?_, by omega, by omega⟩
    show (mM_body 40 _).bind _ = _
    rw [y_eb _ _ _ _ (by omega) (by omega), Option.bind_some, y_ep, a2]
    show (mM_seesAct a 1 (M_put_ran_bodies (r', f') v)).bind _ = _
    rw [b2]
    rfl
  · obtain ⟨y, r', f', a1, a2, a3, a4⟩ := y_T4 v a 4 w h0 h1 hk hv Kk (n + 1) x d r f (by omega) (by omega)
    refine ⟨y, r', f', a1, ?_, by omega, by omega⟩
    show (mM_plainTells a x _).bind _ = _
    rw [a2]
    rfl
  · obtain ⟨y, r', f', a1, a2, a3, a4⟩ := y_T2 v a 5 w h0 h1 hk hv Kk n (x - a) (d + 1) (r + 1) (upd f r.toNatClampNeg 60) (by omega) (by omega)
    rw [y_s52 (by omega) (by omega) (by omega), y_b60, a1]
    refine ⟨y, r', f', rfl, ?_, by omega, by omega⟩
    show (mM_body 60 _).bind _ = _
    rw [y_eb _ _ _ _ (by omega) (by omega), Option.bind_some, y_ep, a2]
    rfl
  · obtain ⟨y, r', f', a1, a2, a3, a4⟩ := y_T0 v a 6 w h0 h1 hk hv Kk n x (d + 1) (r + 1) (upd f r.toNatClampNeg 40) (by omega) (by omega)
    obtain ⟨z1, r2, f2, b1, b2, b3, b4⟩ := y_E v a 6 w h0 h1 hk hv Kk (n + 1) 1 (d + 1) r' f' (by omega) (by omega)
    rw [y_s62 (by omega) (by omega) (by omega), y_b40, a1, Option.bind_some]
    refine ⟨_, r2, f2, by rw [b1]; rfl, ?_, by omega, by omega⟩
    show (mM_body 40 _).bind _ = _
    rw [y_eb _ _ _ _ (by omega) (by omega), Option.bind_some, y_ep, a2]
    show (mM_seesAct a 1 (M_put_ran_bodies (r', f') v)).bind _ = _
    rw [b2]
    rfl
theorem y_act1 (v : SM) (a x : Int32) (f : Nat → Int32) (h0 : 0 ≤ a.toInt) (h1 : a.toInt ≤ 9) (k w : Int32) (hk : M_kind v a.toNatClampNeg = k) (hv : M_v v a.toNatClampNeg = w) (K : zrg 0 6 k) : ∃ q, mA_run 0 x ((0, a), (k, (w, f))) = some q ∧ mM_hearsAct a x (M_put_ran_bodies (0, f) v) = some q := by
  obtain ⟨y, r', f', a1, a2, a3, a4⟩ := y_H v a k w h0 h1 hk hv K 10 x 0 0 f (by decide) (by decide)
  exact ⟨_, (y_eta _).trans a1, a2⟩
theorem y_act2 (v : SM) (a x : Int32) (f : Nat → Int32) (h0 : 0 ≤ a.toInt) (h1 : a.toInt ≤ 9) (k w : Int32) (hk : M_kind v a.toNatClampNeg = k) (hv : M_v v a.toNatClampNeg = w) (K : zrg 0 6 k) : ∃ q, mA_run 1 x ((0, a), (k, (w, f))) = some q ∧ mM_seesAct a x (M_put_ran_bodies (0, f) v) = some q := by
  obtain ⟨y, r', f', a1, a2, a3, a4⟩ := y_E v a k w h0 h1 hk hv K 7 x 0 0 f (by decide) (by decide)
  exact ⟨_, (y_eta _).trans a1, a2⟩
theorem y_act3 (v : SM) (a x : Int32) (f : Nat → Int32) (h0 : 0 ≤ a.toInt) (h1 : a.toInt ≤ 9) (k w : Int32) (hk : M_kind v a.toNatClampNeg = k) (hv : M_v v a.toNatClampNeg = w) (K : zrg 0 6 k) : ∃ q, mA_run 2 x ((0, a), (k, (w, f))) = some q ∧ mM_tellsAct a x (M_put_ran_bodies (0, f) v) = some q := by
  obtain ⟨y, r', f', a1, a2, a3, a4⟩ := y_L v a k w h0 h1 hk hv K 5 x 0 0 f (by decide) (by decide)
  exact ⟨_, (y_eta _).trans a1, a2⟩
theorem pS_act : zS_act Rel := by
  intro x1 x2 x3 u v R
  obtain ⟨R1, R2, R3, R4, R5, R6, R7, R8, R9⟩ := id R
  have hx : ∀ (q : Int32 × (Nat → Int32)), Rel (V_put_acting (B_ofA q) u) (M_put_ran_bodies q v) := fun q => ⟨R1, R2, R3, R4, R5, R6, rfl, R8, R9⟩
  have h0 : Rel (V_put_acting (B_put_ran 0 (V_acting u)) u) (M_put_ran_bodies (0, M_bodies v) v) := ⟨R1, R2, R3, R4, R5, R6, by unfold Ql_act at R7 ⊢; show B_put_ran 0 (V_acting u) = (0, M_bodies v); rw [R7]; rfl, R8, R9⟩
  unfold mV_act mM_act
  have hz : mM_isVoice x1 (M_put_ran_bodies (0, M_bodies v) v) = mM_isVoice x1 v := rfl
  rw [hz]
  rcases z_voice R x1 with ⟨a, b⟩ | ⟨a, b, c, d, e, f, g⟩
  · rw [a, if_pos b]
    exact ⟨0, _, _, rfl, rfl, h0⟩
  · rw [a, if_neg b]
    show ∃ r w1 w2, (if x2 < 0 then some ((0 : Int32), B_put_ran 0 (V_acting u)) else if x2 ≤ 2 then zgk x1.toInt.toNat (V_nv u) ((mA_run x2 x3 (V_toA (V_put_acting (B_put_ran 0 (V_acting u)) u) x1.toInt.toNat)).bind fun q4 => some (q4.1, B_ofA q4.2)) else some (0, B_put_ran 0 (V_acting u))) = some (r, w1) ∧ _ ∧ _
    have e5 : V_toA (V_put_acting (B_put_ran 0 (V_acting u)) u) x1.toInt.toNat = ((0, x1), (M_kind v x1.toInt.toNat, (M_v v x1.toInt.toNat, M_bodies v))) := by
      show ((B_ran (B_put_ran 0 (V_acting u)), O_number (V_vo u x1.toInt.toNat)), (O_kind (V_vo u x1.toInt.toNat), (O_v (V_vo u x1.toInt.toNat), B_bodies (B_put_ran 0 (V_acting u))))) = _
      rw [e, R7]
      rfl
    rw [e5, zgk_ok _ d]
    (try simp only [z_in0, z_isPlaceM, z_isPlaceN, z_isLetterN, z_isTenthN, z_isTapeN, z_isTapeM]); (try simp only [Int32.lt_iff_toInt_lt, Int32.le_iff_toInt_le, ← Int32.toInt_inj, Int32.reduceToInt, Int64.reduceToInt])
    by_cases h : x2.toInt < 0 ∨ 2 < x2.toInt
    · rw [if_pos h]
      refine ⟨0, _, _, ?_, rfl, h0⟩
      by_cases h' : x2.toInt < 0
      · rw [if_pos h']
      · rw [if_neg h', if_neg (by omega)]
    · rw [if_neg h, if_neg (by omega), if_pos (by omega)]
      by_cases h2 : x2.toInt = 0
      · obtain rfl : x2 = 0 := Int32.toInt_inj.mp h2
        obtain ⟨q, q1, q2⟩ := y_act1 v x1 x3 (M_bodies v) c.1 c.2 _ _ rfl rfl f
        rw [z_nat] at q1
        rw [q1, if_pos h2, q2]
        exact ⟨_, _, _, rfl, rfl, hx q.2⟩
      · rw [if_neg h2]
        by_cases h3 : x2.toInt = 1
        · obtain rfl : x2 = 1 := Int32.toInt_inj.mp h3
          obtain ⟨q, q1, q2⟩ := y_act2 v x1 x3 (M_bodies v) c.1 c.2 _ _ rfl rfl f
          rw [z_nat] at q1
          rw [q1, if_pos h3, q2]
          exact ⟨_, _, _, rfl, rfl, hx q.2⟩
        · rw [if_neg h3]
          obtain rfl : x2 = 2 := Int32.toInt_inj.mp (by simp only [Int32.reduceToInt]; omega)
          obtain ⟨q, q1, q2⟩ := y_act3 v x1 x3 (M_bodies v) c.1 c.2 _ _ rfl rfl f
          rw [z_nat] at q1
          rw [q1, q2]
          exact ⟨_, _, _, rfl, rfl, hx q.2⟩
