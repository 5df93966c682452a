/-! 09.P12: when THE JAW moves -/
theorem zlast_rg {C : List ZC} (w o : Int32) {lo hi : Int} : ∀ (d : Int32), zrg lo hi d → (∀ c ∈ C, c.1 = w → zrg lo hi c.2.2.1) → zrg lo hi (zlast C w o d) := by
  induction C with
  | nil => intro d h _; exact h
  | cons c C ih =>
    intro d h hc
    show zrg lo hi (zlast C w o (if c.1 = w ∧ c.2.1 = o then c.2.2.1 else d))
    refine ih _ ?_ (fun q hq => hc q (List.mem_cons_of_mem _ hq))
    split
    · next h2 => exact hc c List.mem_cons_self h2.1
    · exact h
/-- how late, as the reference finds it -/
def xL (v : SM) : Int32 := match mM_lateNow v with
  | some r => r
  | none => 0
theorem q_late {u : SV} {v : SM} (R : Rel u v) : mM_lateNow v = some (xL v) ∧ zrg 0 99 (xL v) ∧ ∃ h, mV_holding u = some h ∧ h < 6 ∧ H_late (V_hs u h) = xL v := by
  obtain ⟨C, b, h, c1, c2, c3, c4, c5, c6, ⟨e, c7, c8⟩, c9⟩ := z_cur R
  have h1 : mM_lateNow v = some (zlast C 2 0 1) := by
    unfold mM_lateNow
    rw [m_last c2 c6 c7 c8 c9]
    rfl
  have h2 : xL v = zlast C 2 0 1 := by
    unfold xL
    rw [h1]
  rw [h2]
  exact ⟨h1, zlast_rg _ _ _ ⟨by decide, by decide⟩ (fun c hc _ => (c1.2.2 c hc).2.1), h, c3, c4, c5.2.2.2.1⟩
theorem z_apart {a b : Int32} (ha : 0 ≤ a.toInt) (hb : 0 ≤ b.toInt) : (mM_apart a b).toInt = if b.toInt ≤ a.toInt then a.toInt - b.toInt else b.toInt - a.toInt := by
  have := z_lt a
  have := z_lt b
  unfold mM_apart
  simp only [Int32.le_iff_toInt_le]
  split
  · rw [z_subI (by omega) (by omega)]
  · rw [z_subI (by omega) (by omega)]
/-- in a TENTH near, THE JAW moved so much earlier -/
def zmv (m : Int64) (L b t : Int) (k : Nat) : Bool := decide ((k : Int) - t ≤ L ∧ t - k ≤ L ∧ b ≤ k) && zb m ((k : Int) - b).toNat
theorem z_add0 (y : Int32) : y + 0 = y := by
  rw [← Int32.toInt_inj, Int32.toInt_add]
  have := z_lt y
  simp only [Int32.reduceToInt, Int.bmod_def]
  omega
theorem l_moves {v : SM} {t L b : Int32} (ht : 0 ≤ t.toInt ∧ t.toInt ≤ 39) (hb : 0 ≤ b.toInt ∧ b.toInt ≤ 40) (d : Nat) : ∀ (n i : Nat) (acc x : Int32), i + d = 40 → d < n → x.toInt = i → acc.toInt = zcnt (zmv (M_moves v) L.toInt b.toInt t.toInt) i → ∃ r, mM_movesBy_L37 t L b v n acc x = some r ∧ r.toInt = zcnt (zmv (M_moves v) L.toInt b.toInt t.toInt) 40 := by
  induction d with
  | zero =>
    intro n i acc x h1 h2 h3 h4
    obtain ⟨n, rfl⟩ : ∃ m, n = m + 1 := ⟨n - 1, by omega⟩
    obtain rfl : i = 40 := by omega
    rw [mM_movesBy_L37, if_pos (by (try simp only [z_in0, z_isPlaceM, z_isPlaceN, z_isLetterN, z_isTenthN, z_isTapeN, z_isTapeM]); (try simp only [Int32.lt_iff_toInt_lt, Int32.le_iff_toInt_le, ← Int32.toInt_inj, Int32.reduceToInt, Int64.reduceToInt]); omega)]
    exact ⟨acc, rfl, h4⟩
  | succ d ih =>
    intro n i acc x h1 h2 h3 h4
    obtain ⟨n, rfl⟩ : ∃ m, n = m + 1 := ⟨n - 1, by omega⟩
    have hx := z_one x (by omega) (by omega)
    have hcl := zcnt_le (zmv (M_moves v) L.toInt b.toInt t.toInt) i
    have hac := z_one acc (by omega) (by omega)
    have hap := z_apart (a := x) (b := t) (by omega) (by omega)
    have hs : zcnt (zmv (M_moves v) L.toInt b.toInt t.toInt) (i + 1) = zcnt (zmv (M_moves v) L.toInt b.toInt t.toInt) i + (if zmv (M_moves v) L.toInt b.toInt t.toInt i then 1 else 0) := rfl
    rw [mM_movesBy_L37, if_neg (by (try simp only [z_in0, z_isPlaceM, z_isPlaceN, z_isLetterN, z_isTenthN, z_isTapeN, z_isTapeM]); (try simp only [Int32.lt_iff_toInt_lt, Int32.le_iff_toInt_le, ← Int32.toInt_inj, Int32.reduceToInt, Int64.reduceToInt]); omega)]
    simp only [z_add0]
    by_cases c1 : L.toInt < (mM_apart x t).toInt
    · rw [if_pos (by (try simp only [z_in0, z_isPlaceM, z_isPlaceN, z_isLetterN, z_isTenthN, z_isTapeN, z_isTapeM]); (try simp only [Int32.lt_iff_toInt_lt, Int32.le_iff_toInt_le, ← Int32.toInt_inj, Int32.reduceToInt, Int64.reduceToInt]); exact c1)]
      refine ih n (i + 1) acc (x + 1) (by omega) (by omega) (by omega) ?_
      have : zmv (M_moves v) L.toInt b.toInt t.toInt i = false := by
        unfold zmv
        rw [decide_eq_false (by split at hap <;> omega)]
        rfl
      rw [hs, this]
      simp only [Bool.false_eq_true, if_false]
      omega
    · rw [if_neg (by (try simp only [z_in0, z_isPlaceM, z_isPlaceN, z_isLetterN, z_isTenthN, z_isTapeN, z_isTapeM]); (try simp only [Int32.lt_iff_toInt_lt, Int32.le_iff_toInt_le, ← Int32.toInt_inj, Int32.reduceToInt, Int64.reduceToInt]); exact c1)]
      by_cases c2 : x.toInt < b.toInt
      · rw [if_pos (by (try simp only [z_in0, z_isPlaceM, z_isPlaceN, z_isLetterN, z_isTenthN, z_isTapeN, z_isTapeM]); (try simp only [Int32.lt_iff_toInt_lt, Int32.le_iff_toInt_le, ← Int32.toInt_inj, Int32.reduceToInt, Int64.reduceToInt]); exact c2)]
        refine ih n (i + 1) acc (x + 1) (by omega) (by omega) (by omega) ?_
        have : zmv (M_moves v) L.toInt b.toInt t.toInt i = false := by
          unfold zmv
          rw [decide_eq_false (by omega)]
          rfl
        rw [hs, this]
        simp only [Bool.false_eq_true, if_false]
        omega
      · have hsub : (x - b).toInt = x.toInt - b.toInt := z_subI (by omega) (by omega)
        have hz := zb_ref (n := x - b) (by omega) (by omega) (M_moves v)
        have e2 : zmv (M_moves v) L.toInt b.toInt t.toInt i = zb (M_moves v) (x - b).toInt.toNat := by
          unfold zmv
          rw [decide_eq_true (by split at hap <;> omega), hsub, h3]
          rfl
        rw [if_neg (by (try simp only [z_in0, z_isPlaceM, z_isPlaceN, z_isLetterN, z_isTenthN, z_isTapeN, z_isTapeM]); (try simp only [Int32.lt_iff_toInt_lt, Int32.le_iff_toInt_le, ← Int32.toInt_inj, Int32.reduceToInt, Int64.reduceToInt]); exact c2)]
        by_cases c3 : zb (M_moves v) (x - b).toInt.toNat = true
        · rw [if_pos (by rw [hz]; exact c3)]
          refine ih n (i + 1) (acc + 1) (x + 1) (by omega) (by omega) (by omega) ?_
          rw [hs, e2, c3]
          simp only [if_true]
          omega
        · rw [if_neg (by rw [hz]; exact c3)]
          refine ih n (i + 1) acc (x + 1) (by omega) (by omega) (by omega) ?_
          rw [hs, e2]
          simp only [c3]
          simp
          omega
/-- so much later -/
def xby (v : SM) (a l : Int32) : Int := l.toInt + (if M_kind v a.toInt.toNat = 6 then (M_v v a.toInt.toNat).toInt else 0)
def xN (v : SM) (a t l : Int32) : Nat := zcnt (zmv (M_moves v) (xL v).toInt (xby v a l) t.toInt) 40
theorem xN_le (v : SM) (a t l : Int32) : xN v a t l ≤ 40 := zcnt_le _ _
/-- a voice that is there -/
def zV (u : SV) (v : SM) (a : Int32) : Prop := (0 ≤ a.toInt ∧ a.toInt ≤ 9) ∧ a.toInt.toNat < V_nv u ∧ V_vo u a.toInt.toNat = (a, (M_kind v a.toInt.toNat, M_v v a.toInt.toNat)) ∧ zrg 0 6 (M_kind v a.toInt.toNat) ∧ zrg 0 9 (M_v v a.toInt.toNat)
theorem q_moves {u : SV} {v : SM} (R : Rel u v) {a t l : Int32} (hV : zV u v a) (ht : 0 ≤ t.toInt ∧ t.toInt ≤ 39) (hl : 0 ≤ l.toInt ∧ l.toInt ≤ 20) : ∃ r, mM_movesBy a t l v = some r ∧ r.toInt = xN v a t l := by
  obtain ⟨ha, _, _, hk, hv⟩ := hV
  obtain ⟨q1, q2, _⟩ := q_late R
  unfold zrg at hv
  unfold mM_movesBy
  rw [q1, Option.bind_some, zgi_ok _ ha.1 (by omega), zgi_ok _ ha.1 (by omega), z_add0, z_nat]
  unfold xN xby
  by_cases c : M_kind v a.toInt.toNat = 6
  · have e := z_addI (x := l) (y := M_v v a.toInt.toNat) (by omega) (by omega)
    rw [if_pos c, if_pos c, ← e]
    exact l_moves ht (by omega) 40 256 0 0 0 rfl (by omega) rfl rfl
  · rw [if_neg c, if_neg c, Int.add_zero]
    exact l_moves ht (by omega) 40 256 0 0 0 rfl (by omega) rfl rfl
theorem zb_later {n : Int32} (h0 : 0 ≤ n.toInt) (h1 : n.toInt < 64) (x : Int64) {k : Nat} (hk : k < 40) : zb (mN_later x n) k = (decide (n.toInt ≤ k) && zb x ((k : Int) - n.toInt).toNat) := by
  unfold mN_later
  rw [zb_and, zb_shl h0 h1, zb_all k (by omega), decide_eq_true (show k < 64 by omega), decide_eq_true hk]
  by_cases c : n.toInt ≤ k
  · rw [decide_eq_true c, decide_eq_true (by omega), show ((k : Int) - n.toInt).toNat = k - n.toInt.toNat by omega]
    simp
  · rw [decide_eq_false c, decide_eq_false (by omega)]
    simp
theorem zb_moving {m' m : Int64} {n : Int} (hn : 0 ≤ n) (hm : ∀ k, k < 40 → zb m' k = (decide (n ≤ (k : Int)) && zb m ((k : Int) - n).toNat)) {o kd w : Int32} (hw : 0 ≤ w.toInt ∧ w.toInt ≤ 9) {k : Nat} (hk : k < 40) : zb (mO_movingOf m' (o, (kd, w))) k = (decide (n + (if kd = 6 then w.toInt else 0) ≤ k) && zb m ((k : Int) - (n + (if kd = 6 then w.toInt else 0))).toNat) := by
  show zb (if kd = 6 then mN_later m' w else m') k = _
  by_cases c : kd = 6
  · rw [if_pos c, if_pos c, zb_later hw.1 (by omega) _ hk]
    by_cases d : w.toInt ≤ k
    · rw [decide_eq_true d, hm _ (by omega)]
      have e : ((((k : Int) - w.toInt).toNat : Nat) : Int) = (k : Int) - w.toInt := by omega
      rw [e]
      by_cases f : n + w.toInt ≤ k
      · rw [decide_eq_true f, decide_eq_true (by omega), show (k : Int) - w.toInt - n = (k : Int) - (n + w.toInt) by omega]
        rfl
      · rw [decide_eq_false f, decide_eq_false (by omega)]
        rfl
    · rw [decide_eq_false d, decide_eq_false (by omega)]
      rfl
  · rw [if_neg c, if_neg c, hm k hk, Int.add_zero]
theorem zmax_I (x y : Int32) : (zmax x y).toInt = if x.toInt < y.toInt then y.toInt else x.toInt := by
  unfold zmax
  simp only [Int32.lt_iff_toInt_lt]
  split <;> rfl
theorem zmin_I (x y : Int32) : (zmin x y).toInt = if y.toInt < x.toInt then y.toInt else x.toInt := by
  unfold zmin
  simp only [Int32.lt_iff_toInt_lt]
  split <;> rfl
theorem q_around {u : SV} {v : SM} (R : Rel u v) {t : Int32} (ht : 0 ≤ t.toInt ∧ t.toInt ≤ 39) {x1 m : Int64} {b : Int} (hx : ∀ k, k < 40 → zb x1 k = (decide (b ≤ (k : Int)) && zb m ((k : Int) - b).toNat)) : ∃ Y, mV_movingAround x1 t u = some Y ∧ zcnt (zb Y) 64 = zcnt (zmv m (xL v).toInt b t.toInt) 40 := by
  obtain ⟨q1, q2, h, q3, q4, q5⟩ := q_late R
  unfold zrg at q2
  unfold mV_movingAround
  rw [q3, Option.bind_some, zgk_ok _ q4, q5]
  refine ⟨_, rfl, ?_⟩
  have s1 : (t - xL v).toInt = t.toInt - (xL v).toInt := z_subI (by omega) (by omega)
  have s2 : (t + xL v).toInt = t.toInt + (xL v).toInt := z_addI (by omega) (by omega)
  have s3 := zmax_I 0 (t - xL v)
  have s4 := zmin_I 39 (t + xL v)
  simp only [Int32.reduceToInt] at s3 s4
  generalize zmax 0 (t - xL v) = F at *
  generalize zmin 39 (t + xL v) = G at *
  have f1 : 0 ≤ F.toInt ∧ F.toInt ≤ 39 := by split at s3 <;> omega
  have f2 : F.toInt ≤ G.toInt ∧ G.toInt ≤ 39 := by split at s3 <;> split at s4 <;> omega
  have s5 : (G - F).toInt = G.toInt - F.toInt := z_subI (by omega) (by omega)
  have s6 := z_one (G - F) (by omega) (by omega)
  generalize G - F + 1 = W at *
  have hW : W.toInt = G.toInt - F.toInt + 1 := by omega
  have hY : ∀ j, j < 64 → zb (((x1.toUInt64 >>> (F.toInt64.toUInt64 &&& Int64.toUInt64 63)).toInt64) &&& (((1 : Int64) <<< (W.toInt64 &&& 63)) - 1)) j = (zb x1 (F.toInt.toNat + j) && decide (j < W.toInt.toNat)) := by
    intro j hj
    rw [zb_and, zb_shr (by omega) (by omega), zb_mask (by omega) (by omega) hj]
  generalize (((x1.toUInt64 >>> (F.toInt64.toUInt64 &&& Int64.toUInt64 63)).toInt64) &&& (((1 : Int64) <<< (W.toInt64 &&& 63)) - 1)) = Y at *
  have a1 : zcnt (zb Y) 64 = zcnt (zb Y) W.toInt.toNat + zcnt (fun j => zb Y (W.toInt.toNat + j)) (64 - W.toInt.toNat) := by
    have := zcnt_add (zb Y) W.toInt.toNat (64 - W.toInt.toNat)
    rw [show W.toInt.toNat + (64 - W.toInt.toNat) = 64 by omega] at this
    exact this
  have a2 : zcnt (fun j => zb Y (W.toInt.toNat + j)) (64 - W.toInt.toNat) = 0 := zcnt_none (fun k hk => by rw [hY _ (by omega), decide_eq_false (by omega)]; simp)
  have a3 : zcnt (zmv m (xL v).toInt b t.toInt) 40 = zcnt (zmv m (xL v).toInt b t.toInt) F.toInt.toNat + zcnt (fun j => zmv m (xL v).toInt b t.toInt (F.toInt.toNat + j)) (40 - F.toInt.toNat) := by
    have := zcnt_add (zmv m (xL v).toInt b t.toInt) F.toInt.toNat (40 - F.toInt.toNat)
    rw [show F.toInt.toNat + (40 - F.toInt.toNat) = 40 by omega] at this
    exact this
  have a4 : zcnt (zmv m (xL v).toInt b t.toInt) F.toInt.toNat = 0 := zcnt_none (fun k hk => by
    unfold zmv
    rw [decide_eq_false (by split at s3 <;> omega)]
    rfl)
  have a5 : zcnt (fun j => zmv m (xL v).toInt b t.toInt (F.toInt.toNat + j)) (40 - F.toInt.toNat) = zcnt (fun j => zmv m (xL v).toInt b t.toInt (F.toInt.toNat + j)) W.toInt.toNat + zcnt (fun j => zmv m (xL v).toInt b t.toInt (F.toInt.toNat + (W.toInt.toNat + j))) (40 - F.toInt.toNat - W.toInt.toNat) := by
    have := zcnt_add (fun j => zmv m (xL v).toInt b t.toInt (F.toInt.toNat + j)) W.toInt.toNat (40 - F.toInt.toNat - W.toInt.toNat)
    rw [show W.toInt.toNat + (40 - F.toInt.toNat - W.toInt.toNat) = 40 - F.toInt.toNat by omega] at this
    exact this
  have a6 : zcnt (fun j => zmv m (xL v).toInt b t.toInt (F.toInt.toNat + (W.toInt.toNat + j))) (40 - F.toInt.toNat - W.toInt.toNat) = 0 := zcnt_none (fun k hk => by
    unfold zmv
    rw [decide_eq_false (by split at s4 <;> omega)]
    rfl)
  rw [a1, a2, a3, a4, a5, a6, Nat.zero_add, Nat.add_zero, Nat.add_zero]
  refine zcnt_cg (fun j hj => ?_)
  rw [hY j (by omega), hx _ (by omega), decide_eq_true hj]
  unfold zmv
  by_cases c : b ≤ ((F.toInt.toNat + j : Nat) : Int)
  · rw [decide_eq_true c, decide_eq_true (by split at s3 <;> split at s4 <;> omega)]
    simp
  · rw [decide_eq_false c, decide_eq_false (by omega)]
    simp
theorem q_isMoving {u : SV} {v : SM} (R : Rel u v) {t : Int32} (ht : 0 ≤ t.toInt ∧ t.toInt ≤ 39) {x1 m : Int64} {b : Int} (hx : ∀ k, k < 40 → zb x1 k = (decide (b ≤ (k : Int)) && zb m ((k : Int) - b).toNat)) : mV_isMoving x1 t u = some (ztf (decide (0 < zcnt (zmv m (xL v).toInt b t.toInt) 40))) := by
  obtain ⟨Y, y1, y2⟩ := q_around R ht hx
  unfold mV_isMoving
  rw [y1, Option.bind_some, ← y2]
  simp only [z_lg2]
  by_cases c : Y = 0
  · rw [if_pos c, c, zcnt_none (fun k _ => zb_0 k)]
    rfl
  · rw [if_neg c, decide_eq_true]
    · rfl
    · apply Nat.pos_of_ne_zero
      intro h
      exact c (zb_eq (fun k hk => by rw [zcnt_zero h k hk, zb_0]))
