/-! 09.P28: the E of the reference, step by step -/
/-- what waits, the newest first -/
def zwt (f : Nat → Int32) (W : List Int32) : Prop := ∀ k (h : k < W.length), f (W.length - 1 - k) = W[k]
theorem zwt_push {f : Nat → Int32} {W : List Int32} (h : zwt f W) (x : Int32) : zwt (upd f W.length x) (x :: W) := by
  intro k hk
  rw [List.length_cons] at hk ⊢
  cases k with
  | zero => exact upd_eq f W.length x
  | succ k =>
    rw [upd_ne _ _ (by omega), List.getElem_cons_succ, ← h k (by omega), show W.length + 1 - 1 - (k + 1) = W.length - 1 - k by omega]
theorem zwt_top {f : Nat → Int32} {x : Int32} {W : List Int32} (h : zwt f (x :: W)) : f W.length = x := by
  have := h 0 (by rw [List.length_cons]; omega)
  exact this
theorem zwt_tl {f : Nat → Int32} {x : Int32} {W : List Int32} (h : zwt f (x :: W)) : zwt f W := by
  intro k hk
  have this : f (W.length + 1 - 1 - (k + 1)) = W[k] := h (k + 1) (by rw [List.length_cons]; omega)
  rw [show W.length + 1 - 1 - (k + 1) = W.length - 1 - k by omega] at this
  exact this
def zop : List Int32 → Nat
  | [] => 0
  | x :: W => if x = 33 ∨ x = 40 then zop W + 1 else zop W
/-- the ! that wait on top: they come -/
def zhl : List Int32 → List Int32 × List Int32
  | [] => ([], [])
  | x :: W => if x = 33 then (-33 :: (zhl W).1, (zhl W).2) else ([], x :: W)
/-- the & and | that wait on top: they come -/
def zse (y : Int32) : List Int32 → List Int32 × List Int32
  | [] => ([], [])
  | x :: W => if x = 38 ∨ (x = 124 ∧ ¬ y = 38) then (-x :: (zse y W).1, (zse y W).2) else ([], x :: W)
theorem zhl_len : ∀ W, (zhl W).1.length + (zhl W).2.length = W.length
  | [] => rfl
  | x :: W => by
    rw [zhl]
    by_cases h : x = 33
    · rw [if_pos h]
      have := zhl_len W
      show (-33 :: (zhl W).1).length + (zhl W).2.length = _
      rw [List.length_cons, List.length_cons]
      omega
    · rw [if_neg h]
      exact Nat.zero_add _
theorem zse_len (y : Int32) : ∀ W, (zse y W).1.length + (zse y W).2.length = W.length
  | [] => rfl
  | x :: W => by
    rw [zse]
    by_cases h : x = 38 ∨ (x = 124 ∧ ¬ y = 38)
    · rw [if_pos h]
      have := zse_len y W
      show (-x :: (zse y W).1).length + (zse y W).2.length = _
      rw [List.length_cons, List.length_cons]
      omega
    · rw [if_neg h]
      exact Nat.zero_add _
def MB (b : Nat) (G0 : Nat → Int32) (v : SM) (S W : List Int32) : Prop := (M_signs v).toInt = ((b + S.length : Nat) : Int) ∧ zst (M_sign v) b S ∧ (M_waiting v).toInt = W.length ∧ zwt (M_waits v) W ∧ (M_open v).toInt = zop W ∧ ∀ k, k < b → M_sign v k = G0 k
theorem m_emit {v : SM} {K : Nat} (h : (M_signs v).toInt = K) (hK : K < 500) (x : Int32) : mM_put x v = some (M_signs v + 1, upd (M_sign v) K x) := by
  unfold mM_put
  rw [zgi_ok _ (by omega) (by omega), z_nat, h, Int.toNat_natCast]
theorem m_whole {b : Nat} {G0 : Nat → Int32} : ∀ (W : List Int32) (N : Nat) (v : SM) (S : List Int32), W.length < N → b + S.length + W.length ≤ 500 → W.length ≤ 101 → MB b G0 v S W → ∃ (s w o : Int32) (g : Nat → Int32), mM_whole_L0 N v = some (s, (w, (o, g))) ∧ MB b G0 (M_put_signs_waiting_open_sign (s, (w, (o, g))) v) (S ++ (zhl W).1) (zhl W).2
  | [], N, v, S, hN, h5, h1, H => by
    obtain ⟨N, rfl⟩ : ∃ M, N = M + 1 := ⟨N - 1, by omega⟩
    obtain ⟨e1, e2, e3, e4, e5, e6⟩ := id H
    rw [List.length_nil] at e3
    refine ⟨M_signs v, M_waiting v, M_open v, M_sign v, ?_, ?_⟩
    · rw [mM_whole_L0, if_pos (by (try simp only [z_in0, z_isPlaceM, z_isPlaceN, z_isLetterN, z_isTenthN, z_isTapeN, z_isTapeM]); (try simp only [Int32.lt_iff_toInt_lt, Int32.le_iff_toInt_le, ← Int32.toInt_inj, Int32.reduceToInt, Int64.reduceToInt]); omega)]
    · rw [zhl, List.append_nil]
      exact H
  | x :: W, N, v, S, hN, h5, h1, H => by
    obtain ⟨N, rfl⟩ : ∃ M, N = M + 1 := ⟨N - 1, by omega⟩
    obtain ⟨e1, e2, e3, e4, e5, e6⟩ := id H
    rw [List.length_cons] at e3 hN h5 h1
    have w1 : (M_waiting v - 1).toInt = W.length := by rw [z_sub1 (by omega)]; omega
    have ht : M_waits v (M_waiting v - 1).toNatClampNeg = x := by rw [z_nat, w1, Int.toNat_natCast]; exact zwt_top e4
    by_cases hx : x = 33
    · have o1 : (M_open v - 1).toInt = zop W := by
        rw [zop, if_pos (Or.inl hx)] at e5
        rw [z_sub1 (by omega)]
        omega
      have H' : MB b G0 (M_put_signs_waiting_open_sign (M_signs v + 1, (M_waiting v - 1, (M_open v - 1, upd (M_sign v) (b + S.length) (-33)))) v) (S ++ [-33]) W := by
        refine ⟨?_, zst_upd e2 _, w1, zwt_tl e4, o1, fun k hk => (upd_ne _ _ (by omega)).trans (e6 k hk)⟩
        show (M_signs v + 1).toInt = _
        rw [z_one _ (by omega) (by omega), e1, List.length_append, List.length_singleton]
        omega
      obtain ⟨s, w, o, g, i1, i2⟩ := m_whole W N _ (S ++ [-33]) (by omega) (by rw [List.length_append, List.length_singleton]; omega) (by omega) H'
      refine ⟨s, w, o, g, ?_, ?_⟩
      · rw [mM_whole_L0, if_neg (by (try simp only [z_in0, z_isPlaceM, z_isPlaceN, z_isLetterN, z_isTenthN, z_isTapeN, z_isTapeM]); (try simp only [Int32.lt_iff_toInt_lt, Int32.le_iff_toInt_le, ← Int32.toInt_inj, Int32.reduceToInt, Int64.reduceToInt]); omega), zgi_ok _ (by omega) (by omega), ht, if_pos hx]
        exact z_bq (m_emit e1 (by omega) _) i1
      · rw [zhl, if_pos hx, List.append_cons]
        exact i2
    · refine ⟨M_signs v, M_waiting v, M_open v, M_sign v, ?_, ?_⟩
      · rw [mM_whole_L0, if_neg (by (try simp only [z_in0, z_isPlaceM, z_isPlaceN, z_isLetterN, z_isTenthN, z_isTapeN, z_isTapeM]); (try simp only [Int32.lt_iff_toInt_lt, Int32.le_iff_toInt_le, ← Int32.toInt_inj, Int32.reduceToInt, Int64.reduceToInt]); omega), zgi_ok _ (by omega) (by omega), ht, if_neg hx]
      · rw [zhl, if_neg hx, List.append_nil]
        exact H
theorem m_settle {b : Nat} {G0 : Nat → Int32} {y : Int32} : ∀ (W : List Int32) (N : Nat) (v : SM) (S : List Int32), W.length < N → b + S.length + W.length ≤ 500 → W.length ≤ 101 → MB b G0 v S W → ∃ (s w : Int32) (g : Nat → Int32), mM_settle_L0 y N v = some (s, (w, g)) ∧ MB b G0 (M_put_signs_waiting_sign (s, (w, g)) v) (S ++ (zse y W).1) (zse y W).2
  | [], N, v, S, hN, h5, h1, H => by
    obtain ⟨N, rfl⟩ : ∃ M, N = M + 1 := ⟨N - 1, by omega⟩
    obtain ⟨e1, e2, e3, e4, e5, e6⟩ := id H
    rw [List.length_nil] at e3
    refine ⟨M_signs v, M_waiting v, M_sign v, ?_, ?_⟩
    · rw [mM_settle_L0, if_pos (by (try simp only [z_in0, z_isPlaceM, z_isPlaceN, z_isLetterN, z_isTenthN, z_isTapeN, z_isTapeM]); (try simp only [Int32.lt_iff_toInt_lt, Int32.le_iff_toInt_le, ← Int32.toInt_inj, Int32.reduceToInt, Int64.reduceToInt]); omega)]
    · rw [zse, List.append_nil]
      exact H
  | x :: W, N, v, S, hN, h5, h1, H => by
    obtain ⟨N, rfl⟩ : ∃ M, N = M + 1 := ⟨N - 1, by omega⟩
    obtain ⟨e1, e2, e3, e4, e5, e6⟩ := id H
    rw [List.length_cons] at e3 hN h5 h1
    have w1 : (M_waiting v - 1).toInt = W.length := by rw [z_sub1 (by omega)]; omega
    have ht : M_waits v (M_waiting v - 1).toNatClampNeg = x := by rw [z_nat, w1, Int.toNat_natCast]; exact zwt_top e4
    by_cases hx : x = 38 ∨ (x = 124 ∧ ¬ y = 38)
    · have o1 : (M_open v).toInt = zop W := by
        rw [zop, if_neg (by rcases hx with rfl | ⟨rfl, _⟩ <;> decide)] at e5
        exact e5
      have H' : MB b G0 (M_put_signs_waiting_sign (M_signs v + 1, (M_waiting v - 1, upd (M_sign v) (b + S.length) (-x))) v) (S ++ [-x]) W := by
        refine ⟨?_, zst_upd e2 _, w1, zwt_tl e4, o1, fun k hk => (upd_ne _ _ (by omega)).trans (e6 k hk)⟩
        show (M_signs v + 1).toInt = _
        rw [z_one _ (by omega) (by omega), e1, List.length_append, List.length_singleton]
        omega
      obtain ⟨s, w, g, i1, i2⟩ := m_settle W N _ (S ++ [-x]) (by omega) (by rw [List.length_append, List.length_singleton]; omega) (by omega) H'
      have key : mM_settle_J45 (mM_settle_L0 y N) y v = some (s, (w, g)) := by
        unfold mM_settle_J45
        rw [zgi_ok _ (by omega) (by omega), ht]
        exact z_bq (m_emit (v := M_put_signs_waiting_sign (M_signs v, (M_waiting v - 1, M_sign v)) v) e1 (by omega) _) i1
      refine ⟨s, w, g, ?_, ?_⟩
      · rw [mM_settle_L0, if_neg (by (try simp only [z_in0, z_isPlaceM, z_isPlaceN, z_isLetterN, z_isTenthN, z_isTapeN, z_isTapeM]); (try simp only [Int32.lt_iff_toInt_lt, Int32.le_iff_toInt_le, ← Int32.toInt_inj, Int32.reduceToInt, Int64.reduceToInt]); omega), zgi_ok _ (by omega) (by omega), ht]
        by_cases h38 : x = 38
        · rw [if_pos h38]
          exact key
        · rw [if_neg h38, zgi_ok _ (by omega) (by omega), if_pos (hx.resolve_left h38).1, if_neg (hx.resolve_left h38).2]
          exact key
      · rw [zse, if_pos hx, List.append_cons]
        exact i2
    · refine ⟨M_signs v, M_waiting v, M_sign v, ?_, ?_⟩
      · rw [mM_settle_L0, if_neg (by (try simp only [z_in0, z_isPlaceM, z_isPlaceN, z_isLetterN, z_isTenthN, z_isTapeN, z_isTapeM]); (try simp only [Int32.lt_iff_toInt_lt, Int32.le_iff_toInt_le, ← Int32.toInt_inj, Int32.reduceToInt, Int64.reduceToInt]); omega), zgi_ok _ (by omega) (by omega), ht, if_neg (fun e => hx (Or.inl e)), zgi_ok _ (by omega) (by omega)]
        by_cases h124 : x = 124
        · rw [if_pos h124, if_pos (Classical.byContradiction fun q => hx (Or.inr ⟨h124, q⟩))]
        · rw [if_neg h124]
      · rw [zse, if_neg hx, List.append_nil]
        exact H
abbrev ZT : Type := Int32 × Int32 × Int32 × Int32 × Int32 × (Nat → Int32) × (Nat → Int32) × (Nat → Int32) × (Nat → Int32)
def MS (n f b : Nat) (c : Nat → Int) (x1 : Int32) (F0 T0 G0 : Nat → Int32) (v : SM) (a : Nat) (S W : List Int32) : Prop := TM v n c ∧ (M_at v).toInt = a ∧ MB b G0 v S W ∧ (a ≤ n ∧ f ≤ 4 ∧ 100 * f ≤ b ∧ b + S.length + W.length ≤ 100 * f + a) ∧ M_from v = F0 ∧ ∀ k, k ≠ x1.toInt.toNat → M_to v k = T0 k
/-- what a reading leaves, good or not -/
def zfr (b : Nat) (x1 : Int32) (F0 T0 G0 : Nat → Int32) (w : ZT) : Prop := w.2.2.2.2.2.1 = F0 ∧ (∀ k, k ≠ x1.toInt.toNat → w.2.2.2.2.2.2.1 k = T0 k) ∧ ∀ k, k < b → w.2.2.2.2.2.2.2.1 k = G0 k
def MFl (b : Nat) (x1 : Int32) (F0 T0 G0 : Nat → Int32) (o : Option (Int32 × ZT)) (a : Nat) : Prop := ∃ w : ZT, o = some (0, w) ∧ w.1.toInt = a ∧ zfr b x1 F0 T0 G0 w
theorem e_in {n f b : Nat} {c : Nat → Int} {x1 : Int32} {F0 T0 G0 : Nat → Int32} {v : SM} {a : Nat} {S W : List Int32} (h : MS n f b c x1 F0 T0 G0 v a S W) (x : Int32) (hx : x = 33 ∨ x = 40) (hc : c a = x.toInt) (han : a < n) (N : Nat) (ho : zop W < 4) : ∃ v', mM_takesE_L22 x1 (N + 1) 1 v = mM_takesE_L22 x1 N 1 v' ∧ MS n f b c x1 F0 T0 G0 v' (a + 1) S (x :: W) := by
  obtain ⟨hT, ha, hB, ⟨b1, b2, b3, b4⟩, hF, hTo⟩ := h
  obtain ⟨e1, e2, e3, e4, e5, e6⟩ := id hB
  have h100 := hT.2.1
  obtain ⟨r, r1, r2⟩ := m_next hT ha
  have hr : r = x := Int32.toInt_inj.mp (r2.trans hc)
  rw [hr] at r1
  refine ⟨M_put_at_digits_signs_waiting_open_from_to_sign_waits (M_at v + 1, (M_digits v, (M_signs v, (M_waiting v + 1, (M_open v + 1, (M_from v, (M_to v, (M_sign v, upd (M_waits v) W.length x)))))))) v, ?_, hT, ?_, ⟨e1, e2, ?_, zwt_push e4 x, ?_, e6⟩, ⟨by omega, b2, b3, by rw [List.length_cons]; omega⟩, hF, hTo⟩
  · have key : mM_takesE_J43 (mM_takesE_L22 x1 N) x1 1 x v = mM_takesE_L22 x1 N 1 (M_put_at_digits_signs_waiting_open_from_to_sign_waits (M_at v + 1, (M_digits v, (M_signs v, (M_waiting v + 1, (M_open v + 1, (M_from v, (M_to v, (M_sign v, upd (M_waits v) W.length x)))))))) v) := by
      unfold mM_takesE_J43
      rw [if_neg (by (try simp only [z_in0, z_isPlaceM, z_isPlaceN, z_isLetterN, z_isTenthN, z_isTapeN, z_isTapeM]); (try simp only [Int32.lt_iff_toInt_lt, Int32.le_iff_toInt_le, ← Int32.toInt_inj, Int32.reduceToInt, Int64.reduceToInt]); omega), zgi_ok _ (by omega) (by omega), z_nat, e3, Int.toNat_natCast]
    rw [mM_takesE_L22]
    refine z_bq r1 ?_
    rw [if_neg (show ¬ (1 : Int32) = 0 by decide)]
    rcases hx with hx | hx
    · rw [if_pos hx]
      exact key
    · rw [if_neg (by rw [hx]; decide), if_pos hx]
      exact key
  · show (M_at v + 1).toInt = _
    rw [z_one _ (by omega) (by omega), ha]
    rfl
  · show (M_waiting v + 1).toInt = _
    rw [z_one _ (by omega) (by omega), e3]
    rfl
  · show (M_open v + 1).toInt = _
    rw [z_one _ (by omega) (by omega), e5, zop, if_pos hx]
    rfl
theorem e_in4 {n f b : Nat} {c : Nat → Int} {x1 : Int32} {F0 T0 G0 : Nat → Int32} {v : SM} {a : Nat} {S W : List Int32} (h : MS n f b c x1 F0 T0 G0 v a S W) (hc : c a = 33 ∨ c a = 40) (N : Nat) (ho : zop W = 4) : MFl b x1 F0 T0 G0 (mM_takesE_L22 x1 (N + 1) 1 v) a := by
  obtain ⟨hT, ha, hB, ⟨b1, b2, b3, b4⟩, hF, hTo⟩ := h
  obtain ⟨e1, e2, e3, e4, e5, e6⟩ := id hB
  obtain ⟨r, r1, r2⟩ := m_next hT ha
  refine ⟨(M_at v, (M_digits v, (M_signs v, (M_waiting v, (M_open v, (M_from v, (M_to v, (M_sign v, M_waits v)))))))), ?_, ha, hF, hTo, e6⟩
  have key : mM_takesE_J43 (mM_takesE_L22 x1 N) x1 1 r v = some (0, (M_at v, (M_digits v, (M_signs v, (M_waiting v, (M_open v, (M_from v, (M_to v, (M_sign v, M_waits v))))))))) := by
    unfold mM_takesE_J43
    rw [if_pos (by (try simp only [z_in0, z_isPlaceM, z_isPlaceN, z_isLetterN, z_isTenthN, z_isTapeN, z_isTapeM]); (try simp only [Int32.lt_iff_toInt_lt, Int32.le_iff_toInt_le, ← Int32.toInt_inj, Int32.reduceToInt, Int64.reduceToInt]); omega)]
  rw [mM_takesE_L22]
  refine z_bq r1 ?_
  rw [if_neg (show ¬ (1 : Int32) = 0 by decide)]
  by_cases d : r = 33
  · rw [if_pos d]
    exact key
  · have d4 : r = 40 := by
      rcases hc with hc | hc
      · exact absurd (Int32.toInt_inj.mp (r2.trans (hc.trans (by decide)))) d
      · exact Int32.toInt_inj.mp (r2.trans (hc.trans (by decide)))
    rw [if_neg d, if_pos d4]
    exact key
theorem e_op {n f b : Nat} {c : Nat → Int} {x1 : Int32} {F0 T0 G0 : Nat → Int32} {v : SM} {a : Nat} {S W : List Int32} (h : MS n f b c x1 F0 T0 G0 v a S W) (x : Int32) (hx : x = 38 ∨ x = 124) (hc : c a = x.toInt) (han : a < n) (N : Nat) : ∃ v', mM_takesE_L22 x1 (N + 1) 0 v = mM_takesE_L22 x1 N 1 v' ∧ MS n f b c x1 F0 T0 G0 v' (a + 1) (S ++ (zse x W).1) (x :: (zse x W).2) := by
  obtain ⟨hT, ha, hB, ⟨b1, b2, b3, b4⟩, hF, hTo⟩ := h
  have h100 := hT.2.1
  obtain ⟨r, r1, r2⟩ := m_next hT ha
  have hr : r = x := Int32.toInt_inj.mp (r2.trans hc)
  rw [hr] at r1
  obtain ⟨s, w, g, i1, i2⟩ := m_settle (y := x) W 256 v S (by omega) (by omega) (by omega) hB
  obtain ⟨e1, e2, e3, e4, e5, e6⟩ := id i2
  have hl := zse_len x W
  have e3' : w.toInt = (zse x W).2.length := e3
  refine ⟨M_put_at_digits_signs_waiting_open_from_to_sign_waits (M_at v + 1, (M_digits v, (s, (w + 1, (M_open v, (M_from v, (M_to v, (g, upd (M_waits v) (zse x W).2.length x)))))))) v, ?_, hT, ?_, ⟨e1, e2, ?_, zwt_push e4 x, ?_, e6⟩, ⟨by omega, b2, b3, ?_⟩, hF, hTo⟩
  · have key : mM_takesE_J122 (mM_takesE_L22 x1 N) x1 x v = mM_takesE_L22 x1 N 1 (M_put_at_digits_signs_waiting_open_from_to_sign_waits (M_at v + 1, (M_digits v, (s, (w + 1, (M_open v, (M_from v, (M_to v, (g, upd (M_waits v) (zse x W).2.length x)))))))) v) := by
      unfold mM_takesE_J122
      refine z_bq i1 ?_
      rw [zgi_ok _ (show 0 ≤ w.toInt by omega) (show w.toInt < (101 : Nat) by omega), z_nat, e3', Int.toNat_natCast]
    rw [mM_takesE_L22]
    refine z_bq r1 ?_
    rw [if_pos rfl]
    rcases hx with hx | hx
    · rw [if_pos hx]
      exact key
    · rw [if_neg (by rw [hx]; decide), if_pos hx]
      exact key
  · show (M_at v + 1).toInt = _
    rw [z_one _ (by omega) (by omega), ha]
    rfl
  · show (w + 1).toInt = _
    rw [z_one _ (by omega) (by omega), e3']
    rfl
  · show (M_open v).toInt = _
    rw [zop, if_neg (by rcases hx with rfl | rfl <;> decide)]
    exact e5
  · rw [List.length_cons, List.length_append]
    omega
/-- neither & nor | comes: all that waits of them comes -/
theorem e_end {n f b : Nat} {c : Nat → Int} {x1 : Int32} {F0 T0 G0 : Nat → Int32} {v : SM} {a : Nat} {S W : List Int32} (h : MS n f b c x1 F0 T0 G0 v a S W) (hX : 0 ≤ x1.toInt ∧ x1.toInt < 50) (h38 : ¬ c a = 38) (h124 : ¬ c a = 124) (N : Nat) : ∃ (r s w : Int32) (g : Nat → Int32), r.toInt = c a ∧ MB b G0 (M_put_signs_waiting_sign (s, (w, g)) v) (S ++ (zse 124 W).1) (zse 124 W).2 ∧ mM_takesE_L22 x1 (N + 1) 0 v = (if w = 0 then (some ((1 : Int32), ((M_at v), (M_digits v), s, w, (M_open v), (M_from v), (upd (M_to v) x1.toInt.toNat s), g, (M_waits v)))) else (if r = (41 : Int32) then ((mM_whole (M_put_at_digits_signs_waiting_open_from_to_sign_waits (((M_at v) + (1 : Int32)), (M_digits v), s, (w - (1 : Int32)), ((M_open v) - (1 : Int32)), (M_from v), (upd (M_to v) x1.toInt.toNat s), g, (M_waits v)) v)).bind fun q4 => (mM_takesE_L22 x1 N 0 (M_put_at_digits_signs_waiting_open_from_to_sign_waits (((M_at v) + (1 : Int32)), (M_digits v), q4.1, q4.2.1, q4.2.2.1, (M_from v), (upd (M_to v) x1.toInt.toNat s), q4.2.2.2, (M_waits v)) v))) else (some ((0 : Int32), ((M_at v), (M_digits v), s, w, (M_open v), (M_from v), (upd (M_to v) x1.toInt.toNat s), g, (M_waits v)))))) := by
  obtain ⟨hT, ha, hB, ⟨b1, b2, b3, b4⟩, hF, hTo⟩ := h
  have h100 := hT.2.1
  obtain ⟨r, r1, r2⟩ := m_next hT ha
  obtain ⟨s, w, g, i1, i2⟩ := m_settle (y := 124) W 256 v S (by omega) (by omega) (by omega) hB
  refine ⟨r, s, w, g, r2, i2, ?_⟩
  rw [mM_takesE_L22]
  refine z_bq r1 ?_
  rw [if_pos rfl, if_neg (fun e => h38 (by rw [← r2, e]; decide)), if_neg (fun e => h124 (by rw [← r2, e]; decide))]
  refine z_bq i1 ?_
  rw [zgi_ok _ hX.1 (by omega)]
  rfl
theorem e_fin {n f b : Nat} {c : Nat → Int} {x1 : Int32} {F0 T0 G0 : Nat → Int32} {v : SM} {a : Nat} {S W : List Int32} (h : MS n f b c x1 F0 T0 G0 v a S W) (hX : 0 ≤ x1.toInt ∧ x1.toInt < 50) (h38 : ¬ c a = 38) (h124 : ¬ c a = 124) (hW : (zse 124 W).2 = []) (N : Nat) : ∃ w : ZT, mM_takesE_L22 x1 (N + 1) 0 v = some (1, w) ∧ w.1.toInt = a ∧ zfr b x1 F0 T0 G0 w ∧ w.2.2.1.toInt = ((b + (S ++ (zse 124 W).1).length : Nat) : Int) ∧ w.2.2.2.2.2.2.1 x1.toInt.toNat = w.2.2.1 ∧ zst w.2.2.2.2.2.2.2.1 b (S ++ (zse 124 W).1) := by
  obtain ⟨r, s, w, g, h1, ⟨e1, e2, e3, e4, e5, e6⟩, h3⟩ := e_end h hX h38 h124 N
  obtain ⟨hT, ha, hB, ⟨b1, b2, b3, b4⟩, hF, hTo⟩ := h
  rw [hW] at e3
  have hw : w = 0 := Int32.toInt_inj.mp e3
  rw [if_pos hw] at h3
  exact ⟨_, h3, ha, ⟨hF, fun k hk => (upd_ne _ _ hk).trans (hTo k hk), e6⟩, e1, upd_eq _ _ _, e2⟩
theorem e_bad {n f b : Nat} {c : Nat → Int} {x1 : Int32} {F0 T0 G0 : Nat → Int32} {v : SM} {a : Nat} {S W : List Int32} (h : MS n f b c x1 F0 T0 G0 v a S W) (hX : 0 ≤ x1.toInt ∧ x1.toInt < 50) (h38 : ¬ c a = 38) (h124 : ¬ c a = 124) {x : Int32} {W' : List Int32} (hW : (zse 124 W).2 = x :: W') (h41 : ¬ c a = 41) (N : Nat) : MFl b x1 F0 T0 G0 (mM_takesE_L22 x1 (N + 1) 0 v) a := by
  obtain ⟨r, s, w, g, h1, ⟨e1, e2, e3, e4, e5, e6⟩, h3⟩ := e_end h hX h38 h124 N
  obtain ⟨hT, ha, hB, ⟨b1, b2, b3, b4⟩, hF, hTo⟩ := h
  rw [hW, List.length_cons] at e3
  have e3' : w.toInt = ((W'.length + 1 : Nat) : Int) := e3
  have hw : ¬ w = 0 := fun e => by rw [e, show (0 : Int32).toInt = 0 by decide] at e3'; omega
  rw [if_neg hw, if_neg (fun e => h41 (by rw [← h1, e]; decide))] at h3
  exact ⟨_, h3, ha, ⟨hF, fun k hk => (upd_ne _ _ hk).trans (hTo k hk), e6⟩⟩
theorem e_close {n f b : Nat} {c : Nat → Int} {x1 : Int32} {F0 T0 G0 : Nat → Int32} {v : SM} {a : Nat} {S W : List Int32} (h : MS n f b c x1 F0 T0 G0 v a S W) (hX : 0 ≤ x1.toInt ∧ x1.toInt < 50) {W' : List Int32} (hW : (zse 124 W).2 = 40 :: W') (h41 : c a = 41) (han : a < n) (N : Nat) : ∃ v', mM_takesE_L22 x1 (N + 1) 0 v = mM_takesE_L22 x1 N 0 v' ∧ MS n f b c x1 F0 T0 G0 v' (a + 1) (S ++ (zse 124 W).1 ++ (zhl W').1) (zhl W').2 := by
  obtain ⟨r, s, w, g, h1, ⟨e1, e2, e3, e4, e5, e6⟩, h3⟩ := e_end h hX (by omega) (by omega) N
  obtain ⟨hT, ha, hB, ⟨b1, b2, b3, b4⟩, hF, hTo⟩ := h
  have h100 := hT.2.1
  have hl := zse_len 124 W
  have hl2 := zhl_len W'
  rw [hW, List.length_cons] at e3
  rw [hW, List.length_cons] at hl
  rw [hW] at e4 e5
  rw [zop, if_pos (Or.inr rfl)] at e5
  have e3' : w.toInt = ((W'.length + 1 : Nat) : Int) := e3
  have e5' : (M_open v).toInt = ((zop W' + 1 : Nat) : Int) := e5
  have hw : ¬ w = 0 := fun e => by rw [e, show (0 : Int32).toInt = 0 by decide] at e3'; omega
  have hr : r = 41 := Int32.toInt_inj.mp (h1.trans (h41.trans (by decide)))
  rw [if_neg hw, if_pos hr] at h3
  have H' : MB b G0 (M_put_at_digits_signs_waiting_open_from_to_sign_waits (M_at v + 1, (M_digits v, (s, (w - 1, (M_open v - 1, (M_from v, (upd (M_to v) x1.toInt.toNat s, (g, M_waits v)))))))) v) (S ++ (zse 124 W).1) W' := by
    refine ⟨e1, e2, ?_, zwt_tl e4, ?_, e6⟩
    · show (w - 1).toInt = _
      rw [z_sub1 (by omega), e3']
      omega
    · show (M_open v - 1).toInt = _
      rw [z_sub1 (by omega), e5']
      omega
  obtain ⟨s', w', o', g', i1, i2⟩ := m_whole W' 256 _ _ (by omega) (by rw [List.length_append]; omega) (by omega) H'
  refine ⟨M_put_at_digits_signs_waiting_open_from_to_sign_waits (M_at v + 1, (M_digits v, (s', (w', (o', (M_from v, (upd (M_to v) x1.toInt.toNat s, (g', M_waits v)))))))) v, h3.trans (z_bq i1 rfl), hT, ?_, i2, ⟨by omega, b2, b3, ?_⟩, hF, fun k hk => (upd_ne _ _ hk).trans (hTo k hk)⟩
  · show (M_at v + 1).toInt = _
    rw [z_one _ (by omega) (by omega), ha]
    rfl
  · rw [List.length_append, List.length_append]
    omega
