/-! 09.P15: the look -/
/-- what a look holds -/
def LK (v : SM) (a s t : Int32) (K : SK) : Prop := K_ear K = xE v a s t ∧ K_eye K = xU v 1 a s t ∧ K_sounds K = xS v a (M_jaw v) ∧ K_inReach K = ztf (xM v a s t (M_jaw v)) ∧ K_joined K = ztf (xJ v a s t (M_jaw v) 0) ∧ K_held K = xH v a s t ∧ K_caught K = ztf (xC v a s t)
theorem c_letterIn {u : SV} {v : SM} (R : Rel u v) {a s t : Int32} (ht : 0 ≤ t.toInt ∧ t.toInt ≤ 39) : mS_letterIn t (V_stage u) = some (zfc v a s t 3) := by
  obtain ⟨⟨h1, h2, h3, h4, h5, h6⟩, hw, ⟨r1, r2, r3, r4, r5, r6⟩, hl⟩ := R.1
  have r4' := r4
  unfold zrg at r4'
  have hd : (t / 2).toInt = t.toInt / 2 := z_div (by omega) (by decide)
  unfold mS_letterIn mS_tenthsSaidIn
  rw [h4]
  simp only [Int32.le_iff_toInt_le, z_two r4]
  show _ = some (if 2 * (M_letters v).toInt ≤ t.toInt then 99 else M_letter v (t.toInt / 2).toNat)
  by_cases c : 2 * (M_letters v).toInt ≤ t.toInt
  · rw [if_pos c, if_pos c]
  · rw [if_neg c, if_neg c, zgi_ok _ (by omega) (by omega), z_nat, hd, hw _ (by omega)]
theorem c_hold {v : SM} {a s t : Int32} {u : SV} (R : Rel u v) (hV : zV u v a) (hs : 0 ≤ s.toInt ∧ s.toInt ≤ 7) (ht : 0 ≤ t.toInt ∧ t.toInt ≤ 39) {K : SK} (k1 : K_ear K = xE v a s t) (k2 : K_eye K = xU v 1 a s t) (k3 : K_sounds K = xS v a (M_jaw v)) (k4 : K_joined K = ztf (xJ v a s t (M_jaw v) 0)) : mK_holdBetween (M_mouth v) (M_jaw v) K = some (xH v a s t, ztf (xC v a s t)) := by
  have hm := R.1.2.2.1.1
  have hj := R.1.2.2.1.2.1
  have hE := xE_rg R hV hs ht
  have hH := xH_rg R hV hs ht
  obtain ⟨_, hU, _⟩ := q_unsure R (w := 1) (Or.inr rfl) hV.1 hs ht
  unfold zrg at hE hU hm hj hH
  have e4 := z_addI (x := xE v a s t) (y := xU v 1 a s t) (by omega) (by omega)
  have hz : ∀ {α : Type} (o : Option α), zgz (xE v a s t + xU v 1 a s t) o = o := by
    intro α o
    exact if_neg (fun h => by rw [h] at e4; have : (0 : Int) = (xE v a s t).toInt + (xU v 1 a s t).toInt := e4; omega)
  have key : mK_holdBetween_J42 (M_mouth v) (M_jaw v) (xH v a s t) K = some (xH v a s t, ztf (xC v a s t)) := by
    unfold mK_holdBetween_J42 xC
    rw [q_abs hH.1 hm.1, q_abs hH.1 hj.1]
    simp only [Int32.le_iff_toInt_le]
    by_cases c : (mM_apart (xH v a s t) (M_jaw v)).toInt < (mM_apart (xH v a s t) (M_mouth v)).toInt
    · rw [if_neg (by omega), decide_eq_true c]; rfl
    · rw [if_pos (by omega), decide_eq_false c]; rfl
  unfold mK_holdBetween mK_holdBetween_J38 mK_reach
  rw [k1, k2, k3, k4, hz]
  have hle : ¬ (xE v a s t + xU v 1 a s t ≤ 0) := fun h => by
    have := Int32.le_iff_toInt_le.mp h
    rw [e4] at this
    have : (xE v a s t).toInt + (xU v 1 a s t).toInt ≤ 0 := this
    omega
  rw [if_neg hle]
  unfold xH at key ⊢
  cases hc : xJ v a s t (M_jaw v) 0
  · rw [hc] at key
    exact key
  · rw [hc] at key
    exact key
set_option maxHeartbeats 2000000 in
theorem c_look {u : SV} {v : SM} (R : Rel u v) {a s t : Int32} (hV : zV u v a) (hs : 0 ≤ s.toInt ∧ s.toInt ≤ 7) (ht : 0 ≤ t.toInt ∧ t.toInt ≤ 39) : ∃ K, mV_lookAt a.toInt.toNat s t u = some K ∧ LK v a s t K := by
  obtain ⟨⟨h1, h2, h3, h4, h5, h6⟩, hw, ⟨r1, r2, r3, r4, r5, r6⟩, hl⟩ := R.1
  obtain ⟨⟨f1, f2⟩, f3, f4⟩ := R.2.2.1.2 s.toInt.toNat (by omega)
  have hn : ∀ K : SK, V_nv (V_put_look K u) = V_nv u := fun _ => rfl
  have hh : ∀ K : SK, mV_holding (V_put_look K u) = mV_holding u := fun _ => rfl
  have hvo : ∀ K : SK, V_vo (V_put_look K u) = V_vo u := fun _ => rfl
  have hvs : ∀ K : SK, V_stage (V_put_look K u) = V_stage u := fun _ => rfl
  have hlk : ∀ K : SK, V_look (V_put_look K u) = K := fun _ => rfl
  have hpp : ∀ K K' : SK, V_put_look K (V_put_look K' u) = V_put_look K u := fun _ _ => rfl
  have hR : ∀ K : SK, Rel (V_put_look K u) v := fun _ => R
  have hVK : ∀ K : SK, zV (V_put_look K u) v a := fun _ => hV
  obtain ⟨_, g2, h, g3, g4, g5⟩ := q_unsure R (w := 0) (Or.inl rfl) hV.1 hs ht
  obtain ⟨_, g2', h', g3', g4', g5'⟩ := q_unsure R (w := 1) (Or.inr rfl) hV.1 hs ht
  obtain rfl : h = h' := Option.some.inj (g3.symm.trans g3')
  have hnv := hV.2.1
  have hvoa := hV.2.2.1
  have hk := hV.2.2.2.1
  unfold mV_lookAt
  rw [zgi_ok _ hs.1 (by omega), zgi_ok _ hs.1 (by omega), zgk_ok _ hnv, c_letterIn (a := a) (s := s) R ht, Option.bind_some, z_nat, f1, f2, h1, q_abs f4.1 r1.1, hvoa]
  unfold mK_ask
  rw [zgi_ok _ (by decide) (by decide), zgi_ok _ (by decide) (by decide), zgi_ok _ (by decide) (by decide), zgi_ok _ (by decide) (by decide), zgi_ok _ (by decide) (by decide), Option.bind_some]
  obtain ⟨F, hF⟩ : ∃ F, F = upd (upd (upd (upd (upd (K_facts (V_look u)) ((0 : Int32)).toNatClampNeg (M_far v s.toInt.toNat)) ((1 : Int32)).toNatClampNeg (mM_apart (M_side v s.toInt.toNat) (M_mouth v))) ((2 : Int32)).toNatClampNeg (O_kind (a, (M_kind v a.toInt.toNat, M_v v a.toInt.toNat)))) ((3 : Int32)).toNatClampNeg (zfc v a s t 3)) ((4 : Int32)).toNatClampNeg t := ⟨_, rfl⟩
  rw [← hF]
  have hFk : ∀ k, k < 5 → F k = zfc v a s t k := by
    intro k hk
    have : k = 0 ∨ k = 1 ∨ k = 2 ∨ k = 3 ∨ k = 4 := by omega
    rw [hF]
    rcases this with rfl | rfl | rfl | rfl | rfl <;> rfl
  simp only [hh, hn, g3, Option.bind_some, zgk_ok _ g4, zgk_ok _ hnv]
  rw [g5 (V_toHF (V_put_look (K_put_facts F (V_look u)) u) h) hFk ⟨rfl, rfl, rfl, rfl, rfl⟩, Option.bind_some, c_ear hk, Option.bind_some]
  rw [show (if M_kind v a.toInt.toNat = 2 ∨ M_kind v a.toInt.toNat = 5 then xU v 0 a s t + M_v v a.toInt.toNat else if M_kind v a.toInt.toNat = 3 ∨ M_kind v a.toInt.toNat = 6 then 2 * xU v 0 a s t else xU v 0 a s t) = xE v a s t from rfl]
  rw [g5' (V_toHF (V_put_look (K_set_ear (xE v a s t) (K_put_facts F (V_look u))) u) h) hFk ⟨rfl, rfl, rfl, rfl, rfl⟩, Option.bind_some, h2, c_sounds hV r1 r2, Option.bind_some]
  obtain ⟨K, hK⟩ : ∃ K, K = K_set_sounds (xS v a (M_jaw v)) (K_set_eye (xU v 1 a s t) (K_set_ear (xE v a s t) (K_put_facts F (V_look u)))) := ⟨_, rfl⟩
  rw [← hK]
  have k1 : K_ear K = xE v a s t := by rw [hK]; rfl
  have k2 : K_eye K = xU v 1 a s t := by rw [hK]; rfl
  have k3 : K_sounds K = xS v a (M_jaw v) := by rw [hK]; rfl
  rw [c_canJoin (hR K) (hVK K) ht, Option.bind_some]
  have hS := xS_rg hV r1 r2
  have hE := xE_rg R hV hs ht
  unfold zrg at hE g2'
  have e4 := z_addI (x := xE v a s t) (y := xU v 1 a s t) (by omega) (by omega)
  have step : ∀ b : Bool, b = xM v a s t (M_jaw v) → ∃ K', mV_lookAt_J166 a.toInt.toNat t (ztf b) (V_put_look K u) = some K' ∧ LK v a s t K' := by
    rintro b rfl
    unfold mV_lookAt_J166 mV_lookAt_J206
    rw [zgb_tf]
    simp only [hlk, hpp, hn, hvs, hvo]
    have hq : ∀ K' : SK, mV_isMoving (mO_movingOf (S_moving (V_stage u)) (V_vo u a.toInt.toNat)) t (V_put_look K' u) = some (ztf (decide (0 < xN v a t 0))) := by
      intro K'
      rw [h3, hvoa]
      have hb := q_isMoving (hR K') ht (m := M_moves v) (b := 0 + (if M_kind v a.toInt.toNat = 6 then (M_v v a.toInt.toNat).toInt else 0)) (fun k hk => zb_moving (m' := M_moves v) (m := M_moves v) (n := 0) (o := a) (kd := M_kind v a.toInt.toNat) (w := M_v v a.toInt.toNat) (by omega) (fun k hk => by rw [decide_eq_true (by omega)]; simp) hV.2.2.2.2 hk)
      rw [hb]
      unfold xN xby
      rfl
    have fin : ∀ c : Bool, c = xJ v a s t (M_jaw v) 0 → ∃ K', mV_lookAt_J207 a.toInt.toNat (ztf c) (V_put_look (K_set_inReach (ztf (xM v a s t (M_jaw v))) K) u) = some K' ∧ LK v a s t K' := by
      rintro c rfl
      unfold mV_lookAt_J207
      rw [zgb_tf]
      simp only [hlk, hvs, h1, h2]
      rw [c_hold R hV hs ht (K := K_set_joined (ztf (xJ v a s t (M_jaw v) 0)) (K_set_inReach (ztf (xM v a s t (M_jaw v))) K)) k1 k2 k3 rfl, Option.bind_some]
      exact ⟨_, rfl, k1, k2, k3, rfl, rfl, rfl, rfl⟩
    show ∃ K', (if ztf (xM v a s t (M_jaw v)) = 0 then _ else _) = _ ∧ _
    simp only [hq, zgk_ok _ hnv, Option.bind_some]
    cases hc : xM v a s t (M_jaw v)
    · rw [if_pos (show ztf false = 0 from rfl), ← hc]
      exact fin false (by unfold xJ; rw [hc]; rfl)
    · rw [if_neg (show ¬ ztf true = 0 by decide), ← hc]
      cases hd : decide (0 < xN v a t 0)
      · rw [if_pos (show ztf false = 0 from rfl)]
        exact fin false (by unfold xJ; rw [hc, hd]; rfl)
      · rw [if_neg (show ¬ ztf true = 0 by decide)]
        exact fin true (by unfold xJ; rw [hc, hd]; rfl)
  cases hA : xA v a t
  · rw [if_pos (show ztf false = 0 from rfl)]
    exact step false (by unfold xM; rw [hA]; rfl)
  · rw [if_neg (show ¬ ztf true = 0 by decide)]
    unfold mK_reach
    rw [k1, k2, k3, q_abs r2.1 hS.1]
    simp only [Int32.lt_iff_toInt_lt, e4]
    by_cases c : (xE v a s t).toInt + (xU v 1 a s t).toInt < (mM_apart (M_jaw v) (xS v a (M_jaw v))).toInt
    · rw [if_pos c]
      exact step false (by unfold xM xR; rw [hA, decide_eq_false (by omega)]; rfl)
    · rw [if_neg c]
      exact step true (by unfold xM xR; rw [hA, decide_eq_true (by omega)]; rfl)
