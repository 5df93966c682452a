def mV_isMovingThroughout_L3 (x1 : Int64) (x3 : Int32) (u : SV) : Nat → Int32 → Option Int32
  | 0, _ => none
  | n + 1, x4 => if x3 ≤ x4 then (some (1 : Int32)) else ((mV_isMoving x1 x4 u).bind fun q1 => (if q1 = 0 then (some (0 : Int32)) else (mV_isMovingThroughout_L3 x1 x3 u n (x4 + (1 : Int32)))))
set_option maxRecDepth 100000 in
set_option maxHeartbeats 4000000 in
theorem lV_isMovingThroughout_3 {l : Launch} {D : va_G} {cA : Nat → ClassId} {ad : Nat → Nat} {p : Program} {e : Env} {s : State} {m : MethodId} {args : Array Value} {below : List Frame} {meth : Method} {c : Code} {tK tB : Nat} {kS vS : Nat → Nat} {vT : Value} {vH : Value} {vA : Value} {r : Int32}  {x1 : Int64} {x3 : Int32} {u : SV} (hI : zInj ad 80) (hC : zC p s m args meth c cX7_isMovingThroughout 5 RX7 zTS D (zTy cA) zA0 (zE tK tB kS vS)) (hr : meth.sig.returnType = (some .boolean)) : ∀ (n : Nat) (x4 : Int32), mV_isMovingThroughout_L3 x1 x3 u n x4 = some r → zG p l e (zRm 3) s m args below meth c 5 D zA0 (MQ below (zQi r zB0 zA0) args s 0 0 zA0) (wV cA ad vT vH vA u) [(0, .ref (ad 0)), (1, .long x1), (3, .int x3), (4, .int x4)] 3 [] := by
  intro n
  induction n with
  | zero => intro x4 hm; exact z_none hm
  | succ n ih =>
    intro x4 hm
    rw [mV_isMovingThroughout_L3] at hm
    refine z_iload hC dX7_isMovingThroughout_3 3 rfl ?_
    refine z_iload_n hC dX7_isMovingThroughout_5 rfl 2 rfl ?_
    refine z_icmp_ge (tgt := 27) hC hm dX7_isMovingThroughout_6 (by decide) (fun hm => ?_) (fun hm => ?_)
    · refine z_iconst hC dX7_isMovingThroughout_27 kI_1 ?_
      exact z_iret hC hr rfl dX7_isMovingThroughout_28 (fun _ _ => trivial) (Option.some.inj hm)
    · refine z_aload_n hC dX7_isMovingThroughout_9 rfl 0 rfl ?_
      refine z_lload_n hC dX7_isMovingThroughout_10 rfl 1 rfl ?_
      refine z_iload hC dX7_isMovingThroughout_11 3 rfl ?_
      refine xV_X7_195 hI hC (Nat.le_of_ble_eq_true rfl) hm dX7_isMovingThroughout_13 (Nat.le_of_ble_eq_true rfl) (fun q1 hm => ?_)
      refine z_if_ne (tgt := 21) hC hm dX7_isMovingThroughout_16 (by decide) (fun hm => ?_) (fun hm => ?_)
      · refine z_iconst hC dX7_isMovingThroughout_19 kI_0 ?_
        exact z_iret hC hr rfl dX7_isMovingThroughout_20 (fun _ _ => trivial) (Option.some.inj hm)
      · refine z_iinc (lv' := [(4, .int (x4 + (1 : Int32))), (0, .ref (ad 0)), (1, .long x1), (3, .int x3)]) (k := 3) (v := (x4 + (1 : Int32))) hC dX7_isMovingThroughout_21 rfl rfl (by decide) rfl ?_
        refine z_goto (tgt := 3) hC dX7_isMovingThroughout_24 (by decide) ?_
        refine z_lv hC [1, 2, 3, 0] rfl ?_
        exact ih _ hm
def mV_isMovingThroughout (x1 : Int64) (x3 : Int32) (u : SV) : Option Int32 :=
  mV_isMovingThroughout_L3 x1 x3 u 256 (0 : Int32)
set_option maxRecDepth 100000 in
set_option maxHeartbeats 4000000 in
theorem cV_isMovingThroughout {l : Launch} {D : va_G} {cA : Nat → ClassId} {ad : Nat → Nat} {tK tB : Nat} {kS vS : Nat → Nat} {vT vH vA : Value} (hI : zInj ad 80) (x1 : Int64) (x3 : Int32) (u : SV) {r : Int32} (hm : mV_isMovingThroughout x1 x3 u = some r) : Met l yX7_isMovingThroughout (zWs yX7_isMovingThroughout cX7_isMovingThroughout 5 (some .boolean)) (zRm 3) (va_Pc [.ref (ad 0), .long x1, .int x3] (zPre D (zTy cA) (zE tK tB kS vS) zA0 (wV cA ad vT vH vA u))) (zQi r zB0 zA0) 0 0 zA0 := by
  refine z_met (lv := [(0, .ref (ad 0)), (1, .long x1), (3, .int x3)]) plX7 rfl rfl (Nat.le_of_ble_eq_true rfl) rfl ?_
  intro p e s m below meth c hC hr hin
  unfold mV_isMovingThroughout at hm
  refine z_iconst hC dX7_isMovingThroughout_0 kI_0 ?_
  refine z_istore (lv' := [(4, .int (0 : Int32)), (0, .ref (ad 0)), (1, .long x1), (3, .int x3)]) hC dX7_isMovingThroughout_1 (by decide) rfl ?_
  refine z_lv hC [1, 2, 3, 0] rfl ?_
  exact lV_isMovingThroughout_3 hI hC hr _ _ hm
theorem xV_X7_217 {p : Program} {l : Launch} {e : Env} {s : State} {m : MethodId} {args : Array Value} {below : List Frame} {meth : Method} {c : Code} {Q : State → Prop} {D : va_G} {A : Nat → Prop} {cc : ByteArray} {nL : Nat} {lv : List (Nat × Value)} {pc : Nat} {st : List Value} {cA : Nat → ClassId} {ad : Nat → Nat} {tK tB : Nat} {kS vS : Nat → Nat} {vT vH vA : Value} {d : Nat} {x0 : Int64} {x2 : Int32} {u : SV} (hI : zInj ad 80) (C : zC p s m args meth c cc nL RX7 zTS D (zTy cA) A (zE tK tB kS vS)) (hdm : 0 + 1 ≤ d) (hd : decode cc pc = .ok (.invokestatic 217, 3)) (h8 : (st.map fun v => v.category).sum ≤ 8) (g : zG p l e (zRm d) s m args below meth c nL D A Q (wV cA ad vT vH vA u) lv (pc + 3) (.long (mN_later x0 x2) :: st)) : zG p l e (zRm d) s m args below meth c nL D A Q (wV cA ad vT vH vA u) lv pc (.int x2 :: .long x0 :: st) :=
  z_calllS C (cN_later (ad := (fun i => i)) (cA := cA) zInj0 x0 x2 () rfl) (cwX7_217 C.1.2.2.2.2 rfl rfl ⟨hdm, by have := hdm; simp only [zRm]; omega⟩) hd rfl rfl h8 (fun _ h => nomatch h) (fun _ h => h.elim) zJ_ro g
theorem xV_X7_221 {p : Program} {l : Launch} {e : Env} {s : State} {m : MethodId} {args : Array Value} {below : List Frame} {meth : Method} {c : Code} {Q : State → Prop} {D : va_G} {A : Nat → Prop} {cc : ByteArray} {nL : Nat} {lv : List (Nat × Value)} {pc : Nat} {st : List Value} {cA : Nat → ClassId} {ad : Nat → Nat} {tK tB : Nat} {kS vS : Nat → Nat} {vT vH vA : Value} {d : Nat} {x1 : Int64} {x3 : Int32} {u : SV} (hI : zInj ad 80) (C : zC p s m args meth c cc nL RX7 zTS D (zTy cA) A (zE tK tB kS vS)) (hdm : 3 + 1 ≤ d) {β : Type} {f : Int32 → Option β} {o : β} (hm : (mV_isMovingThroughout x1 x3 u).bind f = some o) (hd : decode cc pc = .ok (.invokevirtual 221, 3)) (h8 : (st.map fun v => v.category).sum ≤ 8) (g : ∀ q, f q = some o → zG p l e (zRm d) s m args below meth c nL D A Q (wV cA ad vT vH vA u) lv (pc + 3) (.int q :: st)) : zG p l e (zRm d) s m args below meth c nL D A Q (wV cA ad vT vH vA u) lv pc (.int x3 :: .long x1 :: .ref (ad 0) :: st) := by
  obtain ⟨q, h1, h2⟩ := zb_some hm
  exact z_calliV C (cV_isMovingThroughout (ad := ad) (cA := cA) hI x1 x3 u h1) (cwX7_221 C.1.2.2.2.2 rfl rfl ⟨hdm, by have := hdm; simp only [zRm]; omega⟩) hd rfl rfl h8 ⟨_, rfl, rfl⟩ (List.mem_of_getElem? (heV_o cA ad _ _ _ u)) (fun _ h => h) (fun _ h => h.elim) zJ_ro (g q h2)
def mV_latest_L66 (a1 : Nat) (x4 : Int32) : Nat → Int32 → SV → Option (Int32 × SK)
  | 0, _, _ => none
  | n + 1, x5, u => if x5 < 0 then (some ((-5 : Int32), ((V_look u)))) else (zgk a1 (V_nv u) ((mV_isMovingThroughout (mO_movingOf (mN_later (S_moving (V_stage u)) x5) ((V_vo u) a1)) x4 u).bind fun q2 => (if q2 = 0 then (mV_latest_L66 a1 x4 n (x5 + (-1 : Int32)) u) else (some (x5, ((V_look u)))))))
set_option maxRecDepth 100000 in
set_option maxHeartbeats 4000000 in
theorem lV_latest_66 {l : Launch} {D : va_G} {cA : Nat → ClassId} {ad : Nat → Nat} {p : Program} {e : Env} {s : State} {m : MethodId} {args : Array Value} {below : List Frame} {meth : Method} {c : Code} {tK tB : Nat} {kS vS : Nat → Nat} {vT : Value} {vH : Value} {vA : Value} {r : Int32} {w' : SK}  {a1 : Nat} {x4 : Int32} (hI : zInj ad 80) (hC : zC p s m args meth c cX7_latest 6 RX7 zTS D (zTy cA) (zAd ad 80) (zE tK tB kS vS)) (hr : meth.sig.returnType = (some .int)) : ∀ (n : Nat) (x5 : Int32) (u : SV), mV_latest_L66 a1 x4 n x5 u = some (r, w') → zG p l e (zRm 4) s m args below meth c 6 D (zAd ad 80) (MQ below (zQi r (zBw D (wV cA ad vT vH vA (V_put_look w' u))) (zAd ad 80)) args s 0 0 (zAd ad 80)) (wV cA ad vT vH vA u) [(0, .ref (ad 0)), (3, .ref (ad (70 + a1))), (4, .int x4), (5, .int x5)] 66 [] := by
  intro n
  induction n with
  | zero => intro x5 u hm; exact z_none hm
  | succ n ih =>
    intro x5 u hm
    rw [mV_latest_L66] at hm
    refine z_iload hC dX7_latest_66 3 rfl ?_
    refine z_if_lt (tgt := 105) hC hm dX7_latest_68 (by decide) (fun hm => ?_) (fun hm => ?_)
    · refine z_bipush hC dX7_latest_105 kB_m5 ?_
      exact riV (fin := fun z => V_put_look z u) hC hr rfl dX7_latest_107 hm rfl
    · refine z_aload_n hC dX7_latest_71 rfl 0 rfl ?_
      refine z_aload_n hC dX7_latest_72 rfl 1 rfl ?_
      refine z_aload_n hC dX7_latest_73 rfl 0 rfl ?_
      refine gV_X7_12_o hC dX7_latest_74 ?_
      refine gV_X7_86_stage (v := (S_moving (V_stage u))) hC dX7_latest_77 rfl ?_
      refine z_iload hC dX7_latest_80 3 rfl ?_
      refine xV_X7_217 hI hC (Nat.le_of_ble_eq_true rfl) dX7_latest_82 (Nat.le_of_ble_eq_true rfl) ?_
      refine z_g (zgk_some hm) (fun ha hm => ?_)
      refine xV_X7_191 ha hI hC (Nat.le_of_ble_eq_true rfl) dX7_latest_85 (Nat.le_of_ble_eq_true rfl) ?_
      refine z_iload hC dX7_latest_88 2 rfl ?_
      refine xV_X7_221 hI hC (Nat.le_of_ble_eq_true rfl) hm dX7_latest_90 (Nat.le_of_ble_eq_true rfl) (fun q2 hm => ?_)
      refine z_if_eq (tgt := 99) hC hm dX7_latest_93 (by decide) (fun hm => ?_) (fun hm => ?_)
      · refine z_iinc (lv' := [(5, .int (x5 + (-1 : Int32))), (0, .ref (ad 0)), (3, .ref (ad (70 + a1))), (4, .int x4)]) (k := 3) (v := (x5 + (-1 : Int32))) hC dX7_latest_99 rfl rfl (by decide) rfl ?_
        refine z_goto (tgt := 66) hC dX7_latest_102 (by decide) ?_
        refine z_lv hC [1, 2, 3, 0] rfl ?_
        exact ih _ _ hm
      · refine z_iload hC dX7_latest_96 3 rfl ?_
        exact riV (fin := fun z => V_put_look z u) hC hr rfl dX7_latest_98 hm rfl
def mV_latest_L32 (a1 : Nat) (x2 : Int32) (x4 : Int32) : Nat → Int32 → SV → Option (Int32 × SK)
  | 0, _, _ => none
  | n + 1, x5, u => if x4 ≤ x5 then (mV_latest_L66 a1 x4 256 (20 : Int32) u) else ((mV_lookAt a1 x2 x5 u).bind fun q3 => (if (K_inReach q3) = 0 then (some ((-5 : Int32), (q3))) else (mV_latest_L32 a1 x2 x4 n (x5 + (1 : Int32)) (V_put_look (q3) u))))
set_option maxRecDepth 100000 in
set_option maxHeartbeats 4000000 in
theorem lV_latest_32 {l : Launch} {D : va_G} {cA : Nat → ClassId} {ad : Nat → Nat} {p : Program} {e : Env} {s : State} {m : MethodId} {args : Array Value} {below : List Frame} {meth : Method} {c : Code} {tK tB : Nat} {kS vS : Nat → Nat} {vT : Value} {vH : Value} {vA : Value} {r : Int32} {w' : SK}  {a1 : Nat} {x2 : Int32} {x4 : Int32} (hI : zInj ad 80) (hC : zC p s m args meth c cX7_latest 6 RX7 zTS D (zTy cA) (zAd ad 80) (zE tK tB kS vS)) (hr : meth.sig.returnType = (some .int)) : ∀ (n : Nat) (x5 : Int32) (u : SV), mV_latest_L32 a1 x2 x4 n x5 u = some (r, w') → zG p l e (zRm 4) s m args below meth c 6 D (zAd ad 80) (MQ below (zQi r (zBw D (wV cA ad vT vH vA (V_put_look w' u))) (zAd ad 80)) args s 0 0 (zAd ad 80)) (wV cA ad vT vH vA u) [(0, .ref (ad 0)), (2, .int x2), (3, .ref (ad (70 + a1))), (4, .int x4), (5, .int x5)] 32 [] := by
  intro n
  induction n with
  | zero => intro x5 u hm; exact z_none hm
  | succ n ih =>
    intro x5 u hm
    rw [mV_latest_L32] at hm
    refine z_iload hC dX7_latest_32 4 rfl ?_
    refine z_iload hC dX7_latest_34 3 rfl ?_
    refine z_icmp_ge (tgt := 62) hC hm dX7_latest_36 (by decide) (fun hm => ?_) (fun hm => ?_)
    · refine z_bipush hC dX7_latest_62 kB_20 ?_
      refine z_istore (lv' := [(5, .int (20 : Int32)), (0, .ref (ad 0)), (2, .int x2), (3, .ref (ad (70 + a1))), (4, .int x4)]) hC dX7_latest_64 (by decide) rfl ?_
      refine z_lv hC [1, 3, 4, 0] rfl ?_
      exact lV_latest_66 hI hC hr _ _ _ hm
    · refine z_aload_n hC dX7_latest_39 rfl 0 rfl ?_
      refine z_aload_n hC dX7_latest_40 rfl 2 rfl ?_
      refine z_iload_n hC dX7_latest_41 rfl 1 rfl ?_
      refine z_iload hC dX7_latest_42 4 rfl ?_
      refine xV_X7_146 hI hC (Nat.le_of_ble_eq_true rfl) (fun _ h => h) hm dX7_latest_44 (Nat.le_of_ble_eq_true rfl) (fun q3 hm => ?_)
      refine zuV (u2 := (V_put_look (q3) u)) rfl ?_
      refine gV_X7_214_look (v := (K_inReach q3)) hC dX7_latest_47 rfl ?_
      refine z_if_ne (tgt := 56) hC hm dX7_latest_50 (by decide) (fun hm => ?_) (fun hm => ?_)
      · refine z_bipush hC dX7_latest_53 kB_m5 ?_
        exact riV (fin := fun z => V_put_look z u) hC hr rfl dX7_latest_55 hm rfl
      · refine z_iinc (lv' := [(5, .int (x5 + (1 : Int32))), (0, .ref (ad 0)), (2, .int x2), (3, .ref (ad (70 + a1))), (4, .int x4)]) (k := 4) (v := (x5 + (1 : Int32))) hC dX7_latest_56 rfl rfl (by decide) rfl ?_
        refine z_goto (tgt := 32) hC dX7_latest_59 (by decide) ?_
        refine z_lv hC [1, 2, 3, 4, 0] rfl ?_
        exact ih _ _ hm
def mV_latest (x1 : Int32) (x2 : Int32) (u : SV) : Option (Int32 × SK) :=
  (mV_voiceAt x1 u).bind fun v1 => zcs v1 (some ((-1 : Int32), ((V_look u)))) (fun a1 => (if (mV_isSeat x2 u) = 0 then (some ((-1 : Int32), ((V_look u)))) else (mV_latest_L32 a1 x2 (mS_tenthsSaidIn (V_stage u)) 256 (0 : Int32) u)))
set_option maxRecDepth 100000 in
set_option maxHeartbeats 4000000 in
theorem cV_latest {l : Launch} {D : va_G} {cA : Nat → ClassId} {ad : Nat → Nat} {tK tB : Nat} {kS vS : Nat → Nat} {vT vH vA : Value} (hI : zInj ad 80) (x1 : Int32) (x2 : Int32) (u : SV) {r : Int32} {w' : SK} (hm : mV_latest x1 x2 u = some (r, w')) : Met l yX7_latest (zWs yX7_latest cX7_latest 6 (some .int)) (zRm 4) (va_Pc [.ref (ad 0), .int x1, .int x2] (zPre D (zTy cA) (zE tK tB kS vS) (zAd ad 80) (wV cA ad vT vH vA u))) (zQi r (zBw D (wV cA ad vT vH vA (V_put_look w' u))) (zAd ad 80)) 0 0 (zAd ad 80) := by
  refine z_met (lv := [(0, .ref (ad 0)), (1, .int x1), (2, .int x2)]) plX7 rfl rfl (Nat.le_of_ble_eq_true rfl) rfl ?_
  intro p e s m below meth c hC hr hin
  unfold mV_latest at hm
  refine z_aload_n hC dX7_latest_0 rfl 0 rfl ?_
  refine z_iload_n hC dX7_latest_1 rfl 1 rfl ?_
  refine xV_X7_139 hI hC (Nat.le_of_ble_eq_true rfl) hm dX7_latest_2 (Nat.le_of_ble_eq_true rfl) (fun hm => ?_) (fun a1 hm => ?_)
  · refine z_astore_nN (lv' := [(3, .null), (0, .ref (ad 0)), (1, .int x1), (2, .int x2)]) hC dX7_latest_5 rfl (by decide) rfl ?_
    refine z_aload_nN hC dX7_latest_6 rfl 0 rfl ?_
    refine z_ifnullN (tgt := 18) hC dX7_latest_7 (by decide) ?_
    refine z_iconst hC dX7_latest_18 kI_m1 ?_
    exact riV (fin := fun z => V_put_look z u) hC hr rfl dX7_latest_19 hm rfl
  · refine z_astore_n (lv' := [(3, .ref (ad (70 + a1))), (0, .ref (ad 0)), (1, .int x1), (2, .int x2)]) hC dX7_latest_5 rfl (by decide) rfl ?_
    refine z_aload_n hC dX7_latest_6 rfl 0 rfl ?_
    refine z_ifnull hC dX7_latest_7 ?_
    refine z_aload_n hC dX7_latest_10 rfl 1 rfl ?_
    refine z_iload_n hC dX7_latest_11 rfl 3 rfl ?_
    refine xV_X7_93 hI hC (Nat.le_of_ble_eq_true rfl) dX7_latest_12 (Nat.le_of_ble_eq_true rfl) ?_
    refine z_if_ne (tgt := 20) hC hm dX7_latest_15 (by decide) (fun hm => ?_) (fun hm => ?_)
    · refine z_iconst hC dX7_latest_18 kI_m1 ?_
      exact riV (fin := fun z => V_put_look z u) hC hr rfl dX7_latest_19 hm rfl
    · refine z_aload_n hC dX7_latest_20 rfl 1 rfl ?_
      refine gV_X7_12_o hC dX7_latest_21 ?_
      refine xV_X7_211 hI hC (Nat.le_of_ble_eq_true rfl) dX7_latest_24 (Nat.le_of_ble_eq_true rfl) ?_
      refine z_istore (lv' := [(4, .int (mS_tenthsSaidIn (V_stage u))), (3, .ref (ad (70 + a1))), (0, .ref (ad 0)), (1, .int x1), (2, .int x2)]) hC dX7_latest_27 (by decide) rfl ?_
      refine z_iconst hC dX7_latest_29 kI_0 ?_
      refine z_istore (lv' := [(5, .int (0 : Int32)), (4, .int (mS_tenthsSaidIn (V_stage u))), (3, .ref (ad (70 + a1))), (0, .ref (ad 0)), (1, .int x1), (2, .int x2)]) hC dX7_latest_30 (by decide) rfl ?_
      refine z_lv hC [3, 5, 2, 1, 0] rfl ?_
      exact lV_latest_32 hI hC hr _ _ _ hm
def mV_wrong_L26 (a1 : Nat) (x2 : Int32) : Nat → Int32 → Int32 → SV → Option (Int32 × SK)
  | 0, _, _, _ => none
  | n + 1, x4, x5, u => if (S_letters (V_stage u)) ≤ x5 then (some (x4, ((V_look u)))) else ((mV_isRight a1 x2 x5 u).bind fun q2 => (if q2.1 = 0 then (mV_wrong_L26 a1 x2 n (x4 + (1 : Int32)) (x5 + (1 : Int32)) (V_put_look (q2.2) u)) else (mV_wrong_L26 a1 x2 n x4 (x5 + (1 : Int32)) (V_put_look (q2.2) u))))
set_option maxRecDepth 100000 in
set_option maxHeartbeats 4000000 in
theorem lV_wrong_26 {l : Launch} {D : va_G} {cA : Nat → ClassId} {ad : Nat → Nat} {p : Program} {e : Env} {s : State} {m : MethodId} {args : Array Value} {below : List Frame} {meth : Method} {c : Code} {tK tB : Nat} {kS vS : Nat → Nat} {vT : Value} {vH : Value} {vA : Value} {r : Int32} {w' : SK}  {a1 : Nat} {x2 : Int32} (hI : zInj ad 80) (hC : zC p s m args meth c cX7_wrong 6 RX7 zTS D (zTy cA) (zAd ad 80) (zE tK tB kS vS)) (hr : meth.sig.returnType = (some .int)) : ∀ (n : Nat) (x4 : Int32) (x5 : Int32) (u : SV), mV_wrong_L26 a1 x2 n x4 x5 u = some (r, w') → zG p l e (zRm 6) s m args below meth c 6 D (zAd ad 80) (MQ below (zQi r (zBw D (wV cA ad vT vH vA (V_put_look w' u))) (zAd ad 80)) args s 0 0 (zAd ad 80)) (wV cA ad vT vH vA u) [(0, .ref (ad 0)), (2, .int x2), (3, .ref (ad (70 + a1))), (4, .int x4), (5, .int x5)] 26 [] := by
  intro n
  induction n with
  | zero => intro x4 x5 u hm; exact z_none hm
  | succ n ih =>
    intro x4 x5 u hm
    rw [mV_wrong_L26] at hm
    refine z_iload hC dX7_wrong_26 4 rfl ?_
    refine z_aload_n hC dX7_wrong_28 rfl 0 rfl ?_
    refine gV_X7_12_o hC dX7_wrong_29 ?_
    refine gV_X7_96_stage (v := (S_letters (V_stage u))) hC dX7_wrong_32 rfl ?_
    refine z_icmp_ge (tgt := 58) hC hm dX7_wrong_35 (by decide) (fun hm => ?_) (fun hm => ?_)
    · refine z_iload hC dX7_wrong_58 3 rfl ?_
      exact riV (fin := fun z => V_put_look z u) hC hr rfl dX7_wrong_60 hm rfl
    · refine z_aload_n hC dX7_wrong_38 rfl 0 rfl ?_
      refine z_aload_n hC dX7_wrong_39 rfl 2 rfl ?_
      refine z_iload_n hC dX7_wrong_40 rfl 1 rfl ?_
      refine z_iload hC dX7_wrong_41 4 rfl ?_
      refine xV_X7_180 hI hC (Nat.le_of_ble_eq_true rfl) (fun _ h => h) hm dX7_wrong_43 (Nat.le_of_ble_eq_true rfl) (fun q2 hm => ?_)
      refine zuV (u2 := (V_put_look (q2.2) u)) rfl ?_
      refine z_if_ne (tgt := 52) hC hm dX7_wrong_46 (by decide) (fun hm => ?_) (fun hm => ?_)
      · refine z_iinc (lv' := [(4, .int (x4 + (1 : Int32))), (0, .ref (ad 0)), (2, .int x2), (3, .ref (ad (70 + a1))), (5, .int x5)]) (k := 3) (v := (x4 + (1 : Int32))) hC dX7_wrong_49 rfl rfl (by decide) rfl ?_
        refine z_iinc (lv' := [(5, .int (x5 + (1 : Int32))), (4, .int (x4 + (1 : Int32))), (0, .ref (ad 0)), (2, .int x2), (3, .ref (ad (70 + a1)))]) (k := 4) (v := (x5 + (1 : Int32))) hC dX7_wrong_52 rfl rfl (by decide) rfl ?_
        refine z_goto (tgt := 26) hC dX7_wrong_55 (by decide) ?_
        refine z_lv hC [2, 3, 4, 1, 0] rfl ?_
        exact ih _ _ _ hm
      · refine z_iinc (lv' := [(5, .int (x5 + (1 : Int32))), (0, .ref (ad 0)), (2, .int x2), (3, .ref (ad (70 + a1))), (4, .int x4)]) (k := 4) (v := (x5 + (1 : Int32))) hC dX7_wrong_52 rfl rfl (by decide) rfl ?_
        refine z_goto (tgt := 26) hC dX7_wrong_55 (by decide) ?_
        refine z_lv hC [1, 2, 3, 4, 0] rfl ?_
        exact ih _ _ _ hm
def mV_wrong (x1 : Int32) (x2 : Int32) (u : SV) : Option (Int32 × SK) :=
  (mV_voiceAt x1 u).bind fun v1 => zcs v1 (some ((-1 : Int32), ((V_look u)))) (fun a1 => (if (mV_isSeat x2 u) = 0 then (some ((-1 : Int32), ((V_look u)))) else (mV_wrong_L26 a1 x2 256 (0 : Int32) (0 : Int32) u)))
set_option maxRecDepth 100000 in
set_option maxHeartbeats 4000000 in
theorem cV_wrong {l : Launch} {D : va_G} {cA : Nat → ClassId} {ad : Nat → Nat} {tK tB : Nat} {kS vS : Nat → Nat} {vT vH vA : Value} (hI : zInj ad 80) (x1 : Int32) (x2 : Int32) (u : SV) {r : Int32} {w' : SK} (hm : mV_wrong x1 x2 u = some (r, w')) : Met l yX7_wrong (zWs yX7_wrong cX7_wrong 6 (some .int)) (zRm 6) (va_Pc [.ref (ad 0), .int x1, .int x2] (zPre D (zTy cA) (zE tK tB kS vS) (zAd ad 80) (wV cA ad vT vH vA u))) (zQi r (zBw D (wV cA ad vT vH vA (V_put_look w' u))) (zAd ad 80)) 0 0 (zAd ad 80) := by
  refine z_met (lv := [(0, .ref (ad 0)), (1, .int x1), (2, .int x2)]) plX7 rfl rfl (Nat.le_of_ble_eq_true rfl) rfl ?_
  intro p e s m below meth c hC hr hin
  unfold mV_wrong at hm
  refine z_aload_n hC dX7_wrong_0 rfl 0 rfl ?_
  refine z_iload_n hC dX7_wrong_1 rfl 1 rfl ?_
  refine xV_X7_139 hI hC (Nat.le_of_ble_eq_true rfl) hm dX7_wrong_2 (Nat.le_of_ble_eq_true rfl) (fun hm => ?_) (fun a1 hm => ?_)
  · refine z_astore_nN (lv' := [(3, .null), (0, .ref (ad 0)), (1, .int x1), (2, .int x2)]) hC dX7_wrong_5 rfl (by decide) rfl ?_
    refine z_aload_nN hC dX7_wrong_6 rfl 0 rfl ?_
    refine z_ifnullN (tgt := 18) hC dX7_wrong_7 (by decide) ?_
    refine z_iconst hC dX7_wrong_18 kI_m1 ?_
    exact riV (fin := fun z => V_put_look z u) hC hr rfl dX7_wrong_19 hm rfl
  · refine z_astore_n (lv' := [(3, .ref (ad (70 + a1))), (0, .ref (ad 0)), (1, .int x1), (2, .int x2)]) hC dX7_wrong_5 rfl (by decide) rfl ?_
    refine z_aload_n hC dX7_wrong_6 rfl 0 rfl ?_
    refine z_ifnull hC dX7_wrong_7 ?_
    refine z_aload_n hC dX7_wrong_10 rfl 1 rfl ?_
    refine z_iload_n hC dX7_wrong_11 rfl 3 rfl ?_
    refine xV_X7_93 hI hC (Nat.le_of_ble_eq_true rfl) dX7_wrong_12 (Nat.le_of_ble_eq_true rfl) ?_
    refine z_if_ne (tgt := 20) hC hm dX7_wrong_15 (by decide) (fun hm => ?_) (fun hm => ?_)
    · refine z_iconst hC dX7_wrong_18 kI_m1 ?_
      exact riV (fin := fun z => V_put_look z u) hC hr rfl dX7_wrong_19 hm rfl
    · refine z_iconst hC dX7_wrong_20 kI_0 ?_
      refine z_istore (lv' := [(4, .int (0 : Int32)), (3, .ref (ad (70 + a1))), (0, .ref (ad 0)), (1, .int x1), (2, .int x2)]) hC dX7_wrong_21 (by decide) rfl ?_
      refine z_iconst hC dX7_wrong_23 kI_0 ?_
      refine z_istore (lv' := [(5, .int (0 : Int32)), (4, .int (0 : Int32)), (3, .ref (ad (70 + a1))), (0, .ref (ad 0)), (1, .int x1), (2, .int x2)]) hC dX7_wrong_24 (by decide) rfl ?_
      refine z_lv hC [3, 5, 2, 1, 0] rfl ?_
      exact lV_wrong_26 hI hC hr _ _ _ _ hm
def mV_joinedSeats_L5 (a : Nat) (x2 : Int32) : Nat → Int32 → Int32 → SV → Option (Int32 × SK)
  | 0, _, _, _ => none
  | n + 1, x3, x4, u => if (V_seats u) ≤ x4 then (some (x3, ((V_look u)))) else ((mV_lookAt a x4 x2 u).bind fun q1 => (if (K_joined q1) = 0 then (mV_joinedSeats_L5 a x2 n x3 (x4 + (1 : Int32)) (V_put_look (q1) u)) else (mV_joinedSeats_L5 a x2 n (x3 ||| ((1 : Int32) <<< (x4 &&& 31))) (x4 + (1 : Int32)) (V_put_look (q1) u))))
set_option maxRecDepth 100000 in
set_option maxHeartbeats 4000000 in
theorem lV_joinedSeats_5 {l : Launch} {D : va_G} {cA : Nat → ClassId} {ad : Nat → Nat} {p : Program} {e : Env} {s : State} {m : MethodId} {args : Array Value} {below : List Frame} {meth : Method} {c : Code} {tK tB : Nat} {kS vS : Nat → Nat} {vT : Value} {vH : Value} {vA : Value} {r : Int32} {w' : SK}  {a : Nat} {x2 : Int32} (hI : zInj ad 80) (hC : zC p s m args meth c cX7_joinedSeats 5 RX7 zTS D (zTy cA) (zAd ad 80) (zE tK tB kS vS)) (hr : meth.sig.returnType = (some .int)) : ∀ (n : Nat) (x3 : Int32) (x4 : Int32) (u : SV), mV_joinedSeats_L5 a x2 n x3 x4 u = some (r, w') → zG p l e (zRm 4) s m args below meth c 5 D (zAd ad 80) (MQ below (zQi r (zBw D (wV cA ad vT vH vA (V_put_look w' u))) (zAd ad 80)) args s 0 0 (zAd ad 80)) (wV cA ad vT vH vA u) [(0, .ref (ad 0)), (1, .ref (ad (70 + a))), (2, .int x2), (3, .int x3), (4, .int x4)] 5 [] := by
  intro n
  induction n with
  | zero => intro x3 x4 u hm; exact z_none hm
  | succ n ih =>
    intro x3 x4 u hm
    rw [mV_joinedSeats_L5] at hm
    refine z_iload hC dX7_joinedSeats_5 4 rfl ?_
    refine z_aload_n hC dX7_joinedSeats_7 rfl 0 rfl ?_
    refine gV_X7_90_o (v := (V_seats u)) hC dX7_joinedSeats_8 rfl ?_
    refine z_icmp_ge (tgt := 41) hC hm dX7_joinedSeats_11 (by decide) (fun hm => ?_) (fun hm => ?_)
    · refine z_iload_n hC dX7_joinedSeats_41 rfl 3 rfl ?_
      exact riV (fin := fun z => V_put_look z u) hC hr rfl dX7_joinedSeats_42 hm rfl
    · refine z_aload_n hC dX7_joinedSeats_14 rfl 0 rfl ?_
      refine z_aload_n hC dX7_joinedSeats_15 rfl 1 rfl ?_
      refine z_iload hC dX7_joinedSeats_16 4 rfl ?_
      refine z_iload_n hC dX7_joinedSeats_18 rfl 2 rfl ?_
      refine xV_X7_146 hI hC (Nat.le_of_ble_eq_true rfl) (fun _ h => h) hm dX7_joinedSeats_19 (Nat.le_of_ble_eq_true rfl) (fun q1 hm => ?_)
      refine zuV (u2 := (V_put_look (q1) u)) rfl ?_
      refine gV_X7_159_look (v := (K_joined q1)) hC dX7_joinedSeats_22 rfl ?_
      refine z_if_eq (tgt := 35) hC hm dX7_joinedSeats_25 (by decide) (fun hm => ?_) (fun hm => ?_)
      · refine z_iinc (lv' := [(4, .int (x4 + (1 : Int32))), (0, .ref (ad 0)), (1, .ref (ad (70 + a))), (2, .int x2), (3, .int x3)]) (k := 4) (v := (x4 + (1 : Int32))) hC dX7_joinedSeats_35 rfl rfl (by decide) rfl ?_
        refine z_goto (tgt := 5) hC dX7_joinedSeats_38 (by decide) ?_
        refine z_lv hC [1, 2, 3, 4, 0] rfl ?_
        exact ih _ _ _ hm
      · refine z_iload_n hC dX7_joinedSeats_28 rfl 3 rfl ?_
        refine z_iconst hC dX7_joinedSeats_29 kI_1 ?_
        refine z_iload hC dX7_joinedSeats_30 4 rfl ?_
        refine z_ishl hC dX7_joinedSeats_32 ?_
        refine z_ior hC dX7_joinedSeats_33 ?_
        refine z_istore_n (lv' := [(3, .int (x3 ||| ((1 : Int32) <<< (x4 &&& 31)))), (0, .ref (ad 0)), (1, .ref (ad (70 + a))), (2, .int x2), (4, .int x4)]) hC dX7_joinedSeats_34 rfl (by decide) rfl ?_
        refine z_iinc (lv' := [(4, .int (x4 + (1 : Int32))), (3, .int (x3 ||| ((1 : Int32) <<< (x4 &&& 31)))), (0, .ref (ad 0)), (1, .ref (ad (70 + a))), (2, .int x2)]) (k := 4) (v := (x4 + (1 : Int32))) hC dX7_joinedSeats_35 rfl rfl (by decide) rfl ?_
        refine z_goto (tgt := 5) hC dX7_joinedSeats_38 (by decide) ?_
        refine z_lv hC [2, 3, 4, 1, 0] rfl ?_
        exact ih _ _ _ hm
def mV_joinedSeats (a : Nat) (x2 : Int32) (u : SV) : Option (Int32 × SK) :=
  mV_joinedSeats_L5 a x2 256 (0 : Int32) (0 : Int32) u
set_option maxRecDepth 100000 in
set_option maxHeartbeats 4000000 in
theorem cV_joinedSeats {l : Launch} {D : va_G} {cA : Nat → ClassId} {ad : Nat → Nat} {tK tB : Nat} {kS vS : Nat → Nat} {vT vH vA : Value} {a : Nat} (hI : zInj ad 80) (x2 : Int32) (u : SV) {r : Int32} {w' : SK} (hm : mV_joinedSeats a x2 u = some (r, w')) : Met l yX7_joinedSeats (zWs yX7_joinedSeats cX7_joinedSeats 5 (some .int)) (zRm 4) (va_Pc [.ref (ad 0), .ref (ad (70 + a)), .int x2] (zPre D (zTy cA) (zE tK tB kS vS) (zAd ad 80) (wV cA ad vT vH vA u))) (zQi r (zBw D (wV cA ad vT vH vA (V_put_look w' u))) (zAd ad 80)) 0 0 (zAd ad 80) := by
  refine z_met (lv := [(0, .ref (ad 0)), (1, .ref (ad (70 + a))), (2, .int x2)]) plX7 rfl rfl (Nat.le_of_ble_eq_true rfl) rfl ?_
  intro p e s m below meth c hC hr hin
  unfold mV_joinedSeats at hm
  refine z_iconst hC dX7_joinedSeats_0 kI_0 ?_
  refine z_istore_n (lv' := [(3, .int (0 : Int32)), (0, .ref (ad 0)), (1, .ref (ad (70 + a))), (2, .int x2)]) hC dX7_joinedSeats_1 rfl (by decide) rfl ?_
  refine z_iconst hC dX7_joinedSeats_2 kI_0 ?_
  refine z_istore (lv' := [(4, .int (0 : Int32)), (3, .int (0 : Int32)), (0, .ref (ad 0)), (1, .ref (ad (70 + a))), (2, .int x2)]) hC dX7_joinedSeats_3 (by decide) rfl ?_
  refine z_lv hC [2, 3, 4, 1, 0] rfl ?_
  exact lV_joinedSeats_5 hI hC hr _ _ _ _ hm
def mV_seatsHearing_L6 (x1 : Int32) (x2 : Int32) (x3 : Int32) (u : SV) : Nat → Int32 → Int32 → Option Int32
  | 0, _, _ => none
  | n + 1, x4, x5 => if (V_seats u) ≤ x5 then (some x4) else (if ((x3 >>> (x5 &&& 31)) &&& (1 : Int32)) = 0 then ((mV_soundAt x5 x2 (0 : Int32) u).bind fun q1 => (if q1 = x1 then (mV_seatsHearing_L6 x1 x2 x3 u n (x4 + (1 : Int32)) (x5 + (1 : Int32))) else (mV_seatsHearing_L6 x1 x2 x3 u n x4 (x5 + (1 : Int32))))) else ((mV_soundAt x5 x2 (1 : Int32) u).bind fun q2 => (if q2 = x1 then (mV_seatsHearing_L6 x1 x2 x3 u n (x4 + (1 : Int32)) (x5 + (1 : Int32))) else (mV_seatsHearing_L6 x1 x2 x3 u n x4 (x5 + (1 : Int32))))))
set_option maxRecDepth 100000 in
set_option maxHeartbeats 4000000 in
theorem lV_seatsHearing_6 {l : Launch} {D : va_G} {cA : Nat → ClassId} {ad : Nat → Nat} {p : Program} {e : Env} {s : State} {m : MethodId} {args : Array Value} {below : List Frame} {meth : Method} {c : Code} {tK tB : Nat} {kS vS : Nat → Nat} {vT : Value} {vH : Value} {vA : Value} {r : Int32}  {x1 : Int32} {x2 : Int32} {x3 : Int32} {u : SV} (hI : zInj ad 80) (hC : zC p s m args meth c cX7_seatsHearing 6 RX7 zTS D (zTy cA) zA0 (zE tK tB kS vS)) (hr : meth.sig.returnType = (some .int)) : ∀ (n : Nat) (x4 : Int32) (x5 : Int32), mV_seatsHearing_L6 x1 x2 x3 u n x4 x5 = some r → zG p l e (zRm 2) s m args below meth c 6 D zA0 (MQ below (zQi r zB0 zA0) args s 0 0 zA0) (wV cA ad vT vH vA u) [(0, .ref (ad 0)), (1, .int x1), (2, .int x2), (3, .int x3), (4, .int x4), (5, .int x5)] 6 [] := by
  intro n
  induction n with
  | zero => intro x4 x5 hm; exact z_none hm
  | succ n ih =>
    intro x4 x5 hm
    rw [mV_seatsHearing_L6] at hm
    refine z_iload hC dX7_seatsHearing_6 5 rfl ?_
    refine z_aload_n hC dX7_seatsHearing_8 rfl 0 rfl ?_
    refine gV_X7_90_o (v := (V_seats u)) hC dX7_seatsHearing_9 rfl ?_
    refine z_icmp_ge (tgt := 49) hC hm dX7_seatsHearing_12 (by decide) (fun hm => ?_) (fun hm => ?_)
    · refine z_iload hC dX7_seatsHearing_49 4 rfl ?_
      exact z_iret hC hr rfl dX7_seatsHearing_51 (fun _ _ => trivial) (Option.some.inj hm)
    · refine z_aload_n hC dX7_seatsHearing_15 rfl 0 rfl ?_
      refine z_iload hC dX7_seatsHearing_16 5 rfl ?_
      refine z_iload_n hC dX7_seatsHearing_18 rfl 2 rfl ?_
      refine z_iload_n hC dX7_seatsHearing_19 rfl 3 rfl ?_
      refine z_iload hC dX7_seatsHearing_20 5 rfl ?_
      refine z_ishr hC dX7_seatsHearing_22 ?_
      refine z_iconst hC dX7_seatsHearing_23 kI_1 ?_
      refine z_iand hC dX7_seatsHearing_24 ?_
      refine z_if_eq (tgt := 32) hC hm dX7_seatsHearing_25 (by decide) (fun hm => ?_) (fun hm => ?_)
      · refine z_iconst hC dX7_seatsHearing_32 kI_0 ?_
        refine xV_X7_345 hI hC (Nat.le_of_ble_eq_true rfl) hm dX7_seatsHearing_33 (Nat.le_of_ble_eq_true rfl) (fun q1 hm => ?_)
        refine z_iload_n hC dX7_seatsHearing_36 rfl 1 rfl ?_
        refine z_icmp_ne (tgt := 43) hC hm dX7_seatsHearing_37 (by decide) (fun hm => ?_) (fun hm => ?_)
        · refine z_iinc (lv' := [(4, .int (x4 + (1 : Int32))), (0, .ref (ad 0)), (1, .int x1), (2, .int x2), (3, .int x3), (5, .int x5)]) (k := 4) (v := (x4 + (1 : Int32))) hC dX7_seatsHearing_40 rfl rfl (by decide) rfl ?_
          refine z_iinc (lv' := [(5, .int (x5 + (1 : Int32))), (4, .int (x4 + (1 : Int32))), (0, .ref (ad 0)), (1, .int x1), (2, .int x2), (3, .int x3)]) (k := 5) (v := (x5 + (1 : Int32))) hC dX7_seatsHearing_43 rfl rfl (by decide) rfl ?_
          refine z_goto (tgt := 6) hC dX7_seatsHearing_46 (by decide) ?_
          refine z_lv hC [2, 3, 4, 5, 1, 0] rfl ?_
          exact ih _ _ hm
        · refine z_iinc (lv' := [(5, .int (x5 + (1 : Int32))), (0, .ref (ad 0)), (1, .int x1), (2, .int x2), (3, .int x3), (4, .int x4)]) (k := 5) (v := (x5 + (1 : Int32))) hC dX7_seatsHearing_43 rfl rfl (by decide) rfl ?_
          refine z_goto (tgt := 6) hC dX7_seatsHearing_46 (by decide) ?_
          refine z_lv hC [1, 2, 3, 4, 5, 0] rfl ?_
          exact ih _ _ hm
      · refine z_iconst hC dX7_seatsHearing_28 kI_1 ?_
        refine z_goto (tgt := 33) hC dX7_seatsHearing_29 (by decide) ?_
        refine xV_X7_345 hI hC (Nat.le_of_ble_eq_true rfl) hm dX7_seatsHearing_33 (Nat.le_of_ble_eq_true rfl) (fun q2 hm => ?_)
        refine z_iload_n hC dX7_seatsHearing_36 rfl 1 rfl ?_
        refine z_icmp_ne (tgt := 43) hC hm dX7_seatsHearing_37 (by decide) (fun hm => ?_) (fun hm => ?_)
        · refine z_iinc (lv' := [(4, .int (x4 + (1 : Int32))), (0, .ref (ad 0)), (1, .int x1), (2, .int x2), (3, .int x3), (5, .int x5)]) (k := 4) (v := (x4 + (1 : Int32))) hC dX7_seatsHearing_40 rfl rfl (by decide) rfl ?_
          refine z_iinc (lv' := [(5, .int (x5 + (1 : Int32))), (4, .int (x4 + (1 : Int32))), (0, .ref (ad 0)), (1, .int x1), (2, .int x2), (3, .int x3)]) (k := 5) (v := (x5 + (1 : Int32))) hC dX7_seatsHearing_43 rfl rfl (by decide) rfl ?_
          refine z_goto (tgt := 6) hC dX7_seatsHearing_46 (by decide) ?_
          refine z_lv hC [2, 3, 4, 5, 1, 0] rfl ?_
          exact ih _ _ hm
        · refine z_iinc (lv' := [(5, .int (x5 + (1 : Int32))), (0, .ref (ad 0)), (1, .int x1), (2, .int x2), (3, .int x3), (4, .int x4)]) (k := 5) (v := (x5 + (1 : Int32))) hC dX7_seatsHearing_43 rfl rfl (by decide) rfl ?_
          refine z_goto (tgt := 6) hC dX7_seatsHearing_46 (by decide) ?_
          refine z_lv hC [1, 2, 3, 4, 5, 0] rfl ?_
          exact ih _ _ hm
def mV_seatsHearing (x1 : Int32) (x2 : Int32) (x3 : Int32) (u : SV) : Option Int32 :=
  mV_seatsHearing_L6 x1 x2 x3 u 256 (0 : Int32) (0 : Int32)
set_option maxRecDepth 100000 in
set_option maxHeartbeats 4000000 in
theorem cV_seatsHearing {l : Launch} {D : va_G} {cA : Nat → ClassId} {ad : Nat → Nat} {tK tB : Nat} {kS vS : Nat → Nat} {vT vH vA : Value} (hI : zInj ad 80) (x1 : Int32) (x2 : Int32) (x3 : Int32) (u : SV) {r : Int32} (hm : mV_seatsHearing x1 x2 x3 u = some r) : Met l yX7_seatsHearing (zWs yX7_seatsHearing cX7_seatsHearing 6 (some .int)) (zRm 2) (va_Pc [.ref (ad 0), .int x1, .int x2, .int x3] (zPre D (zTy cA) (zE tK tB kS vS) zA0 (wV cA ad vT vH vA u))) (zQi r zB0 zA0) 0 0 zA0 := by
  refine z_met (lv := [(0, .ref (ad 0)), (1, .int x1), (2, .int x2), (3, .int x3)]) plX7 rfl rfl (Nat.le_of_ble_eq_true rfl) rfl ?_
  intro p e s m below meth c hC hr hin
  unfold mV_seatsHearing at hm
  refine z_iconst hC dX7_seatsHearing_0 kI_0 ?_
  refine z_istore (lv' := [(4, .int (0 : Int32)), (0, .ref (ad 0)), (1, .int x1), (2, .int x2), (3, .int x3)]) hC dX7_seatsHearing_1 (by decide) rfl ?_
  refine z_iconst hC dX7_seatsHearing_3 kI_0 ?_
  refine z_istore (lv' := [(5, .int (0 : Int32)), (4, .int (0 : Int32)), (0, .ref (ad 0)), (1, .int x1), (2, .int x2), (3, .int x3)]) hC dX7_seatsHearing_4 (by decide) rfl ?_
  refine z_lv hC [2, 3, 4, 5, 1, 0] rfl ?_
  exact lV_seatsHearing_6 hI hC hr _ _ _ hm
theorem xV_X7_224 {p : Program} {l : Launch} {e : Env} {s : State} {m : MethodId} {args : Array Value} {below : List Frame} {meth : Method} {c : Code} {Q : State → Prop} {D : va_G} {A : Nat → Prop} {cc : ByteArray} {nL : Nat} {lv : List (Nat × Value)} {pc : Nat} {st : List Value} {cA : Nat → ClassId} {ad : Nat → Nat} {tK tB : Nat} {kS vS : Nat → Nat} {vT vH vA : Value} {d : Nat} {a : Nat} {x2 : Int32} {u : SV} (hI : zInj ad 80) (C : zC p s m args meth c cc nL RX7 zTS D (zTy cA) A (zE tK tB kS vS)) (hdm : 4 + 1 ≤ d) (hA : ∀ q, zAd ad 80 q → A q) {β : Type} {f : (Int32 × SK) → Option β} {o : β} (hm : (mV_joinedSeats a x2 u).bind f = some o) (hd : decode cc pc = .ok (.invokevirtual 224, 3)) (h8 : (st.map fun v => v.category).sum ≤ 8) (g : ∀ q, f q = some o → zG p l e (zRm d) s m args below meth c nL D A Q (wV cA ad vT vH vA (V_put_look q.2 u)) lv (pc + 3) (.int q.1 :: st)) : zG p l e (zRm d) s m args below meth c nL D A Q (wV cA ad vT vH vA u) lv pc (.int x2 :: .ref (ad (70 + a)) :: .ref (ad 0) :: st) := by
  obtain ⟨q, h1, h2⟩ := zb_some hm
  exact z_calliV C (cV_joinedSeats (ad := ad) (cA := cA) hI x2 u h1) (cwX7_224 C.1.2.2.2.2 rfl rfl ⟨hdm, by have := hdm; simp only [zRm]; omega⟩) hd rfl rfl h8 ⟨_, rfl, rfl⟩ (List.mem_of_getElem? (heV_o cA ad _ _ _ u)) (fun _ h => h) hA zJ_same (g q h2)
theorem xV_X7_227 {p : Program} {l : Launch} {e : Env} {s : State} {m : MethodId} {args : Array Value} {below : List Frame} {meth : Method} {c : Code} {Q : State → Prop} {D : va_G} {A : Nat → Prop} {cc : ByteArray} {nL : Nat} {lv : List (Nat × Value)} {pc : Nat} {st : List Value} {cA : Nat → ClassId} {ad : Nat → Nat} {tK tB : Nat} {kS vS : Nat → Nat} {vT vH vA : Value} {d : Nat} {x1 : Int32} {x2 : Int32} {x3 : Int32} {u : SV} (hI : zInj ad 80) (C : zC p s m args meth c cc nL RX7 zTS D (zTy cA) A (zE tK tB kS vS)) (hdm : 2 + 1 ≤ d) {β : Type} {f : Int32 → Option β} {o : β} (hm : (mV_seatsHearing x1 x2 x3 u).bind f = some o) (hd : decode cc pc = .ok (.invokevirtual 227, 3)) (h8 : (st.map fun v => v.category).sum ≤ 8) (g : ∀ q, f q = some o → zG p l e (zRm d) s m args below meth c nL D A Q (wV cA ad vT vH vA u) lv (pc + 3) (.int q :: st)) : zG p l e (zRm d) s m args below meth c nL D A Q (wV cA ad vT vH vA u) lv pc (.int x3 :: .int x2 :: .int x1 :: .ref (ad 0) :: st) := by
  obtain ⟨q, h1, h2⟩ := zb_some hm
  exact z_calliV C (cV_seatsHearing (ad := ad) (cA := cA) hI x1 x2 x3 u h1) (cwX7_227 C.1.2.2.2.2 rfl rfl ⟨hdm, by have := hdm; simp only [zRm]; omega⟩) hd rfl rfl h8 ⟨_, rfl, rfl⟩ (List.mem_of_getElem? (heV_o cA ad _ _ _ u)) (fun _ h => h) (fun _ h => h.elim) zJ_ro (g q h2)
def mV_swap_L51 (x2 : Int32) (x3 : Int32) (x5 : Int32) : Nat → Int32 → Int32 → Int32 → SV → Option (Int32 × SK)
  | 0, _, _, _, _ => none
  | n + 1, x6, x7, x8, u => if (10 : Int32) ≤ x8 then (if x3 = 0 then (some (x6, ((V_look u)))) else (some (x7, ((V_look u))))) else (zgi x2 20 ((mV_seatsHearing ((S_words (V_stage u)) (x2).toNatClampNeg) x8 x5 u).bind fun q3 => (if q3 ≤ x7 then (mV_swap_L51 x2 x3 x5 n x6 x7 (x8 + (1 : Int32)) u) else (mV_swap_L51 x2 x3 x5 n x8 q3 (x8 + (1 : Int32)) u))))
set_option maxRecDepth 100000 in
set_option maxHeartbeats 4000000 in
theorem lV_swap_51 {l : Launch} {D : va_G} {cA : Nat → ClassId} {ad : Nat → Nat} {p : Program} {e : Env} {s : State} {m : MethodId} {args : Array Value} {below : List Frame} {meth : Method} {c : Code} {tK tB : Nat} {kS vS : Nat → Nat} {vT : Value} {vH : Value} {vA : Value} {r : Int32} {w' : SK}  {x2 : Int32} {x3 : Int32} {x5 : Int32} (hI : zInj ad 80) (hC : zC p s m args meth c cX7_swap 10 RX7 zTS D (zTy cA) (zAd ad 80) (zE tK tB kS vS)) (hr : meth.sig.returnType = (some .int)) : ∀ (n : Nat) (x6 : Int32) (x7 : Int32) (x8 : Int32) (u : SV), mV_swap_L51 x2 x3 x5 n x6 x7 x8 u = some (r, w') → zG p l e (zRm 5) s m args below meth c 10 D (zAd ad 80) (MQ below (zQi r (zBw D (wV cA ad vT vH vA (V_put_look w' u))) (zAd ad 80)) args s 0 0 (zAd ad 80)) (wV cA ad vT vH vA u) [(0, .ref (ad 0)), (2, .int x2), (3, .int x3), (5, .int x5), (6, .int x6), (7, .int x7), (8, .int x8)] 51 [] := by
  intro n
  induction n with
  | zero => intro x6 x7 x8 u hm; exact z_none hm
  | succ n ih =>
    intro x6 x7 x8 u hm
    rw [mV_swap_L51] at hm
    refine z_iload hC dX7_swap_51 6 rfl ?_
    refine z_bipush hC dX7_swap_53 kB_10 ?_
    refine z_icmp_ge (tgt := 98) hC hm dX7_swap_55 (by decide) (fun hm => ?_) (fun hm => ?_)
    · refine z_iload_n hC dX7_swap_98 rfl 2 rfl ?_
      refine z_if_ne (tgt := 107) hC hm dX7_swap_99 (by decide) (fun hm => ?_) (fun hm => ?_)
      · refine z_iload hC dX7_swap_102 4 rfl ?_
        refine z_goto (tgt := 109) hC dX7_swap_104 (by decide) ?_
        exact riV (fin := fun z => V_put_look z u) hC hr rfl dX7_swap_109 hm rfl
      · refine z_iload hC dX7_swap_107 5 rfl ?_
        exact riV (fin := fun z => V_put_look z u) hC hr rfl dX7_swap_109 hm rfl
    · refine z_aload_n hC dX7_swap_58 rfl 0 rfl ?_
      refine z_aload_n hC dX7_swap_59 rfl 0 rfl ?_
      refine gV_X7_12_o hC dX7_swap_60 ?_
      refine gV_X7_99_stage hC dX7_swap_63 ?_
      refine z_iload_n hC dX7_swap_66 rfl 1 rfl ?_
      refine aV_words hC hm dX7_swap_67 (fun hm => ?_)
      refine z_iload hC dX7_swap_68 6 rfl ?_
      refine z_iload hC dX7_swap_70 3 rfl ?_
      refine xV_X7_227 hI hC (Nat.le_of_ble_eq_true rfl) hm dX7_swap_72 (Nat.le_of_ble_eq_true rfl) (fun q3 hm => ?_)
      refine z_istore (lv' := [(9, .int q3), (0, .ref (ad 0)), (2, .int x2), (3, .int x3), (5, .int x5), (6, .int x6), (7, .int x7), (8, .int x8)]) hC dX7_swap_75 (by decide) rfl ?_
      refine z_iload hC dX7_swap_77 0 rfl ?_
      refine z_iload hC dX7_swap_79 6 rfl ?_
      refine z_icmp_le (tgt := 92) hC hm dX7_swap_81 (by decide) (fun hm => ?_) (fun hm => ?_)
      · refine z_iinc (lv' := [(8, .int (x8 + (1 : Int32))), (9, .int q3), (0, .ref (ad 0)), (2, .int x2), (3, .int x3), (5, .int x5), (6, .int x6), (7, .int x7)]) (k := 7) (v := (x8 + (1 : Int32))) hC dX7_swap_92 rfl rfl (by decide) rfl ?_
        refine z_goto (tgt := 51) hC dX7_swap_95 (by decide) ?_
        refine z_lv hC [2, 3, 4, 5, 6, 7, 0] rfl ?_
        exact ih _ _ _ _ hm
      · refine z_iload hC dX7_swap_84 0 rfl ?_
        refine z_istore (lv' := [(7, .int q3), (9, .int q3), (0, .ref (ad 0)), (2, .int x2), (3, .int x3), (5, .int x5), (6, .int x6), (8, .int x8)]) hC dX7_swap_86 (by decide) rfl ?_
        refine z_iload hC dX7_swap_88 7 rfl ?_
        refine z_istore (lv' := [(6, .int x8), (7, .int q3), (9, .int q3), (0, .ref (ad 0)), (2, .int x2), (3, .int x3), (5, .int x5), (8, .int x8)]) hC dX7_swap_90 (by decide) rfl ?_
        refine z_iinc (lv' := [(8, .int (x8 + (1 : Int32))), (6, .int x8), (7, .int q3), (9, .int q3), (0, .ref (ad 0)), (2, .int x2), (3, .int x3), (5, .int x5)]) (k := 7) (v := (x8 + (1 : Int32))) hC dX7_swap_92 rfl rfl (by decide) rfl ?_
        refine z_goto (tgt := 51) hC dX7_swap_95 (by decide) ?_
        refine z_lv hC [4, 5, 6, 7, 1, 2, 0] rfl ?_
        exact ih _ _ _ _ hm
def mV_swap (x1 : Int32) (x2 : Int32) (x3 : Int32) (u : SV) : Option (Int32 × SK) :=
  (mV_voiceAt x1 u).bind fun v1 => zcs v1 (some ((-1 : Int32), ((V_look u)))) (fun a1 => (if (mV_isSaid x2 u) = 0 then (some ((-1 : Int32), ((V_look u)))) else (if x3 < 0 then (some ((-1 : Int32), ((V_look u)))) else (if x3 ≤ (1 : Int32) then ((mV_joinedSeats a1 ((2 : Int32) * x2) u).bind fun q2 => (mV_swap_L51 x2 x3 q2.1 256 (0 : Int32) (0 : Int32) (0 : Int32) (V_put_look (q2.2) u))) else (some ((-1 : Int32), ((V_look u))))))))
set_option maxRecDepth 100000 in
set_option maxHeartbeats 4000000 in
theorem cV_swap {l : Launch} {D : va_G} {cA : Nat → ClassId} {ad : Nat → Nat} {tK tB : Nat} {kS vS : Nat → Nat} {vT vH vA : Value} (hI : zInj ad 80) (x1 : Int32) (x2 : Int32) (x3 : Int32) (u : SV) {r : Int32} {w' : SK} (hm : mV_swap x1 x2 x3 u = some (r, w')) : Met l yX7_swap (zWs yX7_swap cX7_swap 10 (some .int)) (zRm 5) (va_Pc [.ref (ad 0), .int x1, .int x2, .int x3] (zPre D (zTy cA) (zE tK tB kS vS) (zAd ad 80) (wV cA ad vT vH vA u))) (zQi r (zBw D (wV cA ad vT vH vA (V_put_look w' u))) (zAd ad 80)) 0 0 (zAd ad 80) := by
  refine z_met (lv := [(0, .ref (ad 0)), (1, .int x1), (2, .int x2), (3, .int x3)]) plX7 rfl rfl (Nat.le_of_ble_eq_true rfl) rfl ?_
  intro p e s m below meth c hC hr hin
  unfold mV_swap at hm
  refine z_aload_n hC dX7_swap_0 rfl 0 rfl ?_
  refine z_iload_n hC dX7_swap_1 rfl 1 rfl ?_
  refine xV_X7_139 hI hC (Nat.le_of_ble_eq_true rfl) hm dX7_swap_2 (Nat.le_of_ble_eq_true rfl) (fun hm => ?_) (fun a1 hm => ?_)
  · refine z_astoreN (lv' := [(4, .null), (0, .ref (ad 0)), (1, .int x1), (2, .int x2), (3, .int x3)]) hC dX7_swap_5 (by decide) rfl ?_
    refine z_aloadN hC dX7_swap_7 0 rfl ?_
    refine z_ifnullN (tgt := 29) hC dX7_swap_9 (by decide) ?_
    refine z_iconst hC dX7_swap_29 kI_m1 ?_
    exact riV (fin := fun z => V_put_look z u) hC hr rfl dX7_swap_30 hm rfl
  · refine z_astore (lv' := [(4, .ref (ad (70 + a1))), (0, .ref (ad 0)), (1, .int x1), (2, .int x2), (3, .int x3)]) hC dX7_swap_5 (by decide) rfl ?_
    refine z_aload hC dX7_swap_7 0 rfl ?_
    refine z_ifnull hC dX7_swap_9 ?_
    refine z_aload_n hC dX7_swap_12 rfl 1 rfl ?_
    refine z_iload_n hC dX7_swap_13 rfl 3 rfl ?_
    refine xV_X7_169 hI hC (Nat.le_of_ble_eq_true rfl) dX7_swap_14 (Nat.le_of_ble_eq_true rfl) ?_
    refine z_if_eq (tgt := 29) hC hm dX7_swap_17 (by decide) (fun hm => ?_) (fun hm => ?_)
    · refine z_iconst hC dX7_swap_29 kI_m1 ?_
      exact riV (fin := fun z => V_put_look z u) hC hr rfl dX7_swap_30 hm rfl
    · refine z_iload_n hC dX7_swap_20 rfl 4 rfl ?_
      refine z_if_lt (tgt := 29) hC hm dX7_swap_21 (by decide) (fun hm => ?_) (fun hm => ?_)
      · refine z_iconst hC dX7_swap_29 kI_m1 ?_
        exact riV (fin := fun z => V_put_look z u) hC hr rfl dX7_swap_30 hm rfl
      · refine z_iload_n hC dX7_swap_24 rfl 4 rfl ?_
        refine z_iconst hC dX7_swap_25 kI_1 ?_
        refine z_icmp_le (tgt := 31) hC hm dX7_swap_26 (by decide) (fun hm => ?_) (fun hm => ?_)
        · refine z_aload_n hC dX7_swap_31 rfl 1 rfl ?_
          refine z_aload hC dX7_swap_32 0 rfl ?_
          refine z_iconst hC dX7_swap_34 kI_2 ?_
          refine z_iload_n hC dX7_swap_35 rfl 3 rfl ?_
          refine z_imul hC dX7_swap_36 ?_
          refine xV_X7_224 hI hC (Nat.le_of_ble_eq_true rfl) (fun _ h => h) hm dX7_swap_37 (Nat.le_of_ble_eq_true rfl) (fun q2 hm => ?_)
          refine zuV (u2 := (V_put_look (q2.2) u)) rfl ?_
          refine z_istore (lv' := [(5, .int q2.1), (4, .ref (ad (70 + a1))), (0, .ref (ad 0)), (1, .int x1), (2, .int x2), (3, .int x3)]) hC dX7_swap_40 (by decide) rfl ?_
          refine z_iconst hC dX7_swap_42 kI_0 ?_
          refine z_istore (lv' := [(6, .int (0 : Int32)), (5, .int q2.1), (4, .ref (ad (70 + a1))), (0, .ref (ad 0)), (1, .int x1), (2, .int x2), (3, .int x3)]) hC dX7_swap_43 (by decide) rfl ?_
          refine z_iconst hC dX7_swap_45 kI_0 ?_
          refine z_istore (lv' := [(7, .int (0 : Int32)), (6, .int (0 : Int32)), (5, .int q2.1), (4, .ref (ad (70 + a1))), (0, .ref (ad 0)), (1, .int x1), (2, .int x2), (3, .int x3)]) hC dX7_swap_46 (by decide) rfl ?_
          refine z_iconst hC dX7_swap_48 kI_0 ?_
          refine z_istore (lv' := [(8, .int (0 : Int32)), (7, .int (0 : Int32)), (6, .int (0 : Int32)), (5, .int q2.1), (4, .ref (ad (70 + a1))), (0, .ref (ad 0)), (1, .int x1), (2, .int x2), (3, .int x3)]) hC dX7_swap_49 (by decide) rfl ?_
          refine z_lv hC [5, 7, 8, 3, 2, 1, 0] rfl ?_
          exact lV_swap_51 hI hC hr _ _ _ _ _ hm
        · refine z_iconst hC dX7_swap_29 kI_m1 ?_
          exact riV (fin := fun z => V_put_look z u) hC hr rfl dX7_swap_30 hm rfl
def mV_canBeHeard_L17 (a : Nat) (x2 : Int32) (x3 : Int32) (x4 : Int32) : Nat → Int32 → SV → Option (Int32 × SK)
  | 0, _, _ => none
  | n + 1, x5, u => if (10 : Int32) ≤ x5 then (some ((0 : Int32), ((V_look u)))) else ((mV_soundAt x2 x5 x4 u).bind fun q2 => (zgi x3 20 (if q2 = ((S_words (V_stage u)) (x3).toNatClampNeg) then (some ((1 : Int32), ((V_look u)))) else (mV_canBeHeard_L17 a x2 x3 x4 n (x5 + (1 : Int32)) u))))
set_option maxRecDepth 100000 in
set_option maxHeartbeats 4000000 in
theorem lV_canBeHeard_17 {l : Launch} {D : va_G} {cA : Nat → ClassId} {ad : Nat → Nat} {p : Program} {e : Env} {s : State} {m : MethodId} {args : Array Value} {below : List Frame} {meth : Method} {c : Code} {tK tB : Nat} {kS vS : Nat → Nat} {vT : Value} {vH : Value} {vA : Value} {r : Int32} {w' : SK}  {a : Nat} {x2 : Int32} {x3 : Int32} {x4 : Int32} (hI : zInj ad 80) (hC : zC p s m args meth c cX7_canBeHeard 6 RX7 zTS D (zTy cA) (zAd ad 80) (zE tK tB kS vS)) (hr : meth.sig.returnType = (some .boolean)) : ∀ (n : Nat) (x5 : Int32) (u : SV), mV_canBeHeard_L17 a x2 x3 x4 n x5 u = some (r, w') → zG p l e (zRm 4) s m args below meth c 6 D (zAd ad 80) (MQ below (zQi r (zBw D (wV cA ad vT vH vA (V_put_look w' u))) (zAd ad 80)) args s 0 0 (zAd ad 80)) (wV cA ad vT vH vA u) [(0, .ref (ad 0)), (2, .int x2), (3, .int x3), (4, .int x4), (5, .int x5)] 17 [] := by
  intro n
  induction n with
  | zero => intro x5 u hm; exact z_none hm
  | succ n ih =>
    intro x5 u hm
    rw [mV_canBeHeard_L17] at hm
    refine z_iload hC dX7_canBeHeard_17 4 rfl ?_
    refine z_bipush hC dX7_canBeHeard_19 kB_10 ?_
    refine z_icmp_ge (tgt := 53) hC hm dX7_canBeHeard_21 (by decide) (fun hm => ?_) (fun hm => ?_)
    · refine z_iconst hC dX7_canBeHeard_53 kI_0 ?_
      exact riV (fin := fun z => V_put_look z u) hC hr rfl dX7_canBeHeard_54 hm rfl
    · refine z_aload_n hC dX7_canBeHeard_24 rfl 0 rfl ?_
      refine z_iload_n hC dX7_canBeHeard_25 rfl 1 rfl ?_
      refine z_iload hC dX7_canBeHeard_26 4 rfl ?_
      refine z_iload hC dX7_canBeHeard_28 3 rfl ?_
      refine xV_X7_345 hI hC (Nat.le_of_ble_eq_true rfl) hm dX7_canBeHeard_30 (Nat.le_of_ble_eq_true rfl) (fun q2 hm => ?_)
      refine z_aload_n hC dX7_canBeHeard_33 rfl 0 rfl ?_
      refine gV_X7_12_o hC dX7_canBeHeard_34 ?_
      refine gV_X7_99_stage hC dX7_canBeHeard_37 ?_
      refine z_iload_n hC dX7_canBeHeard_40 rfl 2 rfl ?_
      refine aV_words hC hm dX7_canBeHeard_41 (fun hm => ?_)
      refine z_icmp_ne (tgt := 47) hC hm dX7_canBeHeard_42 (by decide) (fun hm => ?_) (fun hm => ?_)
      · refine z_iconst hC dX7_canBeHeard_45 kI_1 ?_
        exact riV (fin := fun z => V_put_look z u) hC hr rfl dX7_canBeHeard_46 hm rfl
      · refine z_iinc (lv' := [(5, .int (x5 + (1 : Int32))), (0, .ref (ad 0)), (2, .int x2), (3, .int x3), (4, .int x4)]) (k := 4) (v := (x5 + (1 : Int32))) hC dX7_canBeHeard_47 rfl rfl (by decide) rfl ?_
        refine z_goto (tgt := 17) hC dX7_canBeHeard_50 (by decide) ?_
        refine z_lv hC [1, 2, 3, 4, 0] rfl ?_
        exact ih _ _ hm
def mV_canBeHeard (a : Nat) (x2 : Int32) (x3 : Int32) (u : SV) : Option (Int32 × SK) :=
  (mV_lookAt a x2 ((2 : Int32) * x3) u).bind fun q1 => (mV_canBeHeard_L17 a x2 x3 (K_joined q1) 256 (0 : Int32) (V_put_look (q1) u))
set_option maxRecDepth 100000 in
set_option maxHeartbeats 4000000 in
theorem cV_canBeHeard {l : Launch} {D : va_G} {cA : Nat → ClassId} {ad : Nat → Nat} {tK tB : Nat} {kS vS : Nat → Nat} {vT vH vA : Value} {a : Nat} (hI : zInj ad 80) (x2 : Int32) (x3 : Int32) (u : SV) {r : Int32} {w' : SK} (hm : mV_canBeHeard a x2 x3 u = some (r, w')) : Met l yX7_canBeHeard (zWs yX7_canBeHeard cX7_canBeHeard 6 (some .boolean)) (zRm 4) (va_Pc [.ref (ad 0), .ref (ad (70 + a)), .int x2, .int x3] (zPre D (zTy cA) (zE tK tB kS vS) (zAd ad 80) (wV cA ad vT vH vA u))) (zQi r (zBw D (wV cA ad vT vH vA (V_put_look w' u))) (zAd ad 80)) 0 0 (zAd ad 80) := by
  refine z_met (lv := [(0, .ref (ad 0)), (1, .ref (ad (70 + a))), (2, .int x2), (3, .int x3)]) plX7 rfl rfl (Nat.le_of_ble_eq_true rfl) rfl ?_
  intro p e s m below meth c hC hr hin
  unfold mV_canBeHeard at hm
  refine z_aload_n hC dX7_canBeHeard_0 rfl 0 rfl ?_
  refine z_aload_n hC dX7_canBeHeard_1 rfl 1 rfl ?_
  refine z_iload_n hC dX7_canBeHeard_2 rfl 2 rfl ?_
  refine z_iconst hC dX7_canBeHeard_3 kI_2 ?_
  refine z_iload_n hC dX7_canBeHeard_4 rfl 3 rfl ?_
  refine z_imul hC dX7_canBeHeard_5 ?_
  refine xV_X7_146 hI hC (Nat.le_of_ble_eq_true rfl) (fun _ h => h) hm dX7_canBeHeard_6 (Nat.le_of_ble_eq_true rfl) (fun q1 hm => ?_)
  refine zuV (u2 := (V_put_look (q1) u)) rfl ?_
  refine gV_X7_159_look (v := (K_joined q1)) hC dX7_canBeHeard_9 rfl ?_
  refine z_istore (lv' := [(4, .int (K_joined q1)), (0, .ref (ad 0)), (1, .ref (ad (70 + a))), (2, .int x2), (3, .int x3)]) hC dX7_canBeHeard_12 (by decide) rfl ?_
  refine z_iconst hC dX7_canBeHeard_14 kI_0 ?_
  refine z_istore (lv' := [(5, .int (0 : Int32)), (4, .int (K_joined q1)), (0, .ref (ad 0)), (1, .ref (ad (70 + a))), (2, .int x2), (3, .int x3)]) hC dX7_canBeHeard_15 (by decide) rfl ?_
  refine z_lv hC [2, 4, 5, 1, 0] rfl ?_
  exact lV_canBeHeard_17 hI hC hr _ _ _ hm
theorem xV_X7_231 {p : Program} {l : Launch} {e : Env} {s : State} {m : MethodId} {args : Array Value} {below : List Frame} {meth : Method} {c : Code} {Q : State → Prop} {D : va_G} {A : Nat → Prop} {cc : ByteArray} {nL : Nat} {lv : List (Nat × Value)} {pc : Nat} {st : List Value} {cA : Nat → ClassId} {ad : Nat → Nat} {tK tB : Nat} {kS vS : Nat → Nat} {vT vH vA : Value} {d : Nat} {a : Nat} {x2 : Int32} {x3 : Int32} {u : SV} (hI : zInj ad 80) (C : zC p s m args meth c cc nL RX7 zTS D (zTy cA) A (zE tK tB kS vS)) (hdm : 4 + 1 ≤ d) (hA : ∀ q, zAd ad 80 q → A q) {β : Type} {f : (Int32 × SK) → Option β} {o : β} (hm : (mV_canBeHeard a x2 x3 u).bind f = some o) (hd : decode cc pc = .ok (.invokevirtual 231, 3)) (h8 : (st.map fun v => v.category).sum ≤ 8) (g : ∀ q, f q = some o → zG p l e (zRm d) s m args below meth c nL D A Q (wV cA ad vT vH vA (V_put_look q.2 u)) lv (pc + 3) (.int q.1 :: st)) : zG p l e (zRm d) s m args below meth c nL D A Q (wV cA ad vT vH vA u) lv pc (.int x3 :: .int x2 :: .ref (ad (70 + a)) :: .ref (ad 0) :: st) := by
  obtain ⟨q, h1, h2⟩ := zb_some hm
  exact z_calliV C (cV_canBeHeard (ad := ad) (cA := cA) hI x2 x3 u h1) (cwX7_231 C.1.2.2.2.2 rfl rfl ⟨hdm, by have := hdm; simp only [zRm]; omega⟩) hd rfl rfl h8 ⟨_, rfl, rfl⟩ (List.mem_of_getElem? (heV_o cA ad _ _ _ u)) (fun _ h => h) hA zJ_same (g q h2)
def mV_changed_L26 (a1 : Nat) (x2 : Int32) : Nat → Int32 → Int32 → SV → Option (Int32 × SK)
  | 0, _, _, _ => none
  | n + 1, x4, x5, u => if (S_letters (V_stage u)) ≤ x5 then (some (x4, ((V_look u)))) else ((mV_isRight a1 x2 x5 u).bind fun q2 => (if q2.1 = 0 then ((mV_canBeHeard a1 x2 x5 (V_put_look (q2.2) u)).bind fun q3 => (if q3.1 = 0 then (mV_changed_L26 a1 x2 n (x4 + (1 : Int32)) (x5 + (1 : Int32)) (V_put_look (q3.2) u)) else (mV_changed_L26 a1 x2 n x4 (x5 + (1 : Int32)) (V_put_look (q3.2) u)))) else (mV_changed_L26 a1 x2 n x4 (x5 + (1 : Int32)) (V_put_look (q2.2) u))))
set_option maxRecDepth 100000 in
set_option maxHeartbeats 4000000 in
theorem lV_changed_26 {l : Launch} {D : va_G} {cA : Nat → ClassId} {ad : Nat → Nat} {p : Program} {e : Env} {s : State} {m : MethodId} {args : Array Value} {below : List Frame} {meth : Method} {c : Code} {tK tB : Nat} {kS vS : Nat → Nat} {vT : Value} {vH : Value} {vA : Value} {r : Int32} {w' : SK}  {a1 : Nat} {x2 : Int32} (hI : zInj ad 80) (hC : zC p s m args meth c cX7_changed 6 RX7 zTS D (zTy cA) (zAd ad 80) (zE tK tB kS vS)) (hr : meth.sig.returnType = (some .int)) : ∀ (n : Nat) (x4 : Int32) (x5 : Int32) (u : SV), mV_changed_L26 a1 x2 n x4 x5 u = some (r, w') → zG p l e (zRm 6) s m args below meth c 6 D (zAd ad 80) (MQ below (zQi r (zBw D (wV cA ad vT vH vA (V_put_look w' u))) (zAd ad 80)) args s 0 0 (zAd ad 80)) (wV cA ad vT vH vA u) [(0, .ref (ad 0)), (2, .int x2), (3, .ref (ad (70 + a1))), (4, .int x4), (5, .int x5)] 26 [] := by
  intro n
  induction n with
  | zero => intro x4 x5 u hm; exact z_none hm
  | succ n ih =>
    intro x4 x5 u hm
    rw [mV_changed_L26] at hm
    refine z_iload hC dX7_changed_26 4 rfl ?_
    refine z_aload_n hC dX7_changed_28 rfl 0 rfl ?_
    refine gV_X7_12_o hC dX7_changed_29 ?_
    refine gV_X7_96_stage (v := (S_letters (V_stage u))) hC dX7_changed_32 rfl ?_
    refine z_icmp_ge (tgt := 69) hC hm dX7_changed_35 (by decide) (fun hm => ?_) (fun hm => ?_)
    · refine z_iload hC dX7_changed_69 3 rfl ?_
      exact riV (fin := fun z => V_put_look z u) hC hr rfl dX7_changed_71 hm rfl
    · refine z_aload_n hC dX7_changed_38 rfl 0 rfl ?_
      refine z_aload_n hC dX7_changed_39 rfl 2 rfl ?_
      refine z_iload_n hC dX7_changed_40 rfl 1 rfl ?_
      refine z_iload hC dX7_changed_41 4 rfl ?_
      refine xV_X7_180 hI hC (Nat.le_of_ble_eq_true rfl) (fun _ h => h) hm dX7_changed_43 (Nat.le_of_ble_eq_true rfl) (fun q2 hm => ?_)
      refine zuV (u2 := (V_put_look (q2.2) u)) rfl ?_
      refine z_if_ne (tgt := 63) hC hm dX7_changed_46 (by decide) (fun hm => ?_) (fun hm => ?_)
      · refine z_aload_n hC dX7_changed_49 rfl 0 rfl ?_
        refine z_aload_n hC dX7_changed_50 rfl 2 rfl ?_
        refine z_iload_n hC dX7_changed_51 rfl 1 rfl ?_
        refine z_iload hC dX7_changed_52 4 rfl ?_
        refine xV_X7_231 hI hC (Nat.le_of_ble_eq_true rfl) (fun _ h => h) hm dX7_changed_54 (Nat.le_of_ble_eq_true rfl) (fun q3 hm => ?_)
        refine zuV (u2 := (V_put_look (q3.2) u)) rfl ?_
        refine z_if_ne (tgt := 63) hC hm dX7_changed_57 (by decide) (fun hm => ?_) (fun hm => ?_)
        · refine z_iinc (lv' := [(4, .int (x4 + (1 : Int32))), (0, .ref (ad 0)), (2, .int x2), (3, .ref (ad (70 + a1))), (5, .int x5)]) (k := 3) (v := (x4 + (1 : Int32))) hC dX7_changed_60 rfl rfl (by decide) rfl ?_
          refine z_iinc (lv' := [(5, .int (x5 + (1 : Int32))), (4, .int (x4 + (1 : Int32))), (0, .ref (ad 0)), (2, .int x2), (3, .ref (ad (70 + a1)))]) (k := 4) (v := (x5 + (1 : Int32))) hC dX7_changed_63 rfl rfl (by decide) rfl ?_
          refine z_goto (tgt := 26) hC dX7_changed_66 (by decide) ?_
          refine z_lv hC [2, 3, 4, 1, 0] rfl ?_
          exact ih _ _ _ hm
        · refine z_iinc (lv' := [(5, .int (x5 + (1 : Int32))), (0, .ref (ad 0)), (2, .int x2), (3, .ref (ad (70 + a1))), (4, .int x4)]) (k := 4) (v := (x5 + (1 : Int32))) hC dX7_changed_63 rfl rfl (by decide) rfl ?_
          refine z_goto (tgt := 26) hC dX7_changed_66 (by decide) ?_
          refine z_lv hC [1, 2, 3, 4, 0] rfl ?_
          exact ih _ _ _ hm
      · refine z_iinc (lv' := [(5, .int (x5 + (1 : Int32))), (0, .ref (ad 0)), (2, .int x2), (3, .ref (ad (70 + a1))), (4, .int x4)]) (k := 4) (v := (x5 + (1 : Int32))) hC dX7_changed_63 rfl rfl (by decide) rfl ?_
        refine z_goto (tgt := 26) hC dX7_changed_66 (by decide) ?_
        refine z_lv hC [1, 2, 3, 4, 0] rfl ?_
        exact ih _ _ _ hm
def mV_changed (x1 : Int32) (x2 : Int32) (u : SV) : Option (Int32 × SK) :=
  (mV_voiceAt x1 u).bind fun v1 => zcs v1 (some ((-1 : Int32), ((V_look u)))) (fun a1 => (if (mV_isSeat x2 u) = 0 then (some ((-1 : Int32), ((V_look u)))) else (mV_changed_L26 a1 x2 256 (0 : Int32) (0 : Int32) u)))
set_option maxRecDepth 100000 in
set_option maxHeartbeats 4000000 in
theorem cV_changed {l : Launch} {D : va_G} {cA : Nat → ClassId} {ad : Nat → Nat} {tK tB : Nat} {kS vS : Nat → Nat} {vT vH vA : Value} (hI : zInj ad 80) (x1 : Int32) (x2 : Int32) (u : SV) {r : Int32} {w' : SK} (hm : mV_changed x1 x2 u = some (r, w')) : Met l yX7_changed (zWs yX7_changed cX7_changed 6 (some .int)) (zRm 6) (va_Pc [.ref (ad 0), .int x1, .int x2] (zPre D (zTy cA) (zE tK tB kS vS) (zAd ad 80) (wV cA ad vT vH vA u))) (zQi r (zBw D (wV cA ad vT vH vA (V_put_look w' u))) (zAd ad 80)) 0 0 (zAd ad 80) := by
  refine z_met (lv := [(0, .ref (ad 0)), (1, .int x1), (2, .int x2)]) plX7 rfl rfl (Nat.le_of_ble_eq_true rfl) rfl ?_
  intro p e s m below meth c hC hr hin
  unfold mV_changed at hm
  refine z_aload_n hC dX7_changed_0 rfl 0 rfl ?_
  refine z_iload_n hC dX7_changed_1 rfl 1 rfl ?_
  refine xV_X7_139 hI hC (Nat.le_of_ble_eq_true rfl) hm dX7_changed_2 (Nat.le_of_ble_eq_true rfl) (fun hm => ?_) (fun a1 hm => ?_)
  · refine z_astore_nN (lv' := [(3, .null), (0, .ref (ad 0)), (1, .int x1), (2, .int x2)]) hC dX7_changed_5 rfl (by decide) rfl ?_
    refine z_aload_nN hC dX7_changed_6 rfl 0 rfl ?_
    refine z_ifnullN (tgt := 18) hC dX7_changed_7 (by decide) ?_
    refine z_iconst hC dX7_changed_18 kI_m1 ?_
    exact riV (fin := fun z => V_put_look z u) hC hr rfl dX7_changed_19 hm rfl
  · refine z_astore_n (lv' := [(3, .ref (ad (70 + a1))), (0, .ref (ad 0)), (1, .int x1), (2, .int x2)]) hC dX7_changed_5 rfl (by decide) rfl ?_
    refine z_aload_n hC dX7_changed_6 rfl 0 rfl ?_
    refine z_ifnull hC dX7_changed_7 ?_
    refine z_aload_n hC dX7_changed_10 rfl 1 rfl ?_
    refine z_iload_n hC dX7_changed_11 rfl 3 rfl ?_
    refine xV_X7_93 hI hC (Nat.le_of_ble_eq_true rfl) dX7_changed_12 (Nat.le_of_ble_eq_true rfl) ?_
    refine z_if_ne (tgt := 20) hC hm dX7_changed_15 (by decide) (fun hm => ?_) (fun hm => ?_)
    · refine z_iconst hC dX7_changed_18 kI_m1 ?_
      exact riV (fin := fun z => V_put_look z u) hC hr rfl dX7_changed_19 hm rfl
    · refine z_iconst hC dX7_changed_20 kI_0 ?_
      refine z_istore (lv' := [(4, .int (0 : Int32)), (3, .ref (ad (70 + a1))), (0, .ref (ad 0)), (1, .int x1), (2, .int x2)]) hC dX7_changed_21 (by decide) rfl ?_
      refine z_iconst hC dX7_changed_23 kI_0 ?_
      refine z_istore (lv' := [(5, .int (0 : Int32)), (4, .int (0 : Int32)), (3, .ref (ad (70 + a1))), (0, .ref (ad 0)), (1, .int x1), (2, .int x2)]) hC dX7_changed_24 (by decide) rfl ?_
      refine z_lv hC [3, 5, 2, 1, 0] rfl ?_
      exact lV_changed_26 hI hC hr _ _ _ _ hm
def mV_boxesSum_L5 (x1 : Int32) (x2 : Int32) (u : SV) : Nat → Int32 → Int32 → Option Int32
  | 0, _, _ => none
  | n + 1, x3, x4 => if (V_seats u) ≤ x4 then (some x3) else (zgi x4 8 (zgi x4 8 (zgi x4 8 (mV_boxesSum_L5 x1 x2 u n (x3 + ((zmin (zabs (x1 - ((V_side u) (x4).toNatClampNeg))) (zabs (x2 - ((V_side u) (x4).toNatClampNeg)))) * ((V_far u) (x4).toNatClampNeg))) (x4 + (1 : Int32))))))
set_option maxRecDepth 100000 in
set_option maxHeartbeats 4000000 in
theorem lV_boxesSum_5 {l : Launch} {D : va_G} {cA : Nat → ClassId} {ad : Nat → Nat} {p : Program} {e : Env} {s : State} {m : MethodId} {args : Array Value} {below : List Frame} {meth : Method} {c : Code} {tK tB : Nat} {kS vS : Nat → Nat} {vT : Value} {vH : Value} {vA : Value} {r : Int32}  {x1 : Int32} {x2 : Int32} {u : SV} (hI : zInj ad 80) (hC : zC p s m args meth c cX7_boxesSum 6 RX7 zTS D (zTy cA) zA0 (zE tK tB kS vS)) (hr : meth.sig.returnType = (some .int)) : ∀ (n : Nat) (x3 : Int32) (x4 : Int32), mV_boxesSum_L5 x1 x2 u n x3 x4 = some r → zG p l e (zRm 1) s m args below meth c 6 D zA0 (MQ below (zQi r zB0 zA0) args s 0 0 zA0) (wV cA ad vT vH vA u) [(0, .ref (ad 0)), (1, .int x1), (2, .int x2), (3, .int x3), (4, .int x4)] 5 [] := by
  intro n
  induction n with
  | zero => intro x3 x4 hm; exact z_none hm
  | succ n ih =>
    intro x3 x4 hm
    rw [mV_boxesSum_L5] at hm
    refine z_iload hC dX7_boxesSum_5 4 rfl ?_
    refine z_aload_n hC dX7_boxesSum_7 rfl 0 rfl ?_
    refine gV_X7_90_o (v := (V_seats u)) hC dX7_boxesSum_8 rfl ?_
    refine z_icmp_ge (tgt := 62) hC hm dX7_boxesSum_11 (by decide) (fun hm => ?_) (fun hm => ?_)
    · refine z_iload_n hC dX7_boxesSum_62 rfl 3 rfl ?_
      exact z_iret hC hr rfl dX7_boxesSum_63 (fun _ _ => trivial) (Option.some.inj hm)
    · refine z_iload_n hC dX7_boxesSum_14 rfl 1 rfl ?_
      refine z_aload_n hC dX7_boxesSum_15 rfl 0 rfl ?_
      refine gV_X7_25_o hC dX7_boxesSum_16 ?_
      refine z_iload hC dX7_boxesSum_19 4 rfl ?_
      refine aV_side hC hm dX7_boxesSum_21 (fun hm => ?_)
      refine z_isub hC dX7_boxesSum_22 ?_
      refine z_abs hC mmX7_206 (Nat.le_of_ble_eq_true rfl) (Nat.le_of_ble_eq_true rfl) dX7_boxesSum_23 ?_
      refine z_iload_n hC dX7_boxesSum_26 rfl 2 rfl ?_
      refine z_aload_n hC dX7_boxesSum_27 rfl 0 rfl ?_
      refine gV_X7_25_o hC dX7_boxesSum_28 ?_
      refine z_iload hC dX7_boxesSum_31 4 rfl ?_
      refine aV_side hC hm dX7_boxesSum_33 (fun hm => ?_)
      refine z_isub hC dX7_boxesSum_34 ?_
      refine z_abs hC mmX7_206 (Nat.le_of_ble_eq_true rfl) (Nat.le_of_ble_eq_true rfl) dX7_boxesSum_35 ?_
      refine z_min hC mmX7_342 (Nat.le_of_ble_eq_true rfl) (Nat.le_of_ble_eq_true rfl) dX7_boxesSum_38 ?_
      refine z_istore (lv' := [(5, .int (zmin (zabs (x1 - ((V_side u) (x4).toNatClampNeg))) (zabs (x2 - ((V_side u) (x4).toNatClampNeg))))), (0, .ref (ad 0)), (1, .int x1), (2, .int x2), (3, .int x3), (4, .int x4)]) hC dX7_boxesSum_41 (by decide) rfl ?_
      refine z_iload_n hC dX7_boxesSum_43 rfl 4 rfl ?_
      refine z_iload hC dX7_boxesSum_44 0 rfl ?_
      refine z_aload_n hC dX7_boxesSum_46 rfl 1 rfl ?_
      refine gV_X7_21_o hC dX7_boxesSum_47 ?_
      refine z_iload hC dX7_boxesSum_50 5 rfl ?_
      refine aV_far hC hm dX7_boxesSum_52 (fun hm => ?_)
      refine z_imul hC dX7_boxesSum_53 ?_
      refine z_iadd hC dX7_boxesSum_54 ?_
      refine z_istore_n (lv' := [(3, .int (x3 + ((zmin (zabs (x1 - ((V_side u) (x4).toNatClampNeg))) (zabs (x2 - ((V_side u) (x4).toNatClampNeg)))) * ((V_far u) (x4).toNatClampNeg)))), (5, .int (zmin (zabs (x1 - ((V_side u) (x4).toNatClampNeg))) (zabs (x2 - ((V_side u) (x4).toNatClampNeg))))), (0, .ref (ad 0)), (1, .int x1), (2, .int x2), (4, .int x4)]) hC dX7_boxesSum_55 rfl (by decide) rfl ?_
      refine z_iinc (lv' := [(4, .int (x4 + (1 : Int32))), (3, .int (x3 + ((zmin (zabs (x1 - ((V_side u) (x4).toNatClampNeg))) (zabs (x2 - ((V_side u) (x4).toNatClampNeg)))) * ((V_far u) (x4).toNatClampNeg)))), (5, .int (zmin (zabs (x1 - ((V_side u) (x4).toNatClampNeg))) (zabs (x2 - ((V_side u) (x4).toNatClampNeg))))), (0, .ref (ad 0)), (1, .int x1), (2, .int x2)]) (k := 5) (v := (x4 + (1 : Int32))) hC dX7_boxesSum_56 rfl rfl (by decide) rfl ?_
      refine z_goto (tgt := 5) hC dX7_boxesSum_59 (by decide) ?_
      refine z_lv hC [3, 4, 5, 1, 0] rfl ?_
      exact ih _ _ hm
def mV_boxesSum (x1 : Int32) (x2 : Int32) (u : SV) : Option Int32 :=
  mV_boxesSum_L5 x1 x2 u 256 (0 : Int32) (0 : Int32)
set_option maxRecDepth 100000 in
set_option maxHeartbeats 4000000 in
theorem cV_boxesSum {l : Launch} {D : va_G} {cA : Nat → ClassId} {ad : Nat → Nat} {tK tB : Nat} {kS vS : Nat → Nat} {vT vH vA : Value} (hI : zInj ad 80) (x1 : Int32) (x2 : Int32) (u : SV) {r : Int32} (hm : mV_boxesSum x1 x2 u = some r) : Met l yX7_boxesSum (zWs yX7_boxesSum cX7_boxesSum 6 (some .int)) (zRm 1) (va_Pc [.ref (ad 0), .int x1, .int x2] (zPre D (zTy cA) (zE tK tB kS vS) zA0 (wV cA ad vT vH vA u))) (zQi r zB0 zA0) 0 0 zA0 := by
  refine z_met (lv := [(0, .ref (ad 0)), (1, .int x1), (2, .int x2)]) plX7 rfl rfl (Nat.le_of_ble_eq_true rfl) rfl ?_
  intro p e s m below meth c hC hr hin
  unfold mV_boxesSum at hm
  refine z_iconst hC dX7_boxesSum_0 kI_0 ?_
  refine z_istore_n (lv' := [(3, .int (0 : Int32)), (0, .ref (ad 0)), (1, .int x1), (2, .int x2)]) hC dX7_boxesSum_1 rfl (by decide) rfl ?_
  refine z_iconst hC dX7_boxesSum_2 kI_0 ?_
  refine z_istore (lv' := [(4, .int (0 : Int32)), (3, .int (0 : Int32)), (0, .ref (ad 0)), (1, .int x1), (2, .int x2)]) hC dX7_boxesSum_3 (by decide) rfl ?_
  refine z_lv hC [2, 3, 4, 1, 0] rfl ?_
  exact lV_boxesSum_5 hI hC hr _ _ _ hm
theorem xV_X7_352 {p : Program} {l : Launch} {e : Env} {s : State} {m : MethodId} {args : Array Value} {below : List Frame} {meth : Method} {c : Code} {Q : State → Prop} {D : va_G} {A : Nat → Prop} {cc : ByteArray} {nL : Nat} {lv : List (Nat × Value)} {pc : Nat} {st : List Value} {cA : Nat → ClassId} {ad : Nat → Nat} {tK tB : Nat} {kS vS : Nat → Nat} {vT vH vA : Value} {d : Nat} {x1 : Int32} {x2 : Int32} {u : SV} (hI : zInj ad 80) (C : zC p s m args meth c cc nL RX7 zTS D (zTy cA) A (zE tK tB kS vS)) (hdm : 1 + 1 ≤ d) {β : Type} {f : Int32 → Option β} {o : β} (hm : (mV_boxesSum x1 x2 u).bind f = some o) (hd : decode cc pc = .ok (.invokevirtual 352, 3)) (h8 : (st.map fun v => v.category).sum ≤ 8) (g : ∀ q, f q = some o → zG p l e (zRm d) s m args below meth c nL D A Q (wV cA ad vT vH vA u) lv (pc + 3) (.int q :: st)) : zG p l e (zRm d) s m args below meth c nL D A Q (wV cA ad vT vH vA u) lv pc (.int x2 :: .int x1 :: .ref (ad 0) :: st) := by
  obtain ⟨q, h1, h2⟩ := zb_some hm
  exact z_calliV C (cV_boxesSum (ad := ad) (cA := cA) hI x1 x2 u h1) (cwX7_352 C.1.2.2.2.2 rfl rfl ⟨hdm, by have := hdm; simp only [zRm]; omega⟩) hd rfl rfl h8 ⟨_, rfl, rfl⟩ (List.mem_of_getElem? (heV_o cA ad _ _ _ u)) (fun _ h => h) (fun _ h => h.elim) zJ_ro (g q h2)
def mV_bestBoxes_L51 (K10 : Int32 → Int32 → Option Int32) (x1 : Int32) (x2 : Int32) (x4 : Int32) (x6 : Int32) (u : SV) : Nat → Int32 → Int32 → Option Int32
  | 0, _, _ => none
  | n + 1, x3, x7 => if x6 < x7 then (K10 x3 (x4 + (1 : Int32))) else ((mV_boxesSum x4 x7 u).bind fun q1 => (mV_bestBoxes_L51 K10 x1 x2 x4 x6 u n (zmin x3 ((((q1 * x2) + x4) * x2) + x7)) (x7 + (1 : Int32))))
set_option maxRecDepth 100000 in
set_option maxHeartbeats 4000000 in
theorem lV_bestBoxes_51 {l : Launch} {D : va_G} {cA : Nat → ClassId} {ad : Nat → Nat} {p : Program} {e : Env} {s : State} {m : MethodId} {args : Array Value} {below : List Frame} {meth : Method} {c : Code} {tK tB : Nat} {kS vS : Nat → Nat} {vT : Value} {vH : Value} {vA : Value} {r : Int32}  {K10 : Int32 → Int32 → Option Int32} {x1 : Int32} {x2 : Int32} {x4 : Int32} {x6 : Int32} {u : SV} (hI : zInj ad 80) (hC : zC p s m args meth c cX7_bestBoxes 9 RX7 zTS D (zTy cA) zA0 (zE tK tB kS vS)) (hr : meth.sig.returnType = (some .int)) (hK10 : ∀ (x3 : Int32) (x4 : Int32), K10 x3 x4 = some r → zG p l e (zRm 2) s m args below meth c 9 D zA0 (MQ below (zQi r zB0 zA0) args s 0 0 zA0) (wV cA ad vT vH vA u) [(0, .ref (ad 0)), (1, .int x1), (2, .int x2), (3, .int x3), (4, .int x4)] 10 []) : ∀ (n : Nat) (x3 : Int32) (x7 : Int32), mV_bestBoxes_L51 K10 x1 x2 x4 x6 u n x3 x7 = some r → zG p l e (zRm 2) s m args below meth c 9 D zA0 (MQ below (zQi r zB0 zA0) args s 0 0 zA0) (wV cA ad vT vH vA u) [(0, .ref (ad 0)), (1, .int x1), (2, .int x2), (3, .int x3), (4, .int x4), (6, .int x6), (7, .int x7)] 51 [] := by
  intro n
  induction n with
  | zero => intro x3 x7 hm; exact z_none hm
  | succ n ih =>
    intro x3 x7 hm
    rw [mV_bestBoxes_L51] at hm
    refine z_iload hC dX7_bestBoxes_51 6 rfl ?_
    refine z_iload hC dX7_bestBoxes_53 5 rfl ?_
    refine z_icmp_gt (tgt := 91) hC hm dX7_bestBoxes_55 (by decide) (fun hm => ?_) (fun hm => ?_)
    · refine z_iinc (lv' := [(4, .int (x4 + (1 : Int32))), (0, .ref (ad 0)), (1, .int x1), (2, .int x2), (3, .int x3), (6, .int x6), (7, .int x7)]) (k := 4) (v := (x4 + (1 : Int32))) hC dX7_bestBoxes_91 rfl rfl (by decide) rfl ?_
      refine z_goto (tgt := 10) hC dX7_bestBoxes_94 (by decide) ?_
      refine z_lv hC [1, 2, 3, 4, 0] rfl ?_
      exact hK10 _ _ hm
    · refine z_aload_n hC dX7_bestBoxes_58 rfl 0 rfl ?_
      refine z_iload hC dX7_bestBoxes_59 4 rfl ?_
      refine z_iload hC dX7_bestBoxes_61 6 rfl ?_
      refine xV_X7_352 hI hC (Nat.le_of_ble_eq_true rfl) hm dX7_bestBoxes_63 (Nat.le_of_ble_eq_true rfl) (fun q1 hm => ?_)
      refine z_iload_n hC dX7_bestBoxes_66 rfl 2 rfl ?_
      refine z_imul hC dX7_bestBoxes_67 ?_
      refine z_iload hC dX7_bestBoxes_68 4 rfl ?_
      refine z_iadd hC dX7_bestBoxes_70 ?_
      refine z_iload_n hC dX7_bestBoxes_71 rfl 2 rfl ?_
      refine z_imul hC dX7_bestBoxes_72 ?_
      refine z_iload hC dX7_bestBoxes_73 6 rfl ?_
      refine z_iadd hC dX7_bestBoxes_75 ?_
      refine z_istore (lv' := [(8, .int ((((q1 * x2) + x4) * x2) + x7)), (0, .ref (ad 0)), (1, .int x1), (2, .int x2), (3, .int x3), (4, .int x4), (6, .int x6), (7, .int x7)]) hC dX7_bestBoxes_76 (by decide) rfl ?_
      refine z_iload_n hC dX7_bestBoxes_78 rfl 4 rfl ?_
      refine z_iload hC dX7_bestBoxes_79 0 rfl ?_
      refine z_min hC mmX7_342 (Nat.le_of_ble_eq_true rfl) (Nat.le_of_ble_eq_true rfl) dX7_bestBoxes_81 ?_
      refine z_istore_n (lv' := [(3, .int (zmin x3 ((((q1 * x2) + x4) * x2) + x7))), (8, .int ((((q1 * x2) + x4) * x2) + x7)), (0, .ref (ad 0)), (1, .int x1), (2, .int x2), (4, .int x4), (6, .int x6), (7, .int x7)]) hC dX7_bestBoxes_84 rfl (by decide) rfl ?_
      refine z_iinc (lv' := [(7, .int (x7 + (1 : Int32))), (3, .int (zmin x3 ((((q1 * x2) + x4) * x2) + x7))), (8, .int ((((q1 * x2) + x4) * x2) + x7)), (0, .ref (ad 0)), (1, .int x1), (2, .int x2), (4, .int x4), (6, .int x6)]) (k := 7) (v := (x7 + (1 : Int32))) hC dX7_bestBoxes_85 rfl rfl (by decide) rfl ?_
      refine z_goto (tgt := 51) hC dX7_bestBoxes_88 (by decide) ?_
      refine z_lv hC [3, 4, 5, 1, 6, 7, 0] rfl ?_
      exact ih _ _ hm
def mV_bestBoxes_J31 (K10 : Int32 → Int32 → Option Int32) (x1 : Int32) (x2 : Int32) (x3 : Int32) (x4 : Int32) (s0 : Int32) (u : SV) : Option Int32 :=
  if x1 = (1 : Int32) then (mV_bestBoxes_L51 (K10) x1 x2 x4 x4 u 256 x3 s0) else (mV_bestBoxes_L51 (K10) x1 x2 x4 (40 : Int32) u 256 x3 s0)
set_option maxRecDepth 100000 in
set_option maxHeartbeats 4000000 in
theorem jV_bestBoxes_31 {l : Launch} {D : va_G} {cA : Nat → ClassId} {ad : Nat → Nat} {p : Program} {e : Env} {s : State} {m : MethodId} {args : Array Value} {below : List Frame} {meth : Method} {c : Code} {tK tB : Nat} {kS vS : Nat → Nat} {vT : Value} {vH : Value} {vA : Value} {r : Int32}  {K10 : Int32 → Int32 → Option Int32} {x1 : Int32} {x2 : Int32} {x3 : Int32} {x4 : Int32} {s0 : Int32} {u : SV} (hI : zInj ad 80) (hC : zC p s m args meth c cX7_bestBoxes 9 RX7 zTS D (zTy cA) zA0 (zE tK tB kS vS)) (hr : meth.sig.returnType = (some .int)) (hK10 : ∀ (x3 : Int32) (x4 : Int32), K10 x3 x4 = some r → zG p l e (zRm 2) s m args below meth c 9 D zA0 (MQ below (zQi r zB0 zA0) args s 0 0 zA0) (wV cA ad vT vH vA u) [(0, .ref (ad 0)), (1, .int x1), (2, .int x2), (3, .int x3), (4, .int x4)] 10 []) (hm : mV_bestBoxes_J31 K10 x1 x2 x3 x4 s0 u = some r) : zG p l e (zRm 2) s m args below meth c 9 D zA0 (MQ below (zQi r zB0 zA0) args s 0 0 zA0) (wV cA ad vT vH vA u) [(0, .ref (ad 0)), (1, .int x1), (2, .int x2), (3, .int x3), (4, .int x4)] 31 [.int s0] := by
  unfold mV_bestBoxes_J31 at hm
  refine z_istore (lv' := [(5, .int s0), (0, .ref (ad 0)), (1, .int x1), (2, .int x2), (3, .int x3), (4, .int x4)]) hC dX7_bestBoxes_31 (by decide) rfl ?_
  refine z_iload_n hC dX7_bestBoxes_33 rfl 2 rfl ?_
  refine z_iconst hC dX7_bestBoxes_34 kI_1 ?_
  refine z_icmp_ne (tgt := 43) hC hm dX7_bestBoxes_35 (by decide) (fun hm => ?_) (fun hm => ?_)
  · refine z_iload hC dX7_bestBoxes_38 5 rfl ?_
    refine z_goto (tgt := 45) hC dX7_bestBoxes_40 (by decide) ?_
    refine z_istore (lv' := [(6, .int x4), (5, .int s0), (0, .ref (ad 0)), (1, .int x1), (2, .int x2), (3, .int x3), (4, .int x4)]) hC dX7_bestBoxes_45 (by decide) rfl ?_
    refine z_iload hC dX7_bestBoxes_47 1 rfl ?_
    refine z_istore (lv' := [(7, .int s0), (6, .int x4), (5, .int s0), (0, .ref (ad 0)), (1, .int x1), (2, .int x2), (3, .int x3), (4, .int x4)]) hC dX7_bestBoxes_49 (by decide) rfl ?_
    refine z_lv hC [3, 4, 5, 6, 7, 1, 0] rfl ?_
    exact lV_bestBoxes_51 hI hC hr (hK10) _ _ _ hm
  · refine z_bipush hC dX7_bestBoxes_43 kB_40 ?_
    refine z_istore (lv' := [(6, .int (40 : Int32)), (5, .int s0), (0, .ref (ad 0)), (1, .int x1), (2, .int x2), (3, .int x3), (4, .int x4)]) hC dX7_bestBoxes_45 (by decide) rfl ?_
    refine z_iload hC dX7_bestBoxes_47 1 rfl ?_
    refine z_istore (lv' := [(7, .int s0), (6, .int (40 : Int32)), (5, .int s0), (0, .ref (ad 0)), (1, .int x1), (2, .int x2), (3, .int x3), (4, .int x4)]) hC dX7_bestBoxes_49 (by decide) rfl ?_
    refine z_lv hC [3, 4, 5, 6, 7, 1, 0] rfl ?_
    exact lV_bestBoxes_51 hI hC hr (hK10) _ _ _ hm
def mV_bestBoxes_L10 (x1 : Int32) (x2 : Int32) (u : SV) : Nat → Int32 → Int32 → Option Int32
  | 0, _, _ => none
  | n + 1, x3, x4 => if (40 : Int32) < x4 then (some x3) else (if x1 = (1 : Int32) then (mV_bestBoxes_J31 (mV_bestBoxes_L10 x1 x2 u n) x1 x2 x3 x4 x4 u) else (mV_bestBoxes_J31 (mV_bestBoxes_L10 x1 x2 u n) x1 x2 x3 x4 (x4 + (1 : Int32)) u))
set_option maxRecDepth 100000 in
set_option maxHeartbeats 4000000 in
theorem lV_bestBoxes_10 {l : Launch} {D : va_G} {cA : Nat → ClassId} {ad : Nat → Nat} {p : Program} {e : Env} {s : State} {m : MethodId} {args : Array Value} {below : List Frame} {meth : Method} {c : Code} {tK tB : Nat} {kS vS : Nat → Nat} {vT : Value} {vH : Value} {vA : Value} {r : Int32}  {x1 : Int32} {x2 : Int32} {u : SV} (hI : zInj ad 80) (hC : zC p s m args meth c cX7_bestBoxes 9 RX7 zTS D (zTy cA) zA0 (zE tK tB kS vS)) (hr : meth.sig.returnType = (some .int)) : ∀ (n : Nat) (x3 : Int32) (x4 : Int32), mV_bestBoxes_L10 x1 x2 u n x3 x4 = some r → zG p l e (zRm 2) s m args below meth c 9 D zA0 (MQ below (zQi r zB0 zA0) args s 0 0 zA0) (wV cA ad vT vH vA u) [(0, .ref (ad 0)), (1, .int x1), (2, .int x2), (3, .int x3), (4, .int x4)] 10 [] := by
  intro n
  induction n with
  | zero => intro x3 x4 hm; exact z_none hm
  | succ n ih =>
    intro x3 x4 hm
    rw [mV_bestBoxes_L10] at hm
    refine z_iload hC dX7_bestBoxes_10 4 rfl ?_
    refine z_bipush hC dX7_bestBoxes_12 kB_40 ?_
    refine z_icmp_gt (tgt := 97) hC hm dX7_bestBoxes_14 (by decide) (fun hm => ?_) (fun hm => ?_)
    · refine z_iload_n hC dX7_bestBoxes_97 rfl 3 rfl ?_
      exact z_iret hC hr rfl dX7_bestBoxes_98 (fun _ _ => trivial) (Option.some.inj hm)
    · refine z_iload_n hC dX7_bestBoxes_17 rfl 1 rfl ?_
      refine z_iconst hC dX7_bestBoxes_18 kI_1 ?_
      refine z_icmp_ne (tgt := 27) hC hm dX7_bestBoxes_19 (by decide) (fun hm => ?_) (fun hm => ?_)
      · refine z_iload hC dX7_bestBoxes_22 4 rfl ?_
        refine z_goto (tgt := 31) hC dX7_bestBoxes_24 (by decide) ?_
        refine z_lv hC [0, 1, 2, 3, 4] rfl ?_
        exact jV_bestBoxes_31 hI hC hr (ih) hm
      · refine z_iload hC dX7_bestBoxes_27 4 rfl ?_
        refine z_iconst hC dX7_bestBoxes_29 kI_1 ?_
        refine z_iadd hC dX7_bestBoxes_30 ?_
        refine z_lv hC [0, 1, 2, 3, 4] rfl ?_
        exact jV_bestBoxes_31 hI hC hr (ih) hm
def mV_bestBoxes (x1 : Int32) (u : SV) : Option Int32 :=
  mV_bestBoxes_L10 x1 (41 : Int32) u 256 (2147483647 : Int32) (0 : Int32)
set_option maxRecDepth 100000 in
set_option maxHeartbeats 4000000 in
theorem cV_bestBoxes {l : Launch} {D : va_G} {cA : Nat → ClassId} {ad : Nat → Nat} {tK tB : Nat} {kS vS : Nat → Nat} {vT vH vA : Value} (hI : zInj ad 80) (x1 : Int32) (u : SV) {r : Int32} (hm : mV_bestBoxes x1 u = some r) : Met l yX7_bestBoxes (zWs yX7_bestBoxes cX7_bestBoxes 9 (some .int)) (zRm 2) (va_Pc [.ref (ad 0), .int x1] (zPre D (zTy cA) (zE tK tB kS vS) zA0 (wV cA ad vT vH vA u))) (zQi r zB0 zA0) 0 0 zA0 := by
  refine z_met (lv := [(0, .ref (ad 0)), (1, .int x1)]) plX7 rfl rfl (Nat.le_of_ble_eq_true rfl) rfl ?_
  intro p e s m below meth c hC hr hin
  unfold mV_bestBoxes at hm
  refine z_bipush hC dX7_bestBoxes_0 kB_41 ?_
  refine z_istore_n (lv' := [(2, .int (41 : Int32)), (0, .ref (ad 0)), (1, .int x1)]) hC dX7_bestBoxes_2 rfl (by decide) rfl ?_
  refine z_ldc_w hC mcX7_351 dX7_bestBoxes_3 ?_
  refine z_istore_n (lv' := [(3, .int (2147483647 : Int32)), (2, .int (41 : Int32)), (0, .ref (ad 0)), (1, .int x1)]) hC dX7_bestBoxes_6 rfl (by decide) rfl ?_
  refine z_iconst hC dX7_bestBoxes_7 kI_0 ?_
  refine z_istore (lv' := [(4, .int (0 : Int32)), (3, .int (2147483647 : Int32)), (2, .int (41 : Int32)), (0, .ref (ad 0)), (1, .int x1)]) hC dX7_bestBoxes_8 (by decide) rfl ?_
  refine z_lv hC [3, 4, 2, 1, 0] rfl ?_
  exact lV_bestBoxes_10 hI hC hr _ _ _ hm
theorem xV_X7_234 {p : Program} {l : Launch} {e : Env} {s : State} {m : MethodId} {args : Array Value} {below : List Frame} {meth : Method} {c : Code} {Q : State → Prop} {D : va_G} {A : Nat → Prop} {cc : ByteArray} {nL : Nat} {lv : List (Nat × Value)} {pc : Nat} {st : List Value} {cA : Nat → ClassId} {ad : Nat → Nat} {tK tB : Nat} {kS vS : Nat → Nat} {vT vH vA : Value} {d : Nat} {x1 : Int32} {u : SV} (hI : zInj ad 80) (C : zC p s m args meth c cc nL RX7 zTS D (zTy cA) A (zE tK tB kS vS)) (hdm : 2 + 1 ≤ d) {β : Type} {f : Int32 → Option β} {o : β} (hm : (mV_bestBoxes x1 u).bind f = some o) (hd : decode cc pc = .ok (.invokevirtual 234, 3)) (h8 : (st.map fun v => v.category).sum ≤ 8) (g : ∀ q, f q = some o → zG p l e (zRm d) s m args below meth c nL D A Q (wV cA ad vT vH vA u) lv (pc + 3) (.int q :: st)) : zG p l e (zRm d) s m args below meth c nL D A Q (wV cA ad vT vH vA u) lv pc (.int x1 :: .ref (ad 0) :: st) := by
  obtain ⟨q, h1, h2⟩ := zb_some hm
  exact z_calliV C (cV_bestBoxes (ad := ad) (cA := cA) hI x1 u h1) (cwX7_234 C.1.2.2.2.2 rfl rfl ⟨hdm, by have := hdm; simp only [zRm]; omega⟩) hd rfl rfl h8 ⟨_, rfl, rfl⟩ (List.mem_of_getElem? (heV_o cA ad _ _ _ u)) (fun _ h => h) (fun _ h => h.elim) zJ_ro (g q h2)
def mV_boxes_J37 (x1 : Int32) (x2 : Int32) (u : SV) : Option Int32 :=
  (mV_bestBoxes x1 u).bind fun q1 => (if x2 = (0 : Int32) then (zgz (41 : Int32) (zgz (41 : Int32) (some ((q1 / (41 : Int32)) - (q1 / (41 : Int32)) / (41 : Int32) * (41 : Int32))))) else (if x2 = (1 : Int32) then (zgz (41 : Int32) (some (q1 - q1 / (41 : Int32) * (41 : Int32)))) else (zgz ((41 : Int32) * (41 : Int32)) (some (q1 / ((41 : Int32) * (41 : Int32)))))))
set_option maxRecDepth 100000 in
set_option maxHeartbeats 4000000 in
theorem jV_boxes_37 {l : Launch} {D : va_G} {cA : Nat → ClassId} {ad : Nat → Nat} {p : Program} {e : Env} {s : State} {m : MethodId} {args : Array Value} {below : List Frame} {meth : Method} {c : Code} {tK tB : Nat} {kS vS : Nat → Nat} {vT : Value} {vH : Value} {vA : Value} {r : Int32}  {x1 : Int32} {x2 : Int32} {u : SV} (hI : zInj ad 80) (hC : zC p s m args meth c cX7_boxes 5 RX7 zTS D (zTy cA) zA0 (zE tK tB kS vS)) (hr : meth.sig.returnType = (some .int)) (hm : mV_boxes_J37 x1 x2 u = some r) : zG p l e (zRm 3) s m args below meth c 5 D zA0 (MQ below (zQi r zB0 zA0) args s 0 0 zA0) (wV cA ad vT vH vA u) [(0, .ref (ad 0)), (1, .int x1), (2, .int x2)] 37 [] := by
  unfold mV_boxes_J37 at hm
  refine z_bipush hC dX7_boxes_37 kB_41 ?_
  refine z_istore_n (lv' := [(3, .int (41 : Int32)), (0, .ref (ad 0)), (1, .int x1), (2, .int x2)]) hC dX7_boxes_39 rfl (by decide) rfl ?_
  refine z_aload_n hC dX7_boxes_40 rfl 1 rfl ?_
  refine z_iload_n hC dX7_boxes_41 rfl 2 rfl ?_
  refine xV_X7_234 hI hC (Nat.le_of_ble_eq_true rfl) hm dX7_boxes_42 (Nat.le_of_ble_eq_true rfl) (fun q1 hm => ?_)
  refine z_istore (lv' := [(4, .int q1), (3, .int (41 : Int32)), (0, .ref (ad 0)), (1, .int x1), (2, .int x2)]) hC dX7_boxes_45 (by decide) rfl ?_
  refine z_iload_n hC dX7_boxes_47 rfl 4 rfl ?_
  refine z_ite hm (fun h48_0 hm => ?_) (fun h48_0 hm => ?_)
  · refine z_lin hC dX7_boxes_48 h48_0 kc_0 rfl (off := 28) rfl (tgt := 76) (by decide) ?_
    refine z_iload hC dX7_boxes_76 0 rfl ?_
    refine z_iload_n hC dX7_boxes_78 rfl 1 rfl ?_
    refine z_g (zgz_some hm) (fun hne hm => ?_)
    refine z_idiv hC dX7_boxes_79 hne ?_
    refine z_iload_n hC dX7_boxes_80 rfl 1 rfl ?_
    refine z_g (zgz_some hm) (fun hne hm => ?_)
    refine z_irem hC dX7_boxes_81 hne ?_
    exact z_iret hC hr rfl dX7_boxes_82 (fun _ _ => trivial) (Option.some.inj hm)
  · refine z_ite hm (fun h48_1 hm => ?_) (fun h48_1 hm => ?_)
    · refine z_lin hC dX7_boxes_48 h48_1 kc_1 rfl (off := 35) rfl (tgt := 83) (by decide) ?_
      refine z_iload hC dX7_boxes_83 0 rfl ?_
      refine z_iload_n hC dX7_boxes_85 rfl 1 rfl ?_
      refine z_g (zgz_some hm) (fun hne hm => ?_)
      refine z_irem hC dX7_boxes_86 hne ?_
      exact z_iret hC hr rfl dX7_boxes_87 (fun _ _ => trivial) (Option.some.inj hm)
    · refine z_lookup (off := 40) (tgt := 88) hC dX7_boxes_48 rfl ((lv_osw h48_0 kc_0).trans ((lv_osw h48_1 kc_1).trans rfl)) (by decide) ?_
      refine z_iload hC dX7_boxes_88 0 rfl ?_
      refine z_iload_n hC dX7_boxes_90 rfl 1 rfl ?_
      refine z_iload_n hC dX7_boxes_91 rfl 1 rfl ?_
      refine z_imul hC dX7_boxes_92 ?_
      refine z_g (zgz_some hm) (fun hne hm => ?_)
      refine z_idiv hC dX7_boxes_93 hne ?_
      exact z_iret hC hr rfl dX7_boxes_94 (fun _ _ => trivial) (Option.some.inj hm)
def mV_boxes (x1 : Int32) (x2 : Int32) (u : SV) : Option Int32 :=
  if x2 < 0 then (some (-1 : Int32)) else (if x2 ≤ (2 : Int32) then (if x1 < (1 : Int32) then (some (-2 : Int32)) else (if x1 ≤ (2 : Int32) then (if x1 = (1 : Int32) then (if x2 = (1 : Int32) then (some (-5 : Int32)) else (mV_boxes_J37 x1 x2 u)) else (mV_boxes_J37 x1 x2 u)) else (some (-2 : Int32)))) else (some (-1 : Int32)))
set_option maxRecDepth 100000 in
set_option maxHeartbeats 4000000 in
theorem cV_boxes {l : Launch} {D : va_G} {cA : Nat → ClassId} {ad : Nat → Nat} {tK tB : Nat} {kS vS : Nat → Nat} {vT vH vA : Value} (hI : zInj ad 80) (x1 : Int32) (x2 : Int32) (u : SV) {r : Int32} (hm : mV_boxes x1 x2 u = some r) : Met l yX7_boxes (zWs yX7_boxes cX7_boxes 5 (some .int)) (zRm 3) (va_Pc [.ref (ad 0), .int x1, .int x2] (zPre D (zTy cA) (zE tK tB kS vS) zA0 (wV cA ad vT vH vA u))) (zQi r zB0 zA0) 0 0 zA0 := by
  refine z_met (lv := [(0, .ref (ad 0)), (1, .int x1), (2, .int x2)]) plX7 rfl rfl (Nat.le_of_ble_eq_true rfl) rfl ?_
  intro p e s m below meth c hC hr hin
  unfold mV_boxes at hm
  refine z_iload_n hC dX7_boxes_0 rfl 2 rfl ?_
  refine z_if_lt (tgt := 9) hC hm dX7_boxes_1 (by decide) (fun hm => ?_) (fun hm => ?_)
  · refine z_iconst hC dX7_boxes_9 kI_m1 ?_
    exact z_iret hC hr rfl dX7_boxes_10 (fun _ _ => trivial) (Option.some.inj hm)
  · refine z_iload_n hC dX7_boxes_4 rfl 2 rfl ?_
    refine z_iconst hC dX7_boxes_5 kI_2 ?_
    refine z_icmp_le (tgt := 11) hC hm dX7_boxes_6 (by decide) (fun hm => ?_) (fun hm => ?_)
    · refine z_iload_n hC dX7_boxes_11 rfl 1 rfl ?_
      refine z_iconst hC dX7_boxes_12 kI_1 ?_
      refine z_icmp_lt (tgt := 21) hC hm dX7_boxes_13 (by decide) (fun hm => ?_) (fun hm => ?_)
      · refine z_bipush hC dX7_boxes_21 kB_m2 ?_
        exact z_iret hC hr rfl dX7_boxes_23 (fun _ _ => trivial) (Option.some.inj hm)
      · refine z_iload_n hC dX7_boxes_16 rfl 1 rfl ?_
        refine z_iconst hC dX7_boxes_17 kI_2 ?_
        refine z_icmp_le (tgt := 24) hC hm dX7_boxes_18 (by decide) (fun hm => ?_) (fun hm => ?_)
        · refine z_iload_n hC dX7_boxes_24 rfl 1 rfl ?_
          refine z_iconst hC dX7_boxes_25 kI_1 ?_
          refine z_icmp_ne (tgt := 37) hC hm dX7_boxes_26 (by decide) (fun hm => ?_) (fun hm => ?_)
          · refine z_iload_n hC dX7_boxes_29 rfl 2 rfl ?_
            refine z_iconst hC dX7_boxes_30 kI_1 ?_
            refine z_icmp_ne (tgt := 37) hC hm dX7_boxes_31 (by decide) (fun hm => ?_) (fun hm => ?_)
            · refine z_bipush hC dX7_boxes_34 kB_m5 ?_
              exact z_iret hC hr rfl dX7_boxes_36 (fun _ _ => trivial) (Option.some.inj hm)
            · refine z_lv hC [0, 1, 2] rfl ?_
              exact jV_boxes_37 hI hC hr hm
          · refine z_lv hC [0, 1, 2] rfl ?_
            exact jV_boxes_37 hI hC hr hm
        · refine z_bipush hC dX7_boxes_21 kB_m2 ?_
          exact z_iret hC hr rfl dX7_boxes_23 (fun _ _ => trivial) (Option.some.inj hm)
    · refine z_iconst hC dX7_boxes_9 kI_m1 ?_
      exact z_iret hC hr rfl dX7_boxes_10 (fun _ _ => trivial) (Option.some.inj hm)
theorem gV_X7_237_stage {p : Program} {l : Launch} {e : Env} {R : Room} {s : State} {m : MethodId} {args : Array Value} {below : List Frame} {meth : Method} {c : Code} {Q : State → Prop} {D : va_G} {A : Nat → Prop} {cc : ByteArray} {nL : Nat} {lv : List (Nat × Value)} {pc : Nat} {st : List Value} {cA : Nat → ClassId} {ad : Nat → Nat} {tK tB : Nat} {kS vS : Nat → Nat} {vT vH vA : Value} {u : SV} (C : zC p s m args meth c cc nL RX7 zTS D (zTy cA) A (zE tK tB kS vS)) (hd : decode cc pc = .ok (.getfield 237, 3)) {v : Int32} (hv : S_slips (V_stage u) = v) (g : zG p l e R s m args below meth c nL D A Q (wV cA ad vT vH vA u) lv (pc + 3) (.int v :: st)) : zG p l e R s m args below meth c nL D A Q (wV cA ad vT vH vA u) lv pc (.ref (ad 7) :: st) := by
  subst hv
  exact fun H locs ls hP hS hL => va_get (D := D) (ci := 4) (C := RX4) (T := TX4) (N := 7) C.1.1 C.1.2.1 C.1.2.2.2.2 inlX4 C.1.2.2.2.1 C.2.1 hP 7 (heV_stage cA ad vT vH vA u) rfl 5 (by decide) (C.1.2.2.2.2 _ mfX7_237) (fun _ h9 => h9) (v := .int (S_slips (V_stage u))) rfl hd (g H locs ls hP hS hL)
theorem pV_X7_237_stage {p : Program} {l : Launch} {e : Env} {R : Room} {s : State} {m : MethodId} {args : Array Value} {below : List Frame} {meth : Method} {c : Code} {Q : State → Prop} {D : va_G} {A : Nat → Prop} {cc : ByteArray} {nL : Nat} {lv : List (Nat × Value)} {pc : Nat} {st : List Value} {cA : Nat → ClassId} {ad : Nat → Nat} {tK tB : Nat} {kS vS : Nat → Nat} {vT vH vA : Value} {u : SV} {v : Int32} (C : zC p s m args meth c cc nL RX7 zTS D (zTy cA) A (zE tK tB kS vS)) (hI : zInj ad 80) (hA : ∀ q, zAd ad 80 q → A q) (hd : decode cc pc = .ok (.putfield 237, 3)) (g : zG p l e R s m args below meth c nL D A Q (wV cA ad vT vH vA (V_set_stage (S_set_slips v (V_stage u)) u)) lv (pc + 3) (st)) : zG p l e R s m args below meth c nL D A Q (wV cA ad vT vH vA u) lv pc (.int v :: .ref (ad 7) :: st) := fun H locs ls hP hS hL => va_put (D := D) (ci := 4) (C := RX4) (T := TX4) (N := 7) C.1.1 C.1.2.1 C.1.2.2.2.2 inlX4 tyX4 tyX4_ok nmX4 C.1.2.2.2.1 C.2.1 hP (zD_mono (wV_D hI cA vT vH vA u) hA) hS 7 (heV_stage cA ad vT vH vA u) rfl 5 (by decide) (C.1.2.2.2.2 _ mfX7_237) (fun _ h9 => h9) rfl (ty := .int) (by decide +kernel) rfl rfl (Nat.le_of_ble_eq_true rfl) hd (fun H1 locs1 hP1 _ hS1 => g H1 locs1 ls hP1 hS1 hL)
def mV_slips (x1 : Int32) (u : SV) : Option (Int32 × SS) :=
  if x1 < 0 then (some ((-2 : Int32), ((V_stage u)))) else (if x1 ≤ (10 : Int32) then (some ((S_slips (V_stage u)), ((S_set_slips x1 (V_stage u))))) else (some ((-2 : Int32), ((V_stage u)))))
set_option maxRecDepth 100000 in
set_option maxHeartbeats 4000000 in
theorem cV_slips {l : Launch} {D : va_G} {cA : Nat → ClassId} {ad : Nat → Nat} {tK tB : Nat} {kS vS : Nat → Nat} {vT vH vA : Value} (hI : zInj ad 80) (x1 : Int32) (u : SV) {r : Int32} {w' : SS} (hm : mV_slips x1 u = some (r, w')) : Met l yX7_slips (zWs yX7_slips cX7_slips 3 (some .int)) (zRm 0) (va_Pc [.ref (ad 0), .int x1] (zPre D (zTy cA) (zE tK tB kS vS) (zAd ad 80) (wV cA ad vT vH vA u))) (zQi r (zBw D (wV cA ad vT vH vA (V_put_stage w' u))) (zAd ad 80)) 0 0 (zAd ad 80) := by
  refine z_met (lv := [(0, .ref (ad 0)), (1, .int x1)]) plX7 rfl rfl (Nat.le_of_ble_eq_true rfl) rfl ?_
  intro p e s m below meth c hC hr hin
  unfold mV_slips at hm
  refine z_iload_n hC dX7_slips_0 rfl 1 rfl ?_
  refine z_if_lt (tgt := 10) hC hm dX7_slips_1 (by decide) (fun hm => ?_) (fun hm => ?_)
  · refine z_bipush hC dX7_slips_10 kB_m2 ?_
    exact riV (fin := fun z => V_put_stage z u) hC hr rfl dX7_slips_12 hm rfl
  · refine z_iload_n hC dX7_slips_4 rfl 1 rfl ?_
    refine z_bipush hC dX7_slips_5 kB_10 ?_
    refine z_icmp_le (tgt := 13) hC hm dX7_slips_7 (by decide) (fun hm => ?_) (fun hm => ?_)
    · refine z_aload_n hC dX7_slips_13 rfl 0 rfl ?_
      refine gV_X7_12_o hC dX7_slips_14 ?_
      refine gV_X7_237_stage (v := (S_slips (V_stage u))) hC dX7_slips_17 rfl ?_
      refine z_istore_n (lv' := [(2, .int (S_slips (V_stage u))), (0, .ref (ad 0)), (1, .int x1)]) hC dX7_slips_20 rfl (by decide) rfl ?_
      refine z_aload_n hC dX7_slips_21 rfl 1 rfl ?_
      refine gV_X7_12_o hC dX7_slips_22 ?_
      refine z_iload_n hC dX7_slips_25 rfl 2 rfl ?_
      refine pV_X7_237_stage hC hI (fun _ h => h) dX7_slips_26 ?_
      refine zuV (u2 := (V_put_stage ((S_set_slips x1 (V_stage u))) u)) rfl ?_
      refine z_iload_n hC dX7_slips_29 rfl 0 rfl ?_
      exact riV (fin := fun z => V_put_stage z u) hC hr rfl dX7_slips_30 hm rfl
    · refine z_bipush hC dX7_slips_10 kB_m2 ?_
      exact riV (fin := fun z => V_put_stage z u) hC hr rfl dX7_slips_12 hm rfl
def mV_partOfSure_L55 (x1 : Int32) (x2 : Int32) (x3 : Int32) (x4 : Int32) (u : SV) : Nat → Int64 → Int64 → Int32 → Option Int64
  | 0, _, _, _ => none
  | n + 1, x5, x7, x9 => if x1 ≤ x9 then (if x2 = 0 then (some (x7 - x5)) else (some x7)) else (mV_partOfSure_L55 x1 x2 x3 x4 u n (x5 * ((x3).toInt64)) (x7 * ((x4).toInt64)) (x9 + (1 : Int32)))
set_option maxRecDepth 100000 in
set_option maxHeartbeats 4000000 in
theorem lV_partOfSure_55 {l : Launch} {D : va_G} {cA : Nat → ClassId} {ad : Nat → Nat} {p : Program} {e : Env} {s : State} {m : MethodId} {args : Array Value} {below : List Frame} {meth : Method} {c : Code} {tK tB : Nat} {kS vS : Nat → Nat} {vT : Value} {vH : Value} {vA : Value} {r : Int64}  {x1 : Int32} {x2 : Int32} {x3 : Int32} {x4 : Int32} {u : SV} (hI : zInj ad 80) (hC : zC p s m args meth c cX7_partOfSure 10 RX7 zTS D (zTy cA) zA0 (zE tK tB kS vS)) (hr : meth.sig.returnType = (some .long)) : ∀ (n : Nat) (x5 : Int64) (x7 : Int64) (x9 : Int32), mV_partOfSure_L55 x1 x2 x3 x4 u n x5 x7 x9 = some r → zG p l e (zRm 0) s m args below meth c 10 D zA0 (MQ below (zQl r zB0 zA0) args s 0 0 zA0) (wV cA ad vT vH vA u) [(1, .int x1), (2, .int x2), (3, .int x3), (4, .int x4), (5, .long x5), (7, .long x7), (9, .int x9)] 55 [] := by
  intro n
  induction n with
  | zero => intro x5 x7 x9 hm; exact z_none hm
  | succ n ih =>
    intro x5 x7 x9 hm
    rw [mV_partOfSure_L55] at hm
    refine z_iload hC dX7_partOfSure_55 6 rfl ?_
    refine z_iload_n hC dX7_partOfSure_57 rfl 0 rfl ?_
    refine z_icmp_ge (tgt := 82) hC hm dX7_partOfSure_58 (by decide) (fun hm => ?_) (fun hm => ?_)
    · refine z_iload_n hC dX7_partOfSure_82 rfl 1 rfl ?_
      refine z_if_ne (tgt := 94) hC hm dX7_partOfSure_83 (by decide) (fun hm => ?_) (fun hm => ?_)
      · refine z_lload hC dX7_partOfSure_86 5 rfl ?_
        refine z_lload hC dX7_partOfSure_88 4 rfl ?_
        refine z_lsub hC dX7_partOfSure_90 ?_
        refine z_goto (tgt := 96) hC dX7_partOfSure_91 (by decide) ?_
        exact z_lret hC hr dX7_partOfSure_96 (fun _ _ => trivial) (Option.some.inj hm)
      · refine z_lload hC dX7_partOfSure_94 5 rfl ?_
        exact z_lret hC hr dX7_partOfSure_96 (fun _ _ => trivial) (Option.some.inj hm)
    · refine z_lload hC dX7_partOfSure_61 4 rfl ?_
      refine z_iload_n hC dX7_partOfSure_63 rfl 2 rfl ?_
      refine z_i2l hC dX7_partOfSure_64 ?_
      refine z_lmul hC dX7_partOfSure_65 ?_
      refine z_lstore (lv' := [(5, .long (x5 * ((x3).toInt64))), (1, .int x1), (2, .int x2), (3, .int x3), (4, .int x4), (7, .long x7), (9, .int x9)]) hC dX7_partOfSure_66 (by decide) rfl ?_
      refine z_lload hC dX7_partOfSure_68 5 rfl ?_
      refine z_iload hC dX7_partOfSure_70 4 rfl ?_
      refine z_i2l hC dX7_partOfSure_72 ?_
      refine z_lmul hC dX7_partOfSure_73 ?_
      refine z_lstore (lv' := [(7, .long (x7 * ((x4).toInt64))), (5, .long (x5 * ((x3).toInt64))), (1, .int x1), (2, .int x2), (3, .int x3), (4, .int x4), (9, .int x9)]) hC dX7_partOfSure_74 (by decide) rfl ?_
      refine z_iinc (lv' := [(9, .int (x9 + (1 : Int32))), (7, .long (x7 * ((x4).toInt64))), (5, .long (x5 * ((x3).toInt64))), (1, .int x1), (2, .int x2), (3, .int x3), (4, .int x4)]) (k := 6) (v := (x9 + (1 : Int32))) hC dX7_partOfSure_76 rfl rfl (by decide) rfl ?_
      refine z_goto (tgt := 55) hC dX7_partOfSure_79 (by decide) ?_
      refine z_lv hC [3, 4, 5, 6, 2, 1, 0] rfl ?_
      exact ih _ _ _ hm
def mV_partOfSure_L15 (x1 : Int32) (x2 : Int32) (u : SV) : Nat → Int32 → Int32 → Int32 → Option Int64
  | 0, _, _, _ => none
  | n + 1, x3, x4, x5 => if (5 : Int32) < x5 then (mV_partOfSure_L55 x1 x2 x3 x4 u 256 (1 : Int64) (1 : Int64) (0 : Int32)) else (zgz x5 (if (x3 - x3 / x5 * x5) = 0 then (zgz x5 (zgz x5 (mV_partOfSure_L15 x1 x2 u n (x3 / x5) (x4 / x5) (x5 + (3 : Int32))))) else (mV_partOfSure_L15 x1 x2 u n x3 x4 (x5 + (3 : Int32)))))
set_option maxRecDepth 100000 in
set_option maxHeartbeats 4000000 in
theorem lV_partOfSure_15 {l : Launch} {D : va_G} {cA : Nat → ClassId} {ad : Nat → Nat} {p : Program} {e : Env} {s : State} {m : MethodId} {args : Array Value} {below : List Frame} {meth : Method} {c : Code} {tK tB : Nat} {kS vS : Nat → Nat} {vT : Value} {vH : Value} {vA : Value} {r : Int64}  {x1 : Int32} {x2 : Int32} {u : SV} (hI : zInj ad 80) (hC : zC p s m args meth c cX7_partOfSure 10 RX7 zTS D (zTy cA) zA0 (zE tK tB kS vS)) (hr : meth.sig.returnType = (some .long)) : ∀ (n : Nat) (x3 : Int32) (x4 : Int32) (x5 : Int32), mV_partOfSure_L15 x1 x2 u n x3 x4 x5 = some r → zG p l e (zRm 0) s m args below meth c 10 D zA0 (MQ below (zQl r zB0 zA0) args s 0 0 zA0) (wV cA ad vT vH vA u) [(1, .int x1), (2, .int x2), (3, .int x3), (4, .int x4), (5, .int x5)] 15 [] := by
  intro n
  induction n with
  | zero => intro x3 x4 x5 hm; exact z_none hm
  | succ n ih =>
    intro x3 x4 x5 hm
    rw [mV_partOfSure_L15] at hm
    refine z_iload hC dX7_partOfSure_15 4 rfl ?_
    refine z_iconst hC dX7_partOfSure_17 kI_5 ?_
    refine z_icmp_gt (tgt := 46) hC hm dX7_partOfSure_18 (by decide) (fun hm => ?_) (fun hm => ?_)
    · refine z_lconst hC dX7_partOfSure_46 kL_1 ?_
      refine z_lstore (lv' := [(5, .long (1 : Int64)), (1, .int x1), (2, .int x2), (3, .int x3), (4, .int x4)]) hC dX7_partOfSure_47 (by decide) rfl ?_
      refine z_lconst hC dX7_partOfSure_49 kL_1 ?_
      refine z_lstore (lv' := [(7, .long (1 : Int64)), (5, .long (1 : Int64)), (1, .int x1), (2, .int x2), (3, .int x3), (4, .int x4)]) hC dX7_partOfSure_50 (by decide) rfl ?_
      refine z_iconst hC dX7_partOfSure_52 kI_0 ?_
      refine z_istore (lv' := [(9, .int (0 : Int32)), (7, .long (1 : Int64)), (5, .long (1 : Int64)), (1, .int x1), (2, .int x2), (3, .int x3), (4, .int x4)]) hC dX7_partOfSure_53 (by decide) rfl ?_
      refine z_lv hC [3, 4, 5, 6, 2, 1, 0] rfl ?_
      exact lV_partOfSure_55 hI hC hr _ _ _ _ hm
    · refine z_iload_n hC dX7_partOfSure_21 rfl 2 rfl ?_
      refine z_iload hC dX7_partOfSure_22 4 rfl ?_
      refine z_g (zgz_some hm) (fun hne hm => ?_)
      refine z_irem hC dX7_partOfSure_24 hne ?_
      refine z_if_ne (tgt := 40) hC hm dX7_partOfSure_25 (by decide) (fun hm => ?_) (fun hm => ?_)
      · refine z_iload_n hC dX7_partOfSure_28 rfl 2 rfl ?_
        refine z_iload hC dX7_partOfSure_29 4 rfl ?_
        refine z_g (zgz_some hm) (fun hne hm => ?_)
        refine z_idiv hC dX7_partOfSure_31 hne ?_
        refine z_istore_n (lv' := [(3, .int (x3 / x5)), (1, .int x1), (2, .int x2), (4, .int x4), (5, .int x5)]) hC dX7_partOfSure_32 rfl (by decide) rfl ?_
        refine z_iload hC dX7_partOfSure_33 3 rfl ?_
        refine z_iload hC dX7_partOfSure_35 4 rfl ?_
        refine z_g (zgz_some hm) (fun hne hm => ?_)
        refine z_idiv hC dX7_partOfSure_37 hne ?_
        refine z_istore (lv' := [(4, .int (x4 / x5)), (3, .int (x3 / x5)), (1, .int x1), (2, .int x2), (5, .int x5)]) hC dX7_partOfSure_38 (by decide) rfl ?_
        refine z_iinc (lv' := [(5, .int (x5 + (3 : Int32))), (4, .int (x4 / x5)), (3, .int (x3 / x5)), (1, .int x1), (2, .int x2)]) (k := 4) (v := (x5 + (3 : Int32))) hC dX7_partOfSure_40 rfl rfl (by decide) rfl ?_
        refine z_goto (tgt := 15) hC dX7_partOfSure_43 (by decide) ?_
        refine z_lv hC [3, 4, 2, 1, 0] rfl ?_
        exact ih _ _ _ hm
      · refine z_iinc (lv' := [(5, .int (x5 + (3 : Int32))), (1, .int x1), (2, .int x2), (3, .int x3), (4, .int x4)]) (k := 4) (v := (x5 + (3 : Int32))) hC dX7_partOfSure_40 rfl rfl (by decide) rfl ?_
        refine z_goto (tgt := 15) hC dX7_partOfSure_43 (by decide) ?_
        refine z_lv hC [1, 2, 3, 4, 0] rfl ?_
        exact ih _ _ _ hm
def mV_partOfSure (x1 : Int32) (x2 : Int32) (u : SV) : Option Int64 :=
  mV_partOfSure_L15 x1 x2 u 256 (S_slips (V_stage u)) (10 : Int32) (2 : Int32)
set_option maxRecDepth 100000 in
set_option maxHeartbeats 4000000 in
theorem cV_partOfSure {l : Launch} {D : va_G} {cA : Nat → ClassId} {ad : Nat → Nat} {tK tB : Nat} {kS vS : Nat → Nat} {vT vH vA : Value} (hI : zInj ad 80) (x1 : Int32) (x2 : Int32) (u : SV) {r : Int64} (hm : mV_partOfSure x1 x2 u = some r) : Met l yX7_partOfSure (zWs yX7_partOfSure cX7_partOfSure 10 (some .long)) (zRm 0) (va_Pc [.ref (ad 0), .int x1, .int x2] (zPre D (zTy cA) (zE tK tB kS vS) zA0 (wV cA ad vT vH vA u))) (zQl r zB0 zA0) 0 0 zA0 := by
  refine z_met (lv := [(0, .ref (ad 0)), (1, .int x1), (2, .int x2)]) plX7 rfl rfl (Nat.le_of_ble_eq_true rfl) rfl ?_
  intro p e s m below meth c hC hr hin
  unfold mV_partOfSure at hm
  refine z_aload_n hC dX7_partOfSure_0 rfl 0 rfl ?_
  refine gV_X7_12_o hC dX7_partOfSure_1 ?_
  refine gV_X7_237_stage (v := (S_slips (V_stage u))) hC dX7_partOfSure_4 rfl ?_
  refine z_istore_n (lv' := [(3, .int (S_slips (V_stage u))), (0, .ref (ad 0)), (1, .int x1), (2, .int x2)]) hC dX7_partOfSure_7 rfl (by decide) rfl ?_
  refine z_bipush hC dX7_partOfSure_8 kB_10 ?_
  refine z_istore (lv' := [(4, .int (10 : Int32)), (3, .int (S_slips (V_stage u))), (0, .ref (ad 0)), (1, .int x1), (2, .int x2)]) hC dX7_partOfSure_10 (by decide) rfl ?_
  refine z_iconst hC dX7_partOfSure_12 kI_2 ?_
  refine z_istore (lv' := [(5, .int (2 : Int32)), (4, .int (10 : Int32)), (3, .int (S_slips (V_stage u))), (0, .ref (ad 0)), (1, .int x1), (2, .int x2)]) hC dX7_partOfSure_13 (by decide) rfl ?_
  refine z_lv hC [4, 5, 2, 1, 0] rfl ?_
  exact lV_partOfSure_15 hI hC hr _ _ _ _ hm
theorem xV_X7_245 {p : Program} {l : Launch} {e : Env} {s : State} {m : MethodId} {args : Array Value} {below : List Frame} {meth : Method} {c : Code} {Q : State → Prop} {D : va_G} {A : Nat → Prop} {cc : ByteArray} {nL : Nat} {lv : List (Nat × Value)} {pc : Nat} {st : List Value} {cA : Nat → ClassId} {ad : Nat → Nat} {tK tB : Nat} {kS vS : Nat → Nat} {vT vH vA : Value} {d : Nat} {x0 : Int64} {u : SV} (hI : zInj ad 80) (C : zC p s m args meth c cc nL RX7 zTS D (zTy cA) A (zE tK tB kS vS)) (hdm : 0 + 1 ≤ d) (hd : decode cc pc = .ok (.invokestatic 245, 3)) (h8 : (st.map fun v => v.category).sum ≤ 8) (g : zG p l e (zRm d) s m args below meth c nL D A Q (wV cA ad vT vH vA u) lv (pc + 3) (.int (mN_bitCount_95d88 x0) :: st)) : zG p l e (zRm d) s m args below meth c nL D A Q (wV cA ad vT vH vA u) lv pc (.long x0 :: st) :=
  z_calliS C (cN_bitCount_95d88 (ad := (fun i => i)) (cA := cA) zInj0 x0 () rfl) (cwX7_245 C.1.2.2.2.2 rfl rfl ⟨hdm, by have := hdm; simp only [zRm]; omega⟩) hd rfl rfl h8 (fun _ h => nomatch h) (fun _ h => h.elim) zJ_ro g
theorem xV_X7_249 {p : Program} {l : Launch} {e : Env} {s : State} {m : MethodId} {args : Array Value} {below : List Frame} {meth : Method} {c : Code} {Q : State → Prop} {D : va_G} {A : Nat → Prop} {cc : ByteArray} {nL : Nat} {lv : List (Nat × Value)} {pc : Nat} {st : List Value} {cA : Nat → ClassId} {ad : Nat → Nat} {tK tB : Nat} {kS vS : Nat → Nat} {vT vH vA : Value} {d : Nat} {x1 : Int32} {x2 : Int32} {u : SV} (hI : zInj ad 80) (C : zC p s m args meth c cc nL RX7 zTS D (zTy cA) A (zE tK tB kS vS)) (hdm : 0 + 1 ≤ d) {β : Type} {f : Int64 → Option β} {o : β} (hm : (mV_partOfSure x1 x2 u).bind f = some o) (hd : decode cc pc = .ok (.invokevirtual 249, 3)) (h8 : (st.map fun v => v.category).sum ≤ 8) (g : ∀ q, f q = some o → zG p l e (zRm d) s m args below meth c nL D A Q (wV cA ad vT vH vA u) lv (pc + 3) (.long q :: st)) : zG p l e (zRm d) s m args below meth c nL D A Q (wV cA ad vT vH vA u) lv pc (.int x2 :: .int x1 :: .ref (ad 0) :: st) := by
  obtain ⟨q, h1, h2⟩ := zb_some hm
  exact z_calllV C (cV_partOfSure (ad := ad) (cA := cA) hI x1 x2 u h1) (cwX7_249 C.1.2.2.2.2 rfl rfl ⟨hdm, by have := hdm; simp only [zRm]; omega⟩) hd rfl rfl h8 ⟨_, rfl, rfl⟩ (List.mem_of_getElem? (heV_o cA ad _ _ _ u)) (fun _ h => h) (fun _ h => h.elim) zJ_ro (g q h2)
def mV_sure (x1 : Int32) (x2 : Int32) (x3 : Int32) (x4 : Int32) (u : SV) : Option (Int64 × SK) :=
  (mV_voiceAt x1 u).bind fun v1 => zcs v1 (some ((-9223372036854775808 : Int64), ((V_look u)))) (fun a1 => (if (mV_isSeat x2 u) = 0 then (some ((-9223372036854775808 : Int64), ((V_look u)))) else (if (mN_isTenth x3) = 0 then (some ((-9223372036854775808 : Int64), ((V_look u)))) else (if x4 < 0 then (some ((-9223372036854775808 : Int64), ((V_look u)))) else (if x4 ≤ (1 : Int32) then (zgk a1 (V_nv u) ((mV_movingAround (mO_movingOf (S_moving (V_stage u)) ((V_vo u) a1)) x3 u).bind fun q2 => (if (mN_bitCount_95d88 q2) ≤ (15 : Int32) then ((mV_lookAt a1 x2 x3 u).bind fun q3 => (if (K_inReach q3) = 0 then ((mV_partOfSure (0 : Int32) x4 (V_put_look (q3) u)).bind fun q4 => (some (q4, (q3)))) else ((mV_partOfSure (mN_bitCount_95d88 q2) x4 (V_put_look (q3) u)).bind fun q5 => (some (q5, (q3)))))) else (some ((-9223372036854775808 : Int64), ((V_look u))))))) else (some ((-9223372036854775808 : Int64), ((V_look u)))))))))
set_option maxRecDepth 100000 in
set_option maxHeartbeats 4000000 in
theorem cV_sure {l : Launch} {D : va_G} {cA : Nat → ClassId} {ad : Nat → Nat} {tK tB : Nat} {kS vS : Nat → Nat} {vT vH vA : Value} (hI : zInj ad 80) (x1 : Int32) (x2 : Int32) (x3 : Int32) (x4 : Int32) (u : SV) {r : Int64} {w' : SK} (hm : mV_sure x1 x2 x3 x4 u = some (r, w')) : Met l yX7_sure (zWs yX7_sure cX7_sure 7 (some .long)) (zRm 4) (va_Pc [.ref (ad 0), .int x1, .int x2, .int x3, .int x4] (zPre D (zTy cA) (zE tK tB kS vS) (zAd ad 80) (wV cA ad vT vH vA u))) (zQl r (zBw D (wV cA ad vT vH vA (V_put_look w' u))) (zAd ad 80)) 0 0 (zAd ad 80) := by
  refine z_met (lv := [(0, .ref (ad 0)), (1, .int x1), (2, .int x2), (3, .int x3), (4, .int x4)]) plX7 rfl rfl (Nat.le_of_ble_eq_true rfl) rfl ?_
  intro p e s m below meth c hC hr hin
  unfold mV_sure at hm
  refine z_aload_n hC dX7_sure_0 rfl 0 rfl ?_
  refine z_iload_n hC dX7_sure_1 rfl 1 rfl ?_
  refine xV_X7_139 hI hC (Nat.le_of_ble_eq_true rfl) hm dX7_sure_2 (Nat.le_of_ble_eq_true rfl) (fun hm => ?_) (fun a1 hm => ?_)
  · refine z_astoreN (lv' := [(5, .null), (0, .ref (ad 0)), (1, .int x1), (2, .int x2), (3, .int x3), (4, .int x4)]) hC dX7_sure_5 (by decide) rfl ?_
    refine z_aloadN hC dX7_sure_7 0 rfl ?_
    refine z_ifnullN (tgt := 38) hC dX7_sure_9 (by decide) ?_
    refine z_ldc2 hC mcX7_240 dX7_sure_38 ?_
    exact rlV (fin := fun z => V_put_look z u) hC hr dX7_sure_41 hm rfl
  · refine z_astore (lv' := [(5, .ref (ad (70 + a1))), (0, .ref (ad 0)), (1, .int x1), (2, .int x2), (3, .int x3), (4, .int x4)]) hC dX7_sure_5 (by decide) rfl ?_
    refine z_aload hC dX7_sure_7 0 rfl ?_
    refine z_ifnull hC dX7_sure_9 ?_
    refine z_aload_n hC dX7_sure_12 rfl 1 rfl ?_
    refine z_iload_n hC dX7_sure_13 rfl 3 rfl ?_
    refine xV_X7_93 hI hC (Nat.le_of_ble_eq_true rfl) dX7_sure_14 (Nat.le_of_ble_eq_true rfl) ?_
    refine z_if_eq (tgt := 38) hC hm dX7_sure_17 (by decide) (fun hm => ?_) (fun hm => ?_)
    · refine z_ldc2 hC mcX7_240 dX7_sure_38 ?_
      exact rlV (fin := fun z => V_put_look z u) hC hr dX7_sure_41 hm rfl
    · refine z_iload_n hC dX7_sure_20 rfl 4 rfl ?_
      refine xV_X7_143 hI hC (Nat.le_of_ble_eq_true rfl) dX7_sure_21 (Nat.le_of_ble_eq_true rfl) ?_
      refine z_if_eq (tgt := 38) hC hm dX7_sure_24 (by decide) (fun hm => ?_) (fun hm => ?_)
      · refine z_ldc2 hC mcX7_240 dX7_sure_38 ?_
        exact rlV (fin := fun z => V_put_look z u) hC hr dX7_sure_41 hm rfl
      · refine z_iload hC dX7_sure_27 5 rfl ?_
        refine z_if_lt (tgt := 38) hC hm dX7_sure_29 (by decide) (fun hm => ?_) (fun hm => ?_)
        · refine z_ldc2 hC mcX7_240 dX7_sure_38 ?_
          exact rlV (fin := fun z => V_put_look z u) hC hr dX7_sure_41 hm rfl
        · refine z_iload hC dX7_sure_32 5 rfl ?_
          refine z_iconst hC dX7_sure_34 kI_1 ?_
          refine z_icmp_le (tgt := 42) hC hm dX7_sure_35 (by decide) (fun hm => ?_) (fun hm => ?_)
          · refine z_aload_n hC dX7_sure_42 rfl 1 rfl ?_
            refine z_aload hC dX7_sure_43 0 rfl ?_
            refine z_aload_n hC dX7_sure_45 rfl 1 rfl ?_
            refine gV_X7_12_o hC dX7_sure_46 ?_
            refine gV_X7_86_stage (v := (S_moving (V_stage u))) hC dX7_sure_49 rfl ?_
            refine z_g (zgk_some hm) (fun ha hm => ?_)
            refine xV_X7_191 ha hI hC (Nat.le_of_ble_eq_true rfl) dX7_sure_52 (Nat.le_of_ble_eq_true rfl) ?_
            refine z_iload_n hC dX7_sure_55 rfl 4 rfl ?_
            refine xV_X7_242 hI hC (Nat.le_of_ble_eq_true rfl) hm dX7_sure_56 (Nat.le_of_ble_eq_true rfl) (fun q2 hm => ?_)
            refine xV_X7_245 hI hC (Nat.le_of_ble_eq_true rfl) dX7_sure_59 (Nat.le_of_ble_eq_true rfl) ?_
            refine z_istore (lv' := [(6, .int (mN_bitCount_95d88 q2)), (5, .ref (ad (70 + a1))), (0, .ref (ad 0)), (1, .int x1), (2, .int x2), (3, .int x3), (4, .int x4)]) hC dX7_sure_62 (by decide) rfl ?_
            refine z_iload hC dX7_sure_64 0 rfl ?_
            refine z_bipush hC dX7_sure_66 kB_15 ?_
            refine z_icmp_le (tgt := 75) hC hm dX7_sure_68 (by decide) (fun hm => ?_) (fun hm => ?_)
            · refine z_aload_n hC dX7_sure_75 rfl 2 rfl ?_
              refine z_aload_n hC dX7_sure_76 rfl 2 rfl ?_
              refine z_aload hC dX7_sure_77 1 rfl ?_
              refine z_iload_n hC dX7_sure_79 rfl 4 rfl ?_
              refine z_iload_n hC dX7_sure_80 rfl 5 rfl ?_
              refine xV_X7_146 hI hC (Nat.le_of_ble_eq_true rfl) (fun _ h => h) hm dX7_sure_81 (Nat.le_of_ble_eq_true rfl) (fun q3 hm => ?_)
              refine zuV (u2 := (V_put_look (q3) u)) rfl ?_
              refine gV_X7_214_look (v := (K_inReach q3)) hC dX7_sure_84 rfl ?_
              refine z_if_eq (tgt := 95) hC hm dX7_sure_87 (by decide) (fun hm => ?_) (fun hm => ?_)
              · refine z_iconst hC dX7_sure_95 kI_0 ?_
                refine z_iload hC dX7_sure_96 6 rfl ?_
                refine xV_X7_249 hI hC (Nat.le_of_ble_eq_true rfl) hm dX7_sure_98 (Nat.le_of_ble_eq_true rfl) (fun q4 hm => ?_)
                exact rlV (fin := fun z => V_put_look z u) hC hr dX7_sure_101 hm rfl
              · refine z_iload hC dX7_sure_90 0 rfl ?_
                refine z_goto (tgt := 96) hC dX7_sure_92 (by decide) ?_
                refine z_iload hC dX7_sure_96 6 rfl ?_
                refine xV_X7_249 hI hC (Nat.le_of_ble_eq_true rfl) hm dX7_sure_98 (Nat.le_of_ble_eq_true rfl) (fun q5 hm => ?_)
                exact rlV (fin := fun z => V_put_look z u) hC hr dX7_sure_101 hm rfl
            · refine z_ldc2 hC mcX7_240 dX7_sure_71 ?_
              exact rlV (fin := fun z => V_put_look z u) hC hr dX7_sure_74 hm rfl
          · refine z_ldc2 hC mcX7_240 dX7_sure_38 ?_
            exact rlV (fin := fun z => V_put_look z u) hC hr dX7_sure_41 hm rfl
def mV_changes_L78 (a1 : Nat) (a3 : Nat) (x3 : Int32) (x4 : Int32) : Nat → Int32 → Int32 → Int32 → SV → Option (Int32 × SK)
  | 0, _, _, _, _ => none
  | n + 1, x7, x8, x9, u => if (S_letters (V_stage u)) ≤ x9 then (some (x7, ((V_look u)))) else (if (x9 - x9 / (2 : Int32) * (2 : Int32)) = 0 then ((mV_lookAt a1 x3 ((2 : Int32) * x9) u).bind fun q4 => (if (zabs ((K_held q4) - x8)) ≤ x4 then (mV_changes_L78 a1 a3 x3 x4 n x7 (K_held q4) (x9 + (1 : Int32)) (V_put_look (q4) u)) else (mV_changes_L78 a1 a3 x3 x4 n (x7 + (1 : Int32)) (K_held q4) (x9 + (1 : Int32)) (V_put_look (q4) u)))) else ((mV_lookAt a3 x3 ((2 : Int32) * x9) u).bind fun q5 => (if (zabs ((K_held q5) - x8)) ≤ x4 then (mV_changes_L78 a1 a3 x3 x4 n x7 (K_held q5) (x9 + (1 : Int32)) (V_put_look (q5) u)) else (mV_changes_L78 a1 a3 x3 x4 n (x7 + (1 : Int32)) (K_held q5) (x9 + (1 : Int32)) (V_put_look (q5) u)))))
set_option maxRecDepth 100000 in
set_option maxHeartbeats 4000000 in
theorem lV_changes_78 {l : Launch} {D : va_G} {cA : Nat → ClassId} {ad : Nat → Nat} {p : Program} {e : Env} {s : State} {m : MethodId} {args : Array Value} {below : List Frame} {meth : Method} {c : Code} {tK tB : Nat} {kS vS : Nat → Nat} {vT : Value} {vH : Value} {vA : Value} {r : Int32} {w' : SK}  {a1 : Nat} {a3 : Nat} {x3 : Int32} {x4 : Int32} (hI : zInj ad 80) (hC : zC p s m args meth c cX7_changes 11 RX7 zTS D (zTy cA) (zAd ad 80) (zE tK tB kS vS)) (hr : meth.sig.returnType = (some .int)) : ∀ (n : Nat) (x7 : Int32) (x8 : Int32) (x9 : Int32) (u : SV), mV_changes_L78 a1 a3 x3 x4 n x7 x8 x9 u = some (r, w') → zG p l e (zRm 4) s m args below meth c 11 D (zAd ad 80) (MQ below (zQi r (zBw D (wV cA ad vT vH vA (V_put_look w' u))) (zAd ad 80)) args s 0 0 (zAd ad 80)) (wV cA ad vT vH vA u) [(0, .ref (ad 0)), (3, .int x3), (4, .int x4), (5, .ref (ad (70 + a1))), (6, .ref (ad (70 + a3))), (7, .int x7), (8, .int x8), (9, .int x9)] 78 [] := by
  intro n
  induction n with
  | zero => intro x7 x8 x9 u hm; exact z_none hm
  | succ n ih =>
    intro x7 x8 x9 u hm
    rw [mV_changes_L78] at hm
    refine z_iload hC dX7_changes_78 7 rfl ?_
    refine z_aload_n hC dX7_changes_80 rfl 0 rfl ?_
    refine gV_X7_12_o hC dX7_changes_81 ?_
    refine gV_X7_96_stage (v := (S_letters (V_stage u))) hC dX7_changes_84 rfl ?_
    refine z_icmp_ge (tgt := 144) hC hm dX7_changes_87 (by decide) (fun hm => ?_) (fun hm => ?_)
    · refine z_iload hC dX7_changes_144 5 rfl ?_
      exact riV (fin := fun z => V_put_look z u) hC hr rfl dX7_changes_146 hm rfl
    · refine z_aload_n hC dX7_changes_90 rfl 0 rfl ?_
      refine z_iload hC dX7_changes_91 7 rfl ?_
      refine z_iconst hC dX7_changes_93 kI_2 ?_
      refine z_irem hC dX7_changes_94 (by decide) ?_
      refine z_if_ne (tgt := 103) hC hm dX7_changes_95 (by decide) (fun hm => ?_) (fun hm => ?_)
      · refine z_aload hC dX7_changes_98 3 rfl ?_
        refine z_goto (tgt := 105) hC dX7_changes_100 (by decide) ?_
        refine z_iload_n hC dX7_changes_105 rfl 1 rfl ?_
        refine z_iconst hC dX7_changes_106 kI_2 ?_
        refine z_iload hC dX7_changes_107 7 rfl ?_
        refine z_imul hC dX7_changes_109 ?_
        refine xV_X7_146 hI hC (Nat.le_of_ble_eq_true rfl) (fun _ h => h) hm dX7_changes_110 (Nat.le_of_ble_eq_true rfl) (fun q4 hm => ?_)
        refine zuV (u2 := (V_put_look (q4) u)) rfl ?_
        refine gV_X7_163_look (v := (K_held q4)) hC dX7_changes_113 rfl ?_
        refine z_istore (lv' := [(10, .int (K_held q4)), (0, .ref (ad 0)), (3, .int x3), (4, .int x4), (5, .ref (ad (70 + a1))), (6, .ref (ad (70 + a3))), (7, .int x7), (8, .int x8), (9, .int x9)]) hC dX7_changes_116 (by decide) rfl ?_
        refine z_iload hC dX7_changes_118 0 rfl ?_
        refine z_iload hC dX7_changes_120 7 rfl ?_
        refine z_isub hC dX7_changes_122 ?_
        refine z_abs hC mmX7_206 (Nat.le_of_ble_eq_true rfl) (Nat.le_of_ble_eq_true rfl) dX7_changes_123 ?_
        refine z_iload hC dX7_changes_126 3 rfl ?_
        refine z_icmp_le (tgt := 134) hC hm dX7_changes_128 (by decide) (fun hm => ?_) (fun hm => ?_)
        · refine z_iload hC dX7_changes_134 0 rfl ?_
          refine z_istore (lv' := [(8, .int (K_held q4)), (10, .int (K_held q4)), (0, .ref (ad 0)), (3, .int x3), (4, .int x4), (5, .ref (ad (70 + a1))), (6, .ref (ad (70 + a3))), (7, .int x7), (9, .int x9)]) hC dX7_changes_136 (by decide) rfl ?_
          refine z_iinc (lv' := [(9, .int (x9 + (1 : Int32))), (8, .int (K_held q4)), (10, .int (K_held q4)), (0, .ref (ad 0)), (3, .int x3), (4, .int x4), (5, .ref (ad (70 + a1))), (6, .ref (ad (70 + a3))), (7, .int x7)]) (k := 8) (v := (x9 + (1 : Int32))) hC dX7_changes_138 rfl rfl (by decide) rfl ?_
          refine z_goto (tgt := 78) hC dX7_changes_141 (by decide) ?_
          refine z_lv hC [3, 4, 5, 6, 7, 8, 1, 0] rfl ?_
          exact ih _ _ _ _ hm
        · refine z_iinc (lv' := [(7, .int (x7 + (1 : Int32))), (10, .int (K_held q4)), (0, .ref (ad 0)), (3, .int x3), (4, .int x4), (5, .ref (ad (70 + a1))), (6, .ref (ad (70 + a3))), (8, .int x8), (9, .int x9)]) (k := 6) (v := (x7 + (1 : Int32))) hC dX7_changes_131 rfl rfl (by decide) rfl ?_
          refine z_iload hC dX7_changes_134 1 rfl ?_
          refine z_istore (lv' := [(8, .int (K_held q4)), (7, .int (x7 + (1 : Int32))), (10, .int (K_held q4)), (0, .ref (ad 0)), (3, .int x3), (4, .int x4), (5, .ref (ad (70 + a1))), (6, .ref (ad (70 + a3))), (9, .int x9)]) hC dX7_changes_136 (by decide) rfl ?_
          refine z_iinc (lv' := [(9, .int (x9 + (1 : Int32))), (8, .int (K_held q4)), (7, .int (x7 + (1 : Int32))), (10, .int (K_held q4)), (0, .ref (ad 0)), (3, .int x3), (4, .int x4), (5, .ref (ad (70 + a1))), (6, .ref (ad (70 + a3)))]) (k := 8) (v := (x9 + (1 : Int32))) hC dX7_changes_138 rfl rfl (by decide) rfl ?_
          refine z_goto (tgt := 78) hC dX7_changes_141 (by decide) ?_
          refine z_lv hC [4, 5, 6, 7, 8, 2, 1, 0] rfl ?_
          exact ih _ _ _ _ hm
      · refine z_aload hC dX7_changes_103 4 rfl ?_
        refine z_iload_n hC dX7_changes_105 rfl 1 rfl ?_
        refine z_iconst hC dX7_changes_106 kI_2 ?_
        refine z_iload hC dX7_changes_107 7 rfl ?_
        refine z_imul hC dX7_changes_109 ?_
        refine xV_X7_146 hI hC (Nat.le_of_ble_eq_true rfl) (fun _ h => h) hm dX7_changes_110 (Nat.le_of_ble_eq_true rfl) (fun q5 hm => ?_)
        refine zuV (u2 := (V_put_look (q5) u)) rfl ?_
        refine gV_X7_163_look (v := (K_held q5)) hC dX7_changes_113 rfl ?_
        refine z_istore (lv' := [(10, .int (K_held q5)), (0, .ref (ad 0)), (3, .int x3), (4, .int x4), (5, .ref (ad (70 + a1))), (6, .ref (ad (70 + a3))), (7, .int x7), (8, .int x8), (9, .int x9)]) hC dX7_changes_116 (by decide) rfl ?_
        refine z_iload hC dX7_changes_118 0 rfl ?_
        refine z_iload hC dX7_changes_120 7 rfl ?_
        refine z_isub hC dX7_changes_122 ?_
        refine z_abs hC mmX7_206 (Nat.le_of_ble_eq_true rfl) (Nat.le_of_ble_eq_true rfl) dX7_changes_123 ?_
        refine z_iload hC dX7_changes_126 3 rfl ?_
        refine z_icmp_le (tgt := 134) hC hm dX7_changes_128 (by decide) (fun hm => ?_) (fun hm => ?_)
        · refine z_iload hC dX7_changes_134 0 rfl ?_
          refine z_istore (lv' := [(8, .int (K_held q5)), (10, .int (K_held q5)), (0, .ref (ad 0)), (3, .int x3), (4, .int x4), (5, .ref (ad (70 + a1))), (6, .ref (ad (70 + a3))), (7, .int x7), (9, .int x9)]) hC dX7_changes_136 (by decide) rfl ?_
          refine z_iinc (lv' := [(9, .int (x9 + (1 : Int32))), (8, .int (K_held q5)), (10, .int (K_held q5)), (0, .ref (ad 0)), (3, .int x3), (4, .int x4), (5, .ref (ad (70 + a1))), (6, .ref (ad (70 + a3))), (7, .int x7)]) (k := 8) (v := (x9 + (1 : Int32))) hC dX7_changes_138 rfl rfl (by decide) rfl ?_
          refine z_goto (tgt := 78) hC dX7_changes_141 (by decide) ?_
          refine z_lv hC [3, 4, 5, 6, 7, 8, 1, 0] rfl ?_
          exact ih _ _ _ _ hm
        · refine z_iinc (lv' := [(7, .int (x7 + (1 : Int32))), (10, .int (K_held q5)), (0, .ref (ad 0)), (3, .int x3), (4, .int x4), (5, .ref (ad (70 + a1))), (6, .ref (ad (70 + a3))), (8, .int x8), (9, .int x9)]) (k := 6) (v := (x7 + (1 : Int32))) hC dX7_changes_131 rfl rfl (by decide) rfl ?_
          refine z_iload hC dX7_changes_134 1 rfl ?_
          refine z_istore (lv' := [(8, .int (K_held q5)), (7, .int (x7 + (1 : Int32))), (10, .int (K_held q5)), (0, .ref (ad 0)), (3, .int x3), (4, .int x4), (5, .ref (ad (70 + a1))), (6, .ref (ad (70 + a3))), (9, .int x9)]) hC dX7_changes_136 (by decide) rfl ?_
          refine z_iinc (lv' := [(9, .int (x9 + (1 : Int32))), (8, .int (K_held q5)), (7, .int (x7 + (1 : Int32))), (10, .int (K_held q5)), (0, .ref (ad 0)), (3, .int x3), (4, .int x4), (5, .ref (ad (70 + a1))), (6, .ref (ad (70 + a3)))]) (k := 8) (v := (x9 + (1 : Int32))) hC dX7_changes_138 rfl rfl (by decide) rfl ?_
          refine z_goto (tgt := 78) hC dX7_changes_141 (by decide) ?_
          refine z_lv hC [4, 5, 6, 7, 8, 2, 1, 0] rfl ?_
          exact ih _ _ _ _ hm
def mV_changes (x1 : Int32) (x2 : Int32) (x3 : Int32) (x4 : Int32) (u : SV) : Option (Int32 × SK) :=
  (mV_voiceAt x1 u).bind fun v1 => zcs v1 ((mV_voiceAt x2 u).bind fun v2 => zcs v2 (some ((-1 : Int32), ((V_look u)))) (fun a2 => (some ((-1 : Int32), ((V_look u)))))) (fun a1 => ((mV_voiceAt x2 u).bind fun v3 => zcs v3 (some ((-1 : Int32), ((V_look u)))) (fun a3 => (if (mV_isSeat x3 u) = 0 then (some ((-1 : Int32), ((V_look u)))) else (if (mN_isPlace x4) = 0 then (some ((-2 : Int32), ((V_look u)))) else (if (S_letters (V_stage u)) = 0 then (mV_changes_L78 a1 a3 x3 x4 256 (0 : Int32) (0 : Int32) (1 : Int32) u) else ((mV_lookAt a1 x3 (0 : Int32) u).bind fun q6 => (mV_changes_L78 a1 a3 x3 x4 256 (0 : Int32) (K_held q6) (1 : Int32) (V_put_look (q6) u)))))))))
set_option maxRecDepth 100000 in
set_option maxHeartbeats 4000000 in
theorem cV_changes {l : Launch} {D : va_G} {cA : Nat → ClassId} {ad : Nat → Nat} {tK tB : Nat} {kS vS : Nat → Nat} {vT vH vA : Value} (hI : zInj ad 80) (x1 : Int32) (x2 : Int32) (x3 : Int32) (x4 : Int32) (u : SV) {r : Int32} {w' : SK} (hm : mV_changes x1 x2 x3 x4 u = some (r, w')) : Met l yX7_changes (zWs yX7_changes cX7_changes 11 (some .int)) (zRm 4) (va_Pc [.ref (ad 0), .int x1, .int x2, .int x3, .int x4] (zPre D (zTy cA) (zE tK tB kS vS) (zAd ad 80) (wV cA ad vT vH vA u))) (zQi r (zBw D (wV cA ad vT vH vA (V_put_look w' u))) (zAd ad 80)) 0 0 (zAd ad 80) := by
  refine z_met (lv := [(0, .ref (ad 0)), (1, .int x1), (2, .int x2), (3, .int x3), (4, .int x4)]) plX7 rfl rfl (Nat.le_of_ble_eq_true rfl) rfl ?_
  intro p e s m below meth c hC hr hin
  unfold mV_changes at hm
  refine z_aload_n hC dX7_changes_0 rfl 0 rfl ?_
  refine z_iload_n hC dX7_changes_1 rfl 1 rfl ?_
  refine xV_X7_139 hI hC (Nat.le_of_ble_eq_true rfl) hm dX7_changes_2 (Nat.le_of_ble_eq_true rfl) (fun hm => ?_) (fun a1 hm => ?_)
  · refine z_astoreN (lv' := [(5, .null), (0, .ref (ad 0)), (1, .int x1), (2, .int x2), (3, .int x3), (4, .int x4)]) hC dX7_changes_5 (by decide) rfl ?_
    refine z_aload_n hC dX7_changes_7 rfl 1 rfl ?_
    refine z_iload_n hC dX7_changes_8 rfl 3 rfl ?_
    refine xV_X7_139 hI hC (Nat.le_of_ble_eq_true rfl) hm dX7_changes_9 (Nat.le_of_ble_eq_true rfl) (fun hm => ?_) (fun a2 hm => ?_)
    · refine z_astoreN (lv' := [(6, .null), (5, .null), (0, .ref (ad 0)), (1, .int x1), (2, .int x2), (3, .int x3), (4, .int x4)]) hC dX7_changes_12 (by decide) rfl ?_
      refine z_aloadN hC dX7_changes_14 1 rfl ?_
      refine z_ifnullN (tgt := 32) hC dX7_changes_16 (by decide) ?_
      refine z_iconst hC dX7_changes_32 kI_m1 ?_
      exact riV (fin := fun z => V_put_look z u) hC hr rfl dX7_changes_33 hm rfl
    · refine z_astore (lv' := [(6, .ref (ad (70 + a2))), (5, .null), (0, .ref (ad 0)), (1, .int x1), (2, .int x2), (3, .int x3), (4, .int x4)]) hC dX7_changes_12 (by decide) rfl ?_
      refine z_aloadN hC dX7_changes_14 1 rfl ?_
      refine z_ifnullN (tgt := 32) hC dX7_changes_16 (by decide) ?_
      refine z_iconst hC dX7_changes_32 kI_m1 ?_
      exact riV (fin := fun z => V_put_look z u) hC hr rfl dX7_changes_33 hm rfl
  · refine z_astore (lv' := [(5, .ref (ad (70 + a1))), (0, .ref (ad 0)), (1, .int x1), (2, .int x2), (3, .int x3), (4, .int x4)]) hC dX7_changes_5 (by decide) rfl ?_
    refine z_aload_n hC dX7_changes_7 rfl 1 rfl ?_
    refine z_iload_n hC dX7_changes_8 rfl 3 rfl ?_
    refine xV_X7_139 hI hC (Nat.le_of_ble_eq_true rfl) hm dX7_changes_9 (Nat.le_of_ble_eq_true rfl) (fun hm => ?_) (fun a3 hm => ?_)
    · refine z_astoreN (lv' := [(6, .null), (5, .ref (ad (70 + a1))), (0, .ref (ad 0)), (1, .int x1), (2, .int x2), (3, .int x3), (4, .int x4)]) hC dX7_changes_12 (by decide) rfl ?_
      refine z_aload hC dX7_changes_14 1 rfl ?_
      refine z_ifnull hC dX7_changes_16 ?_
      refine z_aloadN hC dX7_changes_19 0 rfl ?_
      refine z_ifnullN (tgt := 32) hC dX7_changes_21 (by decide) ?_
      refine z_iconst hC dX7_changes_32 kI_m1 ?_
      exact riV (fin := fun z => V_put_look z u) hC hr rfl dX7_changes_33 hm rfl
    · refine z_astore (lv' := [(6, .ref (ad (70 + a3))), (5, .ref (ad (70 + a1))), (0, .ref (ad 0)), (1, .int x1), (2, .int x2), (3, .int x3), (4, .int x4)]) hC dX7_changes_12 (by decide) rfl ?_
      refine z_aload hC dX7_changes_14 1 rfl ?_
      refine z_ifnull hC dX7_changes_16 ?_
      refine z_aload hC dX7_changes_19 0 rfl ?_
      refine z_ifnull hC dX7_changes_21 ?_
      refine z_aload_n hC dX7_changes_24 rfl 2 rfl ?_
      refine z_iload_n hC dX7_changes_25 rfl 5 rfl ?_
      refine xV_X7_93 hI hC (Nat.le_of_ble_eq_true rfl) dX7_changes_26 (Nat.le_of_ble_eq_true rfl) ?_
      refine z_if_ne (tgt := 34) hC hm dX7_changes_29 (by decide) (fun hm => ?_) (fun hm => ?_)
      · refine z_iconst hC dX7_changes_32 kI_m1 ?_
        exact riV (fin := fun z => V_put_look z u) hC hr rfl dX7_changes_33 hm rfl
      · refine z_iload hC dX7_changes_34 6 rfl ?_
        refine xV_X7_73 hI hC (Nat.le_of_ble_eq_true rfl) dX7_changes_36 (Nat.le_of_ble_eq_true rfl) ?_
        refine z_if_ne (tgt := 45) hC hm dX7_changes_39 (by decide) (fun hm => ?_) (fun hm => ?_)
        · refine z_bipush hC dX7_changes_42 kB_m2 ?_
          exact riV (fin := fun z => V_put_look z u) hC hr rfl dX7_changes_44 hm rfl
        · refine z_iconst hC dX7_changes_45 kI_0 ?_
          refine z_istore (lv' := [(7, .int (0 : Int32)), (6, .ref (ad (70 + a3))), (5, .ref (ad (70 + a1))), (0, .ref (ad 0)), (1, .int x1), (2, .int x2), (3, .int x3), (4, .int x4)]) hC dX7_changes_46 (by decide) rfl ?_
          refine z_aload_n hC dX7_changes_48 rfl 3 rfl ?_
          refine gV_X7_12_o hC dX7_changes_49 ?_
          refine gV_X7_96_stage (v := (S_letters (V_stage u))) hC dX7_changes_52 rfl ?_
          refine z_if_ne (tgt := 62) hC hm dX7_changes_55 (by decide) (fun hm => ?_) (fun hm => ?_)
          · refine z_iconst hC dX7_changes_58 kI_0 ?_
            refine z_goto (tgt := 73) hC dX7_changes_59 (by decide) ?_
            refine z_istore (lv' := [(8, .int (0 : Int32)), (7, .int (0 : Int32)), (6, .ref (ad (70 + a3))), (5, .ref (ad (70 + a1))), (0, .ref (ad 0)), (1, .int x1), (2, .int x2), (3, .int x3), (4, .int x4)]) hC dX7_changes_73 (by decide) rfl ?_
            refine z_iconst hC dX7_changes_75 kI_1 ?_
            refine z_istore (lv' := [(9, .int (1 : Int32)), (8, .int (0 : Int32)), (7, .int (0 : Int32)), (6, .ref (ad (70 + a3))), (5, .ref (ad (70 + a1))), (0, .ref (ad 0)), (1, .int x1), (2, .int x2), (3, .int x3), (4, .int x4)]) hC dX7_changes_76 (by decide) rfl ?_
            refine z_lv hC [5, 8, 9, 4, 3, 2, 1, 0] rfl ?_
            exact lV_changes_78 hI hC hr _ _ _ _ _ hm
          · refine z_aload_n hC dX7_changes_62 rfl 3 rfl ?_
            refine z_aload hC dX7_changes_63 2 rfl ?_
            refine z_iload_n hC dX7_changes_65 rfl 6 rfl ?_
            refine z_iconst hC dX7_changes_66 kI_0 ?_
            refine xV_X7_146 hI hC (Nat.le_of_ble_eq_true rfl) (fun _ h => h) hm dX7_changes_67 (Nat.le_of_ble_eq_true rfl) (fun q6 hm => ?_)
            refine zuV (u2 := (V_put_look (q6) u)) rfl ?_
            refine gV_X7_163_look (v := (K_held q6)) hC dX7_changes_70 rfl ?_
            refine z_istore (lv' := [(8, .int (K_held q6)), (7, .int (0 : Int32)), (6, .ref (ad (70 + a3))), (5, .ref (ad (70 + a1))), (0, .ref (ad 0)), (1, .int x1), (2, .int x2), (3, .int x3), (4, .int x4)]) hC dX7_changes_73 (by decide) rfl ?_
            refine z_iconst hC dX7_changes_75 kI_1 ?_
            refine z_istore (lv' := [(9, .int (1 : Int32)), (8, .int (K_held q6)), (7, .int (0 : Int32)), (6, .ref (ad (70 + a3))), (5, .ref (ad (70 + a1))), (0, .ref (ad 0)), (1, .int x1), (2, .int x2), (3, .int x3), (4, .int x4)]) hC dX7_changes_76 (by decide) rfl ?_
            refine z_lv hC [5, 8, 9, 4, 3, 2, 1, 0] rfl ?_
            exact lV_changes_78 hI hC hr _ _ _ _ _ hm
theorem xV_X7_253 {p : Program} {l : Launch} {e : Env} {s : State} {m : MethodId} {args : Array Value} {below : List Frame} {meth : Method} {c : Code} {Q : State → Prop} {D : va_G} {A : Nat → Prop} {cc : ByteArray} {nL : Nat} {lv : List (Nat × Value)} {pc : Nat} {st : List Value} {cA : Nat → ClassId} {ad : Nat → Nat} {tK tB : Nat} {kS vS : Nat → Nat} {vT vH vA : Value} {d : Nat} {x0 : Int32} {u : SV} (hI : zInj ad 80) (C : zC p s m args meth c cc nL RX7 zTS D (zTy cA) A (zE tK tB kS vS)) (hdm : 0 + 1 ≤ d) (hd : decode cc pc = .ok (.invokestatic 253, 3)) (h8 : (st.map fun v => v.category).sum ≤ 8) (g : zG p l e (zRm d) s m args below meth c nL D A Q (wV cA ad vT vH vA u) lv (pc + 3) (.int (mN_isTape x0) :: st)) : zG p l e (zRm d) s m args below meth c nL D A Q (wV cA ad vT vH vA u) lv pc (.int x0 :: st) :=
  z_calliS C (cN_isTape (ad := (fun i => i)) (cA := cA) zInj0 x0 () rfl) (cwX7_253 C.1.2.2.2.2 rfl rfl ⟨hdm, by have := hdm; simp only [zRm]; omega⟩) hd rfl rfl h8 (fun _ h => nomatch h) (fun _ h => h.elim) zJ_ro g
theorem gV_X7_60_o {p : Program} {l : Launch} {e : Env} {R : Room} {s : State} {m : MethodId} {args : Array Value} {below : List Frame} {meth : Method} {c : Code} {Q : State → Prop} {D : va_G} {A : Nat → Prop} {cc : ByteArray} {nL : Nat} {lv : List (Nat × Value)} {pc : Nat} {st : List Value} {cA : Nat → ClassId} {ad : Nat → Nat} {tK tB : Nat} {kS vS : Nat → Nat} {vT vH vA : Value} {u : SV} (C : zC p s m args meth c cc nL RX7 zTS D (zTy cA) A (zE tK tB kS vS)) (hd : decode cc pc = .ok (.getfield 60, 3)) (g : zG p l e R s m args below meth c nL D A Q (wV cA ad vT vH vA u) lv (pc + 3) (.ref (ad 6) :: st)) : zG p l e R s m args below meth c nL D A Q (wV cA ad vT vH vA u) lv pc (.ref (ad 0) :: st) := by
  exact fun H locs ls hP hS hL => va_get (D := D) (ci := 7) (C := RX7) (T := TX7) (N := 16) C.1.1 C.1.2.1 C.1.2.2.2.2 inlX7 C.1.2.2.2.1 C.2.1 hP 0 (heV_o cA ad vT vH vA u) rfl 14 (by decide) (C.1.2.2.2.2 _ mfX7_60) (fun _ h9 => h9) (v := .ref (ad 6)) rfl hd (g H locs ls hP hS hL)
theorem xV_X7_256 {p : Program} {l : Launch} {e : Env} {s : State} {m : MethodId} {args : Array Value} {below : List Frame} {meth : Method} {c : Code} {Q : State → Prop} {D : va_G} {A : Nat → Prop} {cc : ByteArray} {nL : Nat} {lv : List (Nat × Value)} {pc : Nat} {st : List Value} {cA : Nat → ClassId} {ad : Nat → Nat} {tK tB : Nat} {kS vS : Nat → Nat} {vT vH vA : Value} {d : Nat} {u : SV} {K : Nat} (hK : K < 6) (hI : zInj ad 80) (C : zC p s m args meth c cc nL RX7 zTS D (zTy cA) A (zE tK tB kS vS)) (hdm : 0 + 1 ≤ d) (hd : decode cc pc = .ok (.invokevirtual 256, 3)) (h8 : (st.map fun v => v.category).sum ≤ 8) (g : zG p l e (zRm d) s m args below meth c nL D A Q (wV cA ad vT vH vA u) lv (pc + 3) (.int (mT_isRow (V_ts u K)) :: st)) : zG p l e (zRm d) s m args below meth c nL D A Q (wV cA ad vT vH vA u) lv pc (.ref (ad (58 + 2 * K)) :: st) :=
  z_calliV C (cT_isRow (ad := (fun i => ad (58 + 2 * K + i))) (cA := cA) (zInj_sh (k := 58 + 2 * K) (n := 2) hI (by omega))  (V_ts u K) rfl) (cwX7_256 C.1.2.2.2.2 rfl rfl ⟨hdm, by have := hdm; simp only [zRm]; omega⟩) hd rfl rfl h8 ⟨_, rfl, rfl⟩ (inV_t (cA := cA) hK _ (List.mem_of_getElem? (i := 0) rfl)) (inV_t hK) (fun _ h => h.elim) zJ_ro g
theorem xV_X7_263 {p : Program} {l : Launch} {e : Env} {s : State} {m : MethodId} {args : Array Value} {below : List Frame} {meth : Method} {c : Code} {Q : State → Prop} {D : va_G} {A : Nat → Prop} {cc : ByteArray} {nL : Nat} {lv : List (Nat × Value)} {pc : Nat} {st : List Value} {cA : Nat → ClassId} {ad : Nat → Nat} {tK tB : Nat} {kS vS : Nat → Nat} {vT vH vA : Value} {d : Nat} {x1 : Int32} {u : SV} {K : Nat} (hK : K < 6) (hI : zInj ad 80) (C : zC p s m args meth c cc nL RX7 zTS D (zTy cA) A (zE tK tB kS vS)) (hdm : 0 + 1 ≤ d) (hd : decode cc pc = .ok (.invokevirtual 263, 3)) (h8 : (st.map fun v => v.category).sum ≤ 8) (g : zG p l e (zRm d) s m args below meth c nL D A Q (wV cA ad vT vH vA u) lv (pc + 3) (.int (mT_has x1 (V_ts u K)) :: st)) : zG p l e (zRm d) s m args below meth c nL D A Q (wV cA ad vT vH vA u) lv pc (.int x1 :: .ref (ad (58 + 2 * K)) :: st) :=
  z_calliV C (cT_has (ad := (fun i => ad (58 + 2 * K + i))) (cA := cA) (zInj_sh (k := 58 + 2 * K) (n := 2) hI (by omega)) x1 (V_ts u K) rfl) (cwX7_263 C.1.2.2.2.2 rfl rfl ⟨hdm, by have := hdm; simp only [zRm]; omega⟩) hd rfl rfl h8 ⟨_, rfl, rfl⟩ (inV_t (cA := cA) hK _ (List.mem_of_getElem? (i := 0) rfl)) (inV_t hK) (fun _ h => h.elim) zJ_ro g
theorem gV_X7_266_tape {p : Program} {l : Launch} {e : Env} {R : Room} {s : State} {m : MethodId} {args : Array Value} {below : List Frame} {meth : Method} {c : Code} {Q : State → Prop} {D : va_G} {A : Nat → Prop} {cc : ByteArray} {nL : Nat} {lv : List (Nat × Value)} {pc : Nat} {st : List Value} {cA : Nat → ClassId} {ad : Nat → Nat} {tK tB : Nat} {kS vS : Nat → Nat} {vT vH vA : Value} {u : SV} {K : Nat} (hK : K < 6) (C : zC p s m args meth c cc nL RX7 zTS D (zTy cA) A (zE tK tB kS vS)) (hd : decode cc pc = .ok (.getfield 266, 3)) (g : zG p l e R s m args below meth c nL D A Q (wV cA ad vT vH vA u) lv (pc + 3) (.ref (ad (58 + 2 * K + 1)) :: st)) : zG p l e R s m args below meth c nL D A Q (wV cA ad vT vH vA u) lv pc (.ref (ad (58 + 2 * K)) :: st) := by
  obtain ⟨q0, he⟩ := List.getElem?_of_mem (inV_t (cA := cA) (ad := ad) (vT := vT) (vH := vH) (vA := vA) (u := u) hK _ (List.mem_of_getElem? (i := 0) rfl))
  exact fun H locs ls hP hS hL => va_get (D := D) (ci := 5) (C := RX5) (T := TX5) (N := 3) C.1.1 C.1.2.1 C.1.2.2.2.2 inlX5 C.1.2.2.2.1 C.2.1 hP q0 he rfl 2 (by decide) (C.1.2.2.2.2 _ mfX7_266) (fun _ h9 => h9) (v := .ref (ad (58 + 2 * K + 1))) rfl hd (g H locs ls hP hS hL)
theorem aV_items {p : Program} {l : Launch} {e : Env} {R : Room} {s : State} {m : MethodId} {args : Array Value} {below : List Frame} {meth : Method} {c : Code} {Q : State → Prop} {D : va_G} {A : Nat → Prop} {cc : ByteArray} {nL : Nat} {lv : List (Nat × Value)} {pc : Nat} {st : List Value} {cA : Nat → ClassId} {ad : Nat → Nat} {tK tB : Nat} {kS vS : Nat → Nat} {vT vH vA : Value} {u : SV} {K : Nat} (hK : K < 6) {i : Int32} {β : Type} {k : Option β} {r : β} (C : zC p s m args meth c cc nL RX7 zTS D (zTy cA) A (zE tK tB kS vS)) (hm : zgi i 60 k = some r) (hd : decode cc pc = .ok (.laload, 1)) (g : k = some r → zG p l e R s m args below meth c nL D A Q (wV cA ad vT vH vA u) lv (pc + 1) (.long (T_items (V_ts u K) i.toNatClampNeg) :: st)) : zG p l e R s m args below meth c nL D A Q (wV cA ad vT vH vA u) lv pc (.int i :: .ref (ad (58 + 2 * K + 1)) :: st) := by
  obtain ⟨q0, he⟩ := List.getElem?_of_mem (inV_t (cA := cA) (ad := ad) (vT := vT) (vH := vH) (vA := vA) (u := u) hK _ (List.mem_of_getElem? (i := 1) rfl))
  exact fun H locs ls hP hS hL => va_lald C.1.1 C.1.2.1 C.2.1 hP q0 1 he rfl (zgi_some hm).1 hd (g (zgi_some hm).2 H locs ls hP hS hL)
theorem gV_X7_260_tape {p : Program} {l : Launch} {e : Env} {R : Room} {s : State} {m : MethodId} {args : Array Value} {below : List Frame} {meth : Method} {c : Code} {Q : State → Prop} {D : va_G} {A : Nat → Prop} {cc : ByteArray} {nL : Nat} {lv : List (Nat × Value)} {pc : Nat} {st : List Value} {cA : Nat → ClassId} {ad : Nat → Nat} {tK tB : Nat} {kS vS : Nat → Nat} {vT vH vA : Value} {u : SV} {K : Nat} (hK : K < 6) (C : zC p s m args meth c cc nL RX7 zTS D (zTy cA) A (zE tK tB kS vS)) (hd : decode cc pc = .ok (.getfield 260, 3)) {v : Int32} (hv : T_sort (V_ts u K) = v) (g : zG p l e R s m args below meth c nL D A Q (wV cA ad vT vH vA u) lv (pc + 3) (.int v :: st)) : zG p l e R s m args below meth c nL D A Q (wV cA ad vT vH vA u) lv pc (.ref (ad (58 + 2 * K)) :: st) := by
  subst hv
  obtain ⟨q0, he⟩ := List.getElem?_of_mem (inV_t (cA := cA) (ad := ad) (vT := vT) (vH := vH) (vA := vA) (u := u) hK _ (List.mem_of_getElem? (i := 0) rfl))
  exact fun H locs ls hP hS hL => va_get (D := D) (ci := 5) (C := RX5) (T := TX5) (N := 3) C.1.1 C.1.2.1 C.1.2.2.2.2 inlX5 C.1.2.2.2.1 C.2.1 hP q0 he rfl 0 (by decide) (C.1.2.2.2.2 _ mfX7_260) (fun _ h9 => h9) (v := .int (T_sort (V_ts u K))) rfl hd (g H locs ls hP hS hL)
def mV_judge_L70 (a1 : Nat) (k6 : Nat) (x2 : Int32) (x4 : Int32) (x7 : Int32) : Nat → Int32 → SV → Option (Int32 × SK)
  | 0, _, _ => none
  | n + 1, x8, u => if x7 ≤ x8 then (some ((-5 : Int32), ((V_look u)))) else (if (mT_has (x2 + x8) ((V_ts u) k6)) = 0 then (some (((100 : Int32) + x8), ((V_look u)))) else (zgi (x2 + x8) 60 ((mV_lookAt a1 x4 x8 u).bind fun q2 => (if (lg_cmp (T_items ((V_ts u) k6) ((x2 + x8)).toNatClampNeg) (((K_held q2)).toInt64)) = 0 then (mV_judge_L70 a1 k6 x2 x4 x7 n (x8 + (1 : Int32)) (V_put_look (q2) u)) else (some (x8, (q2)))))))
set_option maxRecDepth 100000 in
set_option maxHeartbeats 4000000 in
theorem lV_judge_70 {l : Launch} {D : va_G} {cA : Nat → ClassId} {ad : Nat → Nat} {p : Program} {e : Env} {s : State} {m : MethodId} {args : Array Value} {below : List Frame} {meth : Method} {c : Code} {tK tB : Nat} {kS vS : Nat → Nat} {vT : Value} {vH : Value} {vA : Value} {r : Int32} {w' : SK}  {a1 : Nat} {k6 : Nat} {x2 : Int32} {x4 : Int32} {x7 : Int32} (hI : zInj ad 80) (hC : zC p s m args meth c cX7_judge 9 RX7 zTS D (zTy cA) (zAd ad 80) (zE tK tB kS vS)) (hr : meth.sig.returnType = (some .int)) (hd6 : k6 < 6) : ∀ (n : Nat) (x8 : Int32) (u : SV), mV_judge_L70 a1 k6 x2 x4 x7 n x8 u = some (r, w') → zG p l e (zRm 4) s m args below meth c 9 D (zAd ad 80) (MQ below (zQi r (zBw D (wV cA ad vT vH vA (V_put_look w' u))) (zAd ad 80)) args s 0 0 (zAd ad 80)) (wV cA ad vT vH vA u) [(0, .ref (ad 0)), (2, .int x2), (4, .int x4), (5, .ref (ad (70 + a1))), (6, .ref (ad (58 + 2 * k6))), (7, .int x7), (8, .int x8)] 70 [] := by
  intro n
  induction n with
  | zero => intro x8 u hm; exact z_none hm
  | succ n ih =>
    intro x8 u hm
    rw [mV_judge_L70] at hm
    refine z_iload hC dX7_judge_70 6 rfl ?_
    refine z_iload hC dX7_judge_72 5 rfl ?_
    refine z_icmp_ge (tgt := 132) hC hm dX7_judge_74 (by decide) (fun hm => ?_) (fun hm => ?_)
    · refine z_bipush hC dX7_judge_132 kB_m5 ?_
      exact riV (fin := fun z => V_put_look z u) hC hr rfl dX7_judge_134 hm rfl
    · refine z_aload hC dX7_judge_77 4 rfl ?_
      refine z_iload_n hC dX7_judge_79 rfl 1 rfl ?_
      refine z_iload hC dX7_judge_80 6 rfl ?_
      refine z_iadd hC dX7_judge_82 ?_
      refine xV_X7_263 hd6 hI hC (Nat.le_of_ble_eq_true rfl) dX7_judge_83 (Nat.le_of_ble_eq_true rfl) ?_
      refine z_if_ne (tgt := 95) hC hm dX7_judge_86 (by decide) (fun hm => ?_) (fun hm => ?_)
      · refine z_bipush hC dX7_judge_89 kB_100 ?_
        refine z_iload hC dX7_judge_91 6 rfl ?_
        refine z_iadd hC dX7_judge_93 ?_
        exact riV (fin := fun z => V_put_look z u) hC hr rfl dX7_judge_94 hm rfl
      · refine z_aload hC dX7_judge_95 4 rfl ?_
        refine gV_X7_266_tape hd6 hC dX7_judge_97 ?_
        refine z_iload_n hC dX7_judge_100 rfl 1 rfl ?_
        refine z_iload hC dX7_judge_101 6 rfl ?_
        refine z_iadd hC dX7_judge_103 ?_
        refine aV_items hd6 hC hm dX7_judge_104 (fun hm => ?_)
        refine z_aload_n hC dX7_judge_105 rfl 0 rfl ?_
        refine z_aload hC dX7_judge_106 3 rfl ?_
        refine z_iload hC dX7_judge_108 2 rfl ?_
        refine z_iload hC dX7_judge_110 6 rfl ?_
        refine xV_X7_146 hI hC (Nat.le_of_ble_eq_true rfl) (fun _ h => h) hm dX7_judge_112 (Nat.le_of_ble_eq_true rfl) (fun q2 hm => ?_)
        refine zuV (u2 := (V_put_look (q2) u)) rfl ?_
        refine gV_X7_163_look (v := (K_held q2)) hC dX7_judge_115 rfl ?_
        refine z_i2l hC dX7_judge_118 ?_
        refine z_lcmp hC dX7_judge_119 ?_
        refine z_if_eq (tgt := 126) hC hm dX7_judge_120 (by decide) (fun hm => ?_) (fun hm => ?_)
        · refine z_iinc (lv' := [(8, .int (x8 + (1 : Int32))), (0, .ref (ad 0)), (2, .int x2), (4, .int x4), (5, .ref (ad (70 + a1))), (6, .ref (ad (58 + 2 * k6))), (7, .int x7)]) (k := 6) (v := (x8 + (1 : Int32))) hC dX7_judge_126 rfl rfl (by decide) rfl ?_
          refine z_goto (tgt := 70) hC dX7_judge_129 (by decide) ?_
          refine z_lv hC [1, 2, 3, 4, 5, 6, 0] rfl ?_
          exact ih _ _ hm
        · refine z_iload hC dX7_judge_123 6 rfl ?_
          exact riV (fin := fun z => V_put_look z u) hC hr rfl dX7_judge_125 hm rfl
def mV_judge (x1 : Int32) (x2 : Int32) (x3 : Int32) (x4 : Int32) (u : SV) : Option (Int32 × SK) :=
  (mV_voiceAt x3 u).bind fun v1 => zcs v1 (if (mN_isTape x1) = 0 then (some ((-1 : Int32), ((V_look u)))) else (some ((-1 : Int32), ((V_look u))))) (fun a1 => (if (mN_isTape x1) = 0 then (some ((-1 : Int32), ((V_look u)))) else (if (mV_isSeat x4 u) = 0 then (some ((-1 : Int32), ((V_look u)))) else (zgi x1 6 (if (mT_isRow ((V_ts u) (x1).toNatClampNeg)) = 0 then (mV_judge_L70 a1 (x1).toNatClampNeg x2 x4 (mS_tenthsSaidIn (V_stage u)) 256 (0 : Int32) u) else (if (T_sort ((V_ts u) (x1).toNatClampNeg)) = (1 : Int32) then (mV_judge_L70 a1 (x1).toNatClampNeg x2 x4 (mS_tenthsSaidIn (V_stage u)) 256 (0 : Int32) u) else (some ((-12 : Int32), ((V_look u))))))))))
set_option maxRecDepth 100000 in
set_option maxHeartbeats 4000000 in
theorem cV_judge {l : Launch} {D : va_G} {cA : Nat → ClassId} {ad : Nat → Nat} {tK tB : Nat} {kS vS : Nat → Nat} {vT vH vA : Value} (hI : zInj ad 80) (x1 : Int32) (x2 : Int32) (x3 : Int32) (x4 : Int32) (u : SV) {r : Int32} {w' : SK} (hm : mV_judge x1 x2 x3 x4 u = some (r, w')) : Met l yX7_judge (zWs yX7_judge cX7_judge 9 (some .int)) (zRm 4) (va_Pc [.ref (ad 0), .int x1, .int x2, .int x3, .int x4] (zPre D (zTy cA) (zE tK tB kS vS) (zAd ad 80) (wV cA ad vT vH vA u))) (zQi r (zBw D (wV cA ad vT vH vA (V_put_look w' u))) (zAd ad 80)) 0 0 (zAd ad 80) := by
  refine z_met (lv := [(0, .ref (ad 0)), (1, .int x1), (2, .int x2), (3, .int x3), (4, .int x4)]) plX7 rfl rfl (Nat.le_of_ble_eq_true rfl) rfl ?_
  intro p e s m below meth c hC hr hin
  unfold mV_judge at hm
  refine z_aload_n hC dX7_judge_0 rfl 0 rfl ?_
  refine z_iload_n hC dX7_judge_1 rfl 3 rfl ?_
  refine xV_X7_139 hI hC (Nat.le_of_ble_eq_true rfl) hm dX7_judge_2 (Nat.le_of_ble_eq_true rfl) (fun hm => ?_) (fun a1 hm => ?_)
  · refine z_astoreN (lv' := [(5, .null), (0, .ref (ad 0)), (1, .int x1), (2, .int x2), (3, .int x3), (4, .int x4)]) hC dX7_judge_5 (by decide) rfl ?_
    refine z_iload_n hC dX7_judge_7 rfl 2 rfl ?_
    refine xV_X7_253 hI hC (Nat.le_of_ble_eq_true rfl) dX7_judge_8 (Nat.le_of_ble_eq_true rfl) ?_
    refine z_if_eq (tgt := 28) hC hm dX7_judge_11 (by decide) (fun hm => ?_) (fun hm => ?_)
    · refine z_iconst hC dX7_judge_28 kI_m1 ?_
      exact riV (fin := fun z => V_put_look z u) hC hr rfl dX7_judge_29 hm rfl
    · refine z_aloadN hC dX7_judge_14 0 rfl ?_
      refine z_ifnullN (tgt := 28) hC dX7_judge_16 (by decide) ?_
      refine z_iconst hC dX7_judge_28 kI_m1 ?_
      exact riV (fin := fun z => V_put_look z u) hC hr rfl dX7_judge_29 hm rfl
  · refine z_astore (lv' := [(5, .ref (ad (70 + a1))), (0, .ref (ad 0)), (1, .int x1), (2, .int x2), (3, .int x3), (4, .int x4)]) hC dX7_judge_5 (by decide) rfl ?_
    refine z_iload_n hC dX7_judge_7 rfl 2 rfl ?_
    refine xV_X7_253 hI hC (Nat.le_of_ble_eq_true rfl) dX7_judge_8 (Nat.le_of_ble_eq_true rfl) ?_
    refine z_if_eq (tgt := 28) hC hm dX7_judge_11 (by decide) (fun hm => ?_) (fun hm => ?_)
    · refine z_iconst hC dX7_judge_28 kI_m1 ?_
      exact riV (fin := fun z => V_put_look z u) hC hr rfl dX7_judge_29 hm rfl
    · refine z_aload hC dX7_judge_14 0 rfl ?_
      refine z_ifnull hC dX7_judge_16 ?_
      refine z_aload_n hC dX7_judge_19 rfl 1 rfl ?_
      refine z_iload hC dX7_judge_20 5 rfl ?_
      refine xV_X7_93 hI hC (Nat.le_of_ble_eq_true rfl) dX7_judge_22 (Nat.le_of_ble_eq_true rfl) ?_
      refine z_if_ne (tgt := 30) hC hm dX7_judge_25 (by decide) (fun hm => ?_) (fun hm => ?_)
      · refine z_iconst hC dX7_judge_28 kI_m1 ?_
        exact riV (fin := fun z => V_put_look z u) hC hr rfl dX7_judge_29 hm rfl
      · refine z_aload_n hC dX7_judge_30 rfl 1 rfl ?_
        refine gV_X7_60_o hC dX7_judge_31 ?_
        refine z_iload_n hC dX7_judge_34 rfl 2 rfl ?_
        refine aV_tapes hC hm dX7_judge_35 (fun hk1 hm => ?_)
        refine z_astore (lv' := [(6, .ref (ad (58 + 2 * (x1).toNatClampNeg))), (5, .ref (ad (70 + a1))), (0, .ref (ad 0)), (1, .int x1), (2, .int x2), (3, .int x3), (4, .int x4)]) hC dX7_judge_36 (by decide) rfl ?_
        refine z_aload hC dX7_judge_38 0 rfl ?_
        refine xV_X7_256 hk1 hI hC (Nat.le_of_ble_eq_true rfl) dX7_judge_40 (Nat.le_of_ble_eq_true rfl) ?_
        refine z_if_eq (tgt := 58) hC hm dX7_judge_43 (by decide) (fun hm => ?_) (fun hm => ?_)
        · refine z_aload_n hC dX7_judge_58 rfl 2 rfl ?_
          refine gV_X7_12_o hC dX7_judge_59 ?_
          refine xV_X7_211 hI hC (Nat.le_of_ble_eq_true rfl) dX7_judge_62 (Nat.le_of_ble_eq_true rfl) ?_
          refine z_istore (lv' := [(7, .int (mS_tenthsSaidIn (V_stage u))), (6, .ref (ad (58 + 2 * (x1).toNatClampNeg))), (5, .ref (ad (70 + a1))), (0, .ref (ad 0)), (1, .int x1), (2, .int x2), (3, .int x3), (4, .int x4)]) hC dX7_judge_65 (by decide) rfl ?_
          refine z_iconst hC dX7_judge_67 kI_0 ?_
          refine z_istore (lv' := [(8, .int (0 : Int32)), (7, .int (mS_tenthsSaidIn (V_stage u))), (6, .ref (ad (58 + 2 * (x1).toNatClampNeg))), (5, .ref (ad (70 + a1))), (0, .ref (ad 0)), (1, .int x1), (2, .int x2), (3, .int x3), (4, .int x4)]) hC dX7_judge_68 (by decide) rfl ?_
          refine z_lv hC [4, 6, 8, 3, 2, 1, 0] rfl ?_
          exact lV_judge_70 hI hC hr hk1 _ _ _ hm
        · refine z_aload hC dX7_judge_46 0 rfl ?_
          refine gV_X7_260_tape (v := (T_sort ((V_ts u) (x1).toNatClampNeg))) hk1 hC dX7_judge_48 rfl ?_
          refine z_iconst hC dX7_judge_51 kI_1 ?_
          refine z_icmp_eq (tgt := 58) hC hm dX7_judge_52 (by decide) (fun hm => ?_) (fun hm => ?_)
          · refine z_aload_n hC dX7_judge_58 rfl 2 rfl ?_
            refine gV_X7_12_o hC dX7_judge_59 ?_
            refine xV_X7_211 hI hC (Nat.le_of_ble_eq_true rfl) dX7_judge_62 (Nat.le_of_ble_eq_true rfl) ?_
            refine z_istore (lv' := [(7, .int (mS_tenthsSaidIn (V_stage u))), (6, .ref (ad (58 + 2 * (x1).toNatClampNeg))), (5, .ref (ad (70 + a1))), (0, .ref (ad 0)), (1, .int x1), (2, .int x2), (3, .int x3), (4, .int x4)]) hC dX7_judge_65 (by decide) rfl ?_
            refine z_iconst hC dX7_judge_67 kI_0 ?_
            refine z_istore (lv' := [(8, .int (0 : Int32)), (7, .int (mS_tenthsSaidIn (V_stage u))), (6, .ref (ad (58 + 2 * (x1).toNatClampNeg))), (5, .ref (ad (70 + a1))), (0, .ref (ad 0)), (1, .int x1), (2, .int x2), (3, .int x3), (4, .int x4)]) hC dX7_judge_68 (by decide) rfl ?_
            refine z_lv hC [4, 6, 8, 3, 2, 1, 0] rfl ?_
            exact lV_judge_70 hI hC hr hk1 _ _ _ hm
          · refine z_bipush hC dX7_judge_55 kB_m12 ?_
            exact riV (fin := fun z => V_put_look z u) hC hr rfl dX7_judge_57 hm rfl
theorem gV_X7_54_o {p : Program} {l : Launch} {e : Env} {R : Room} {s : State} {m : MethodId} {args : Array Value} {below : List Frame} {meth : Method} {c : Code} {Q : State → Prop} {D : va_G} {A : Nat → Prop} {cc : ByteArray} {nL : Nat} {lv : List (Nat × Value)} {pc : Nat} {st : List Value} {cA : Nat → ClassId} {ad : Nat → Nat} {tK tB : Nat} {kS vS : Nat → Nat} {vT vH vA : Value} {u : SV} (C : zC p s m args meth c cc nL RX7 zTS D (zTy cA) A (zE tK tB kS vS)) (hd : decode cc pc = .ok (.getfield 54, 3)) (g : zG p l e R s m args below meth c nL D A Q (wV cA ad vT vH vA u) lv (pc + 3) (.ref (ad 12) :: st)) : zG p l e R s m args below meth c nL D A Q (wV cA ad vT vH vA u) lv pc (.ref (ad 0) :: st) := by
  exact fun H locs ls hP hS hL => va_get (D := D) (ci := 7) (C := RX7) (T := TX7) (N := 16) C.1.1 C.1.2.1 C.1.2.2.2.2 inlX7 C.1.2.2.2.1 C.2.1 hP 0 (heV_o cA ad vT vH vA u) rfl 13 (by decide) (C.1.2.2.2.2 _ mfX7_54) (fun _ h9 => h9) (v := .ref (ad 12)) rfl hd (g H locs ls hP hS hL)
theorem xV_X7_283 {p : Program} {l : Launch} {e : Env} {s : State} {m : MethodId} {args : Array Value} {below : List Frame} {meth : Method} {c : Code} {Q : State → Prop} {D : va_G} {A : Nat → Prop} {cc : ByteArray} {nL : Nat} {lv : List (Nat × Value)} {pc : Nat} {st : List Value} {cA : Nat → ClassId} {ad : Nat → Nat} {tK tB : Nat} {kS vS : Nat → Nat} {vT vH vA : Value} {d : Nat} {u : SV} (hI : zInj ad 80) (C : zC p s m args meth c cc nL RX7 zTS D (zTy cA) A (zE tK tB kS vS)) (hdm : 1 + 1 ≤ d) (hd : decode cc pc = .ok (.invokevirtual 283, 3)) (h8 : (st.map fun v => v.category).sum ≤ 8) (g : zG p l e (zRm d) s m args below meth c nL D A Q (wV cA ad vT vH vA u) lv (pc + 3) (.int (mB_kept (V_acting u)) :: st)) : zG p l e (zRm d) s m args below meth c nL D A Q (wV cA ad vT vH vA u) lv pc (.ref (ad 12) :: st) :=
  z_calliV C (cB_kept (ad := (fun i => ad (12 + i))) (cA := cA) (zInj_sh (k := 12) (n := 2) hI (by decide))  (V_acting u) rfl) (cwX7_283 C.1.2.2.2.2 rfl rfl ⟨hdm, by have := hdm; simp only [zRm]; omega⟩) hd rfl rfl h8 ⟨_, rfl, rfl⟩ (List.mem_of_getElem? (heV_acting cA ad _ _ _ u)) inV_acting (fun _ h => h.elim) zJ_ro g
theorem gV_X7_286_acting {p : Program} {l : Launch} {e : Env} {R : Room} {s : State} {m : MethodId} {args : Array Value} {below : List Frame} {meth : Method} {c : Code} {Q : State → Prop} {D : va_G} {A : Nat → Prop} {cc : ByteArray} {nL : Nat} {lv : List (Nat × Value)} {pc : Nat} {st : List Value} {cA : Nat → ClassId} {ad : Nat → Nat} {tK tB : Nat} {kS vS : Nat → Nat} {vT vH vA : Value} {u : SV} (C : zC p s m args meth c cc nL RX7 zTS D (zTy cA) A (zE tK tB kS vS)) (hd : decode cc pc = .ok (.getfield 286, 3)) (g : zG p l e R s m args below meth c nL D A Q (wV cA ad vT vH vA u) lv (pc + 3) (.ref (ad 13) :: st)) : zG p l e R s m args below meth c nL D A Q (wV cA ad vT vH vA u) lv pc (.ref (ad 12) :: st) := by
  exact fun H locs ls hP hS hL => va_get (D := D) (ci := 0) (C := RX0) (T := TX0) (N := 3) C.1.1 C.1.2.1 C.1.2.2.2.2 inlX0 C.1.2.2.2.1 C.2.1 hP 12 (heV_acting cA ad vT vH vA u) rfl 0 (by decide) (C.1.2.2.2.2 _ mfX7_286) (fun _ h9 => h9) (v := .ref (ad 13)) rfl hd (g H locs ls hP hS hL)
theorem aV_bodies {p : Program} {l : Launch} {e : Env} {R : Room} {s : State} {m : MethodId} {args : Array Value} {below : List Frame} {meth : Method} {c : Code} {Q : State → Prop} {D : va_G} {A : Nat → Prop} {cc : ByteArray} {nL : Nat} {lv : List (Nat × Value)} {pc : Nat} {st : List Value} {cA : Nat → ClassId} {ad : Nat → Nat} {tK tB : Nat} {kS vS : Nat → Nat} {vT vH vA : Value} {u : SV} {i : Int32} {β : Type} {k : Option β} {r : β} (C : zC p s m args meth c cc nL RX7 zTS D (zTy cA) A (zE tK tB kS vS)) (hm : zgi i 20 k = some r) (hd : decode cc pc = .ok (.iaload, 1)) (g : k = some r → zG p l e R s m args below meth c nL D A Q (wV cA ad vT vH vA u) lv (pc + 1) (.int (B_bodies (V_acting u) i.toNatClampNeg) :: st)) : zG p l e R s m args below meth c nL D A Q (wV cA ad vT vH vA u) lv pc (.int i :: .ref (ad 13) :: st) := fun H locs ls hP hS hL => va_iald C.1.1 C.1.2.1 C.2.1 hP 13 0 (heV_bodies cA ad vT vH vA u) rfl (zgi_some hm).1 hd (g (zgi_some hm).2 H locs ls hP hS hL)
def mV_trace (x1 : Int32) (u : SV) : Option Int32 :=
  if x1 < 0 then (some (-1 : Int32)) else (if x1 < (mB_kept (V_acting u)) then (zgi x1 20 (some ((B_bodies (V_acting u)) (x1).toNatClampNeg))) else (some (-1 : Int32)))
set_option maxRecDepth 100000 in
set_option maxHeartbeats 4000000 in
theorem cV_trace {l : Launch} {D : va_G} {cA : Nat → ClassId} {ad : Nat → Nat} {tK tB : Nat} {kS vS : Nat → Nat} {vT vH vA : Value} (hI : zInj ad 80) (x1 : Int32) (u : SV) {r : Int32} (hm : mV_trace x1 u = some r) : Met l yX7_trace (zWs yX7_trace cX7_trace 2 (some .int)) (zRm 2) (va_Pc [.ref (ad 0), .int x1] (zPre D (zTy cA) (zE tK tB kS vS) zA0 (wV cA ad vT vH vA u))) (zQi r zB0 zA0) 0 0 zA0 := by
  refine z_met (lv := [(0, .ref (ad 0)), (1, .int x1)]) plX7 rfl rfl (Nat.le_of_ble_eq_true rfl) rfl ?_
  intro p e s m below meth c hC hr hin
  unfold mV_trace at hm
  refine z_iload_n hC dX7_trace_0 rfl 1 rfl ?_
  refine z_if_lt (tgt := 15) hC hm dX7_trace_1 (by decide) (fun hm => ?_) (fun hm => ?_)
  · refine z_iconst hC dX7_trace_15 kI_m1 ?_
    exact z_iret hC hr rfl dX7_trace_16 (fun _ _ => trivial) (Option.some.inj hm)
  · refine z_iload_n hC dX7_trace_4 rfl 1 rfl ?_
    refine z_aload_n hC dX7_trace_5 rfl 0 rfl ?_
    refine gV_X7_54_o hC dX7_trace_6 ?_
    refine xV_X7_283 hI hC (Nat.le_of_ble_eq_true rfl) dX7_trace_9 (Nat.le_of_ble_eq_true rfl) ?_
    refine z_icmp_lt (tgt := 17) hC hm dX7_trace_12 (by decide) (fun hm => ?_) (fun hm => ?_)
    · refine z_aload_n hC dX7_trace_17 rfl 0 rfl ?_
      refine gV_X7_54_o hC dX7_trace_18 ?_
      refine gV_X7_286_acting hC dX7_trace_21 ?_
      refine z_iload_n hC dX7_trace_24 rfl 1 rfl ?_
      refine aV_bodies hC hm dX7_trace_25 (fun hm => ?_)
      exact z_iret hC hr rfl dX7_trace_26 (fun _ _ => trivial) (Option.some.inj hm)
    · refine z_iconst hC dX7_trace_15 kI_m1 ?_
      exact z_iret hC hr rfl dX7_trace_16 (fun _ _ => trivial) (Option.some.inj hm)
theorem xV_X7_289 {p : Program} {l : Launch} {e : Env} {s : State} {m : MethodId} {args : Array Value} {below : List Frame} {meth : Method} {c : Code} {Q : State → Prop} {D : va_G} {A : Nat → Prop} {cc : ByteArray} {nL : Nat} {lv : List (Nat × Value)} {pc : Nat} {st : List Value} {cA : Nat → ClassId} {ad : Nat → Nat} {tK tB : Nat} {kS vS : Nat → Nat} {vT vH vA : Value} {d : Nat} {x1 : Int32} {u : SV} {a : Nat} (ha : a < V_nv u) (hI : zInj ad 80) (C : zC p s m args meth c cc nL RX7 zTS D (zTy cA) A (zE tK tB kS vS)) (hdm : 0 + 1 ≤ d) {β : Type} {f : Int32 → Option β} {o : β} (hm : (mO_isOf x1 (V_vo u a)).bind f = some o) (hd : decode cc pc = .ok (.invokevirtual 289, 3)) (h8 : (st.map fun v => v.category).sum ≤ 8) (g : ∀ q, f q = some o → zG p l e (zRm d) s m args below meth c nL D A Q (wV cA ad vT vH vA u) lv (pc + 3) (.int q :: st)) : zG p l e (zRm d) s m args below meth c nL D A Q (wV cA ad vT vH vA u) lv pc (.int x1 :: .ref (ad (70 + a)) :: st) := by
  obtain ⟨q, h1, h2⟩ := zb_some hm
  exact z_calliV C (cO_isOf (ad := (fun i => ad (70 + a + i))) (cA := cA) (zInj_sh (k := 70 + a) (n := 1) hI (by have := V_nv_le u; omega)) x1 (V_vo u a) h1) (cwX7_289 C.1.2.2.2.2 rfl rfl ⟨hdm, by have := hdm; simp only [zRm]; omega⟩) hd rfl rfl h8 ⟨_, rfl, rfl⟩ (inV_o (cA := cA) ha _ (List.mem_of_getElem? (i := 0) rfl)) (inV_o ha) (fun _ h => h.elim) zJ_ro (g q h2)
def mV_taken (x1 : Int32) (x2 : Int32) (u : SV) : Option Int32 :=
  if x2 < 0 then (some (-2 : Int32)) else (if x2 ≤ (6 : Int32) then ((mV_voiceAt x1 u).bind fun v1 => zcs v1 (some (-11 : Int32)) (fun a1 => (zgk a1 (V_nv u) <| (mO_isOf x2 ((V_vo u) a1)).bind fun q2 => (if q2 = 0 then (some (-12 : Int32)) else (zgk a1 (V_nv u) (some (O_kind ((V_vo u) a1)))))))) else (some (-2 : Int32)))
set_option maxRecDepth 100000 in
set_option maxHeartbeats 4000000 in
theorem cV_taken {l : Launch} {D : va_G} {cA : Nat → ClassId} {ad : Nat → Nat} {tK tB : Nat} {kS vS : Nat → Nat} {vT vH vA : Value} (hI : zInj ad 80) (x1 : Int32) (x2 : Int32) (u : SV) {r : Int32} (hm : mV_taken x1 x2 u = some r) : Met l yX7_taken (zWs yX7_taken cX7_taken 4 (some .int)) (zRm 1) (va_Pc [.ref (ad 0), .int x1, .int x2] (zPre D (zTy cA) (zE tK tB kS vS) zA0 (wV cA ad vT vH vA u))) (zQi r zB0 zA0) 0 0 zA0 := by
  refine z_met (lv := [(0, .ref (ad 0)), (1, .int x1), (2, .int x2)]) plX7 rfl rfl (Nat.le_of_ble_eq_true rfl) rfl ?_
  intro p e s m below meth c hC hr hin
  unfold mV_taken at hm
  refine z_iload_n hC dX7_taken_0 rfl 2 rfl ?_
  refine z_if_lt (tgt := 10) hC hm dX7_taken_1 (by decide) (fun hm => ?_) (fun hm => ?_)
  · refine z_bipush hC dX7_taken_10 kB_m2 ?_
    exact z_iret hC hr rfl dX7_taken_12 (fun _ _ => trivial) (Option.some.inj hm)
  · refine z_iload_n hC dX7_taken_4 rfl 2 rfl ?_
    refine z_bipush hC dX7_taken_5 kB_6 ?_
    refine z_icmp_le (tgt := 13) hC hm dX7_taken_7 (by decide) (fun hm => ?_) (fun hm => ?_)
    · refine z_aload_n hC dX7_taken_13 rfl 0 rfl ?_
      refine z_iload_n hC dX7_taken_14 rfl 1 rfl ?_
      refine xV_X7_139 hI hC (Nat.le_of_ble_eq_true rfl) hm dX7_taken_15 (Nat.le_of_ble_eq_true rfl) (fun hm => ?_) (fun a1 hm => ?_)
      · refine z_astore_nN (lv' := [(3, .null), (0, .ref (ad 0)), (1, .int x1), (2, .int x2)]) hC dX7_taken_18 rfl (by decide) rfl ?_
        refine z_aload_nN hC dX7_taken_19 rfl 0 rfl ?_
        refine z_ifnonnullN hC dX7_taken_20 ?_
        refine z_bipush hC dX7_taken_23 kB_m11 ?_
        exact z_iret hC hr rfl dX7_taken_25 (fun _ _ => trivial) (Option.some.inj hm)
      · refine z_astore_n (lv' := [(3, .ref (ad (70 + a1))), (0, .ref (ad 0)), (1, .int x1), (2, .int x2)]) hC dX7_taken_18 rfl (by decide) rfl ?_
        refine z_aload_n hC dX7_taken_19 rfl 0 rfl ?_
        refine z_ifnonnull (tgt := 26) hC dX7_taken_20 (by decide) ?_
        refine z_aload_n hC dX7_taken_26 rfl 0 rfl ?_
        refine z_iload_n hC dX7_taken_27 rfl 3 rfl ?_
        refine z_g (zgk_some hm) (fun ha hm => ?_)
        refine xV_X7_289 ha hI hC (Nat.le_of_ble_eq_true rfl) hm dX7_taken_28 (Nat.le_of_ble_eq_true rfl) (fun q2 hm => ?_)
        refine z_if_eq (tgt := 41) hC hm dX7_taken_31 (by decide) (fun hm => ?_) (fun hm => ?_)
        · refine z_bipush hC dX7_taken_41 kB_m12 ?_
          exact z_iret hC hr rfl dX7_taken_43 (fun _ _ => trivial) (Option.some.inj hm)
        · refine z_aload_n hC dX7_taken_34 rfl 0 rfl ?_
          refine z_g (zgk_some hm) (fun ha hm => ?_)
          refine gV_X7_292_voice (v := (O_kind ((V_vo u) a1))) ha hC dX7_taken_35 rfl ?_
          refine z_goto (tgt := 43) hC dX7_taken_38 (by decide) ?_
          exact z_iret hC hr rfl dX7_taken_43 (fun _ _ => trivial) (Option.some.inj hm)
    · refine z_bipush hC dX7_taken_10 kB_m2 ?_
      exact z_iret hC hr rfl dX7_taken_12 (fun _ _ => trivial) (Option.some.inj hm)
