theorem xV_X7_73 {p : Program} {l : Launch} {e : Env} {s : State} {m : MethodId} {args : Array Value} {below : List Frame} {meth : Method} {c : Code} {Q : State → Prop} {D : va_G} {A : Nat → Prop} {cc : ByteArray} {nL : Nat} {lv : List (Nat × Value)} {pc : Nat} {st : List Value} {cA : Nat → ClassId} {ad : Nat → Nat} {tK tB : Nat} {kS vS : Nat → Nat} {vT vH vA : Value} {d : Nat} {x0 : Int32} {u : SV} (hI : zInj ad 80) (C : zC p s m args meth c cc nL RX7 zTS D (zTy cA) A (zE tK tB kS vS)) (hdm : 0 + 1 ≤ d) (hd : decode cc pc = .ok (.invokestatic 73, 3)) (h8 : (st.map fun v => v.category).sum ≤ 8) (g : zG p l e (zRm d) s m args below meth c nL D A Q (wV cA ad vT vH vA u) lv (pc + 3) (.int (mN_isPlace x0) :: st)) : zG p l e (zRm d) s m args below meth c nL D A Q (wV cA ad vT vH vA u) lv pc (.int x0 :: st) :=
  z_calliS C (cN_isPlace (ad := (fun i => i)) (cA := cA) zInj0 x0 () rfl) (cwX7_73 C.1.2.2.2.2 rfl rfl ⟨hdm, by have := hdm; simp only [zRm]; omega⟩) hd rfl rfl h8 (fun _ h => nomatch h) (fun _ h => h.elim) zJ_ro g
def V_put_stage (p : SS) (u : SV) : SV := (u.1, (((p, u.2.1.1.2), u.2.1.2), u.2.2))
theorem gV_X7_12_o {p : Program} {l : Launch} {e : Env} {R : Room} {s : State} {m : MethodId} {args : Array Value} {below : List Frame} {meth : Method} {c : Code} {Q : State → Prop} {D : va_G} {A : Nat → Prop} {cc : ByteArray} {nL : Nat} {lv : List (Nat × Value)} {pc : Nat} {st : List Value} {cA : Nat → ClassId} {ad : Nat → Nat} {tK tB : Nat} {kS vS : Nat → Nat} {vT vH vA : Value} {u : SV} (C : zC p s m args meth c cc nL RX7 zTS D (zTy cA) A (zE tK tB kS vS)) (hd : decode cc pc = .ok (.getfield 12, 3)) (g : zG p l e R s m args below meth c nL D A Q (wV cA ad vT vH vA u) lv (pc + 3) (.ref (ad 7) :: st)) : zG p l e R s m args below meth c nL D A Q (wV cA ad vT vH vA u) lv pc (.ref (ad 0) :: st) := by
  exact fun H locs ls hP hS hL => va_get (D := D) (ci := 7) (C := RX7) (T := TX7) (N := 16) C.1.1 C.1.2.1 C.1.2.2.2.2 inlX7 C.1.2.2.2.1 C.2.1 hP 0 (heV_o cA ad vT vH vA u) rfl 0 (by decide) (C.1.2.2.2.2 _ mfX7_12) (fun _ h9 => h9) (v := .ref (ad 7)) rfl hd (g H locs ls hP hS hL)
theorem gV_X7_77_stage {p : Program} {l : Launch} {e : Env} {R : Room} {s : State} {m : MethodId} {args : Array Value} {below : List Frame} {meth : Method} {c : Code} {Q : State → Prop} {D : va_G} {A : Nat → Prop} {cc : ByteArray} {nL : Nat} {lv : List (Nat × Value)} {pc : Nat} {st : List Value} {cA : Nat → ClassId} {ad : Nat → Nat} {tK tB : Nat} {kS vS : Nat → Nat} {vT vH vA : Value} {u : SV} (C : zC p s m args meth c cc nL RX7 zTS D (zTy cA) A (zE tK tB kS vS)) (hd : decode cc pc = .ok (.getfield 77, 3)) {v : Int32} (hv : S_mouth (V_stage u) = v) (g : zG p l e R s m args below meth c nL D A Q (wV cA ad vT vH vA u) lv (pc + 3) (.int v :: st)) : zG p l e R s m args below meth c nL D A Q (wV cA ad vT vH vA u) lv pc (.ref (ad 7) :: st) := by
  subst hv
  exact fun H locs ls hP hS hL => va_get (D := D) (ci := 4) (C := RX4) (T := TX4) (N := 7) C.1.1 C.1.2.1 C.1.2.2.2.2 inlX4 C.1.2.2.2.1 C.2.1 hP 7 (heV_stage cA ad vT vH vA u) rfl 0 (by decide) (C.1.2.2.2.2 _ mfX7_77) (fun _ h9 => h9) (v := .int (S_mouth (V_stage u))) rfl hd (g H locs ls hP hS hL)
theorem pV_X7_77_stage {p : Program} {l : Launch} {e : Env} {R : Room} {s : State} {m : MethodId} {args : Array Value} {below : List Frame} {meth : Method} {c : Code} {Q : State → Prop} {D : va_G} {A : Nat → Prop} {cc : ByteArray} {nL : Nat} {lv : List (Nat × Value)} {pc : Nat} {st : List Value} {cA : Nat → ClassId} {ad : Nat → Nat} {tK tB : Nat} {kS vS : Nat → Nat} {vT vH vA : Value} {u : SV} {v : Int32} (C : zC p s m args meth c cc nL RX7 zTS D (zTy cA) A (zE tK tB kS vS)) (hI : zInj ad 80) (hA : ∀ q, zAd ad 80 q → A q) (hd : decode cc pc = .ok (.putfield 77, 3)) (g : zG p l e R s m args below meth c nL D A Q (wV cA ad vT vH vA (V_set_stage (S_set_mouth v (V_stage u)) u)) lv (pc + 3) (st)) : zG p l e R s m args below meth c nL D A Q (wV cA ad vT vH vA u) lv pc (.int v :: .ref (ad 7) :: st) := fun H locs ls hP hS hL => va_put (D := D) (ci := 4) (C := RX4) (T := TX4) (N := 7) C.1.1 C.1.2.1 C.1.2.2.2.2 inlX4 tyX4 tyX4_ok nmX4 C.1.2.2.2.1 C.2.1 hP (zD_mono (wV_D hI cA vT vH vA u) hA) hS 7 (heV_stage cA ad vT vH vA u) rfl 0 (by decide) (C.1.2.2.2.2 _ mfX7_77) (fun _ h9 => h9) rfl (ty := .int) (by decide +kernel) rfl rfl (Nat.le_of_ble_eq_true rfl) hd (fun H1 locs1 hP1 _ hS1 => g H1 locs1 ls hP1 hS1 hL)
def mV_mouth (x1 : Int32) (u : SV) : Option (Int32 × SS) :=
  if (mN_isPlace x1) = 0 then (some ((-1 : Int32), ((V_stage u)))) else (some ((S_mouth (V_stage u)), ((S_set_mouth x1 (V_stage u)))))
set_option maxRecDepth 100000 in
set_option maxHeartbeats 4000000 in
theorem cV_mouth {l : Launch} {D : va_G} {cA : Nat → ClassId} {ad : Nat → Nat} {tK tB : Nat} {kS vS : Nat → Nat} {vT vH vA : Value} (hI : zInj ad 80) (x1 : Int32) (u : SV) {r : Int32} {w' : SS} (hm : mV_mouth x1 u = some (r, w')) : Met l yX7_mouth (zWs yX7_mouth cX7_mouth 3 (some .int)) (zRm 1) (va_Pc [.ref (ad 0), .int x1] (zPre D (zTy cA) (zE tK tB kS vS) (zAd ad 80) (wV cA ad vT vH vA u))) (zQi r (zBw D (wV cA ad vT vH vA (V_put_stage w' u))) (zAd ad 80)) 0 0 (zAd ad 80) := by
  refine z_met (lv := [(0, .ref (ad 0)), (1, .int x1)]) plX7 rfl rfl (Nat.le_of_ble_eq_true rfl) rfl ?_
  intro p e s m below meth c hC hr hin
  unfold mV_mouth at hm
  refine z_iload_n hC dX7_mouth_0 rfl 1 rfl ?_
  refine xV_X7_73 hI hC (Nat.le_of_ble_eq_true rfl) dX7_mouth_1 (Nat.le_of_ble_eq_true rfl) ?_
  refine z_if_ne (tgt := 9) hC hm dX7_mouth_4 (by decide) (fun hm => ?_) (fun hm => ?_)
  · refine z_iconst hC dX7_mouth_7 kI_m1 ?_
    exact riV (fin := fun z => V_put_stage z u) hC hr rfl dX7_mouth_8 hm rfl
  · refine z_aload_n hC dX7_mouth_9 rfl 0 rfl ?_
    refine gV_X7_12_o hC dX7_mouth_10 ?_
    refine gV_X7_77_stage (v := (S_mouth (V_stage u))) hC dX7_mouth_13 rfl ?_
    refine z_istore_n (lv' := [(2, .int (S_mouth (V_stage u))), (0, .ref (ad 0)), (1, .int x1)]) hC dX7_mouth_16 rfl (by decide) rfl ?_
    refine z_aload_n hC dX7_mouth_17 rfl 1 rfl ?_
    refine gV_X7_12_o hC dX7_mouth_18 ?_
    refine z_iload_n hC dX7_mouth_21 rfl 2 rfl ?_
    refine pV_X7_77_stage hC hI (fun _ h => h) dX7_mouth_22 ?_
    refine zuV (u2 := (V_put_stage ((S_set_mouth x1 (V_stage u))) u)) rfl ?_
    refine z_iload_n hC dX7_mouth_25 rfl 0 rfl ?_
    exact riV (fin := fun z => V_put_stage z u) hC hr rfl dX7_mouth_26 hm rfl
theorem gV_X7_83_stage {p : Program} {l : Launch} {e : Env} {R : Room} {s : State} {m : MethodId} {args : Array Value} {below : List Frame} {meth : Method} {c : Code} {Q : State → Prop} {D : va_G} {A : Nat → Prop} {cc : ByteArray} {nL : Nat} {lv : List (Nat × Value)} {pc : Nat} {st : List Value} {cA : Nat → ClassId} {ad : Nat → Nat} {tK tB : Nat} {kS vS : Nat → Nat} {vT vH vA : Value} {u : SV} (C : zC p s m args meth c cc nL RX7 zTS D (zTy cA) A (zE tK tB kS vS)) (hd : decode cc pc = .ok (.getfield 83, 3)) {v : Int32} (hv : S_jaw (V_stage u) = v) (g : zG p l e R s m args below meth c nL D A Q (wV cA ad vT vH vA u) lv (pc + 3) (.int v :: st)) : zG p l e R s m args below meth c nL D A Q (wV cA ad vT vH vA u) lv pc (.ref (ad 7) :: st) := by
  subst hv
  exact fun H locs ls hP hS hL => va_get (D := D) (ci := 4) (C := RX4) (T := TX4) (N := 7) C.1.1 C.1.2.1 C.1.2.2.2.2 inlX4 C.1.2.2.2.1 C.2.1 hP 7 (heV_stage cA ad vT vH vA u) rfl 1 (by decide) (C.1.2.2.2.2 _ mfX7_83) (fun _ h9 => h9) (v := .int (S_jaw (V_stage u))) rfl hd (g H locs ls hP hS hL)
theorem pV_X7_83_stage {p : Program} {l : Launch} {e : Env} {R : Room} {s : State} {m : MethodId} {args : Array Value} {below : List Frame} {meth : Method} {c : Code} {Q : State → Prop} {D : va_G} {A : Nat → Prop} {cc : ByteArray} {nL : Nat} {lv : List (Nat × Value)} {pc : Nat} {st : List Value} {cA : Nat → ClassId} {ad : Nat → Nat} {tK tB : Nat} {kS vS : Nat → Nat} {vT vH vA : Value} {u : SV} {v : Int32} (C : zC p s m args meth c cc nL RX7 zTS D (zTy cA) A (zE tK tB kS vS)) (hI : zInj ad 80) (hA : ∀ q, zAd ad 80 q → A q) (hd : decode cc pc = .ok (.putfield 83, 3)) (g : zG p l e R s m args below meth c nL D A Q (wV cA ad vT vH vA (V_set_stage (S_set_jaw v (V_stage u)) u)) lv (pc + 3) (st)) : zG p l e R s m args below meth c nL D A Q (wV cA ad vT vH vA u) lv pc (.int v :: .ref (ad 7) :: st) := fun H locs ls hP hS hL => va_put (D := D) (ci := 4) (C := RX4) (T := TX4) (N := 7) C.1.1 C.1.2.1 C.1.2.2.2.2 inlX4 tyX4 tyX4_ok nmX4 C.1.2.2.2.1 C.2.1 hP (zD_mono (wV_D hI cA vT vH vA u) hA) hS 7 (heV_stage cA ad vT vH vA u) rfl 1 (by decide) (C.1.2.2.2.2 _ mfX7_83) (fun _ h9 => h9) rfl (ty := .int) (by decide +kernel) rfl rfl (Nat.le_of_ble_eq_true rfl) hd (fun H1 locs1 hP1 _ hS1 => g H1 locs1 ls hP1 hS1 hL)
theorem pV_X7_86_stage {p : Program} {l : Launch} {e : Env} {R : Room} {s : State} {m : MethodId} {args : Array Value} {below : List Frame} {meth : Method} {c : Code} {Q : State → Prop} {D : va_G} {A : Nat → Prop} {cc : ByteArray} {nL : Nat} {lv : List (Nat × Value)} {pc : Nat} {st : List Value} {cA : Nat → ClassId} {ad : Nat → Nat} {tK tB : Nat} {kS vS : Nat → Nat} {vT vH vA : Value} {u : SV} {v : Int64} (C : zC p s m args meth c cc nL RX7 zTS D (zTy cA) A (zE tK tB kS vS)) (hI : zInj ad 80) (hA : ∀ q, zAd ad 80 q → A q) (hd : decode cc pc = .ok (.putfield 86, 3)) (g : zG p l e R s m args below meth c nL D A Q (wV cA ad vT vH vA (V_set_stage (S_set_moving v (V_stage u)) u)) lv (pc + 3) (st)) : zG p l e R s m args below meth c nL D A Q (wV cA ad vT vH vA u) lv pc (.long v :: .ref (ad 7) :: st) := fun H locs ls hP hS hL => va_put (D := D) (ci := 4) (C := RX4) (T := TX4) (N := 7) C.1.1 C.1.2.1 C.1.2.2.2.2 inlX4 tyX4 tyX4_ok nmX4 C.1.2.2.2.1 C.2.1 hP (zD_mono (wV_D hI cA vT vH vA u) hA) hS 7 (heV_stage cA ad vT vH vA u) rfl 2 (by decide) (C.1.2.2.2.2 _ mfX7_86) (fun _ h9 => h9) rfl (ty := .long) (by decide +kernel) rfl rfl (Nat.le_of_ble_eq_true rfl) hd (fun H1 locs1 hP1 _ hS1 => g H1 locs1 ls hP1 hS1 hL)
def mV_jaw (x1 : Int32) (x2 : Int64) (u : SV) : Option (Int32 × SS) :=
  if (mN_isPlace x1) = 0 then (some ((-1 : Int32), ((V_stage u)))) else (if (lg_cmp x2 (0 : Int64)) < 0 then (some ((-2 : Int32), ((V_stage u)))) else (if (lg_cmp x2 (1099511627775 : Int64)) ≤ 0 then (some ((S_jaw (V_stage u)), ((S_set_moving x2 (S_set_jaw x1 (V_stage u)))))) else (some ((-2 : Int32), ((V_stage u))))))
set_option maxRecDepth 100000 in
set_option maxHeartbeats 4000000 in
theorem cV_jaw {l : Launch} {D : va_G} {cA : Nat → ClassId} {ad : Nat → Nat} {tK tB : Nat} {kS vS : Nat → Nat} {vT vH vA : Value} (hI : zInj ad 80) (x1 : Int32) (x2 : Int64) (u : SV) {r : Int32} {w' : SS} (hm : mV_jaw x1 x2 u = some (r, w')) : Met l yX7_jaw (zWs yX7_jaw cX7_jaw 5 (some .int)) (zRm 1) (va_Pc [.ref (ad 0), .int x1, .long x2] (zPre D (zTy cA) (zE tK tB kS vS) (zAd ad 80) (wV cA ad vT vH vA u))) (zQi r (zBw D (wV cA ad vT vH vA (V_put_stage w' u))) (zAd ad 80)) 0 0 (zAd ad 80) := by
  refine z_met (lv := [(0, .ref (ad 0)), (1, .int x1), (2, .long x2)]) plX7 rfl rfl (Nat.le_of_ble_eq_true rfl) rfl ?_
  intro p e s m below meth c hC hr hin
  unfold mV_jaw at hm
  refine z_iload_n hC dX7_jaw_0 rfl 1 rfl ?_
  refine xV_X7_73 hI hC (Nat.le_of_ble_eq_true rfl) dX7_jaw_1 (Nat.le_of_ble_eq_true rfl) ?_
  refine z_if_ne (tgt := 9) hC hm dX7_jaw_4 (by decide) (fun hm => ?_) (fun hm => ?_)
  · refine z_iconst hC dX7_jaw_7 kI_m1 ?_
    exact riV (fin := fun z => V_put_stage z u) hC hr rfl dX7_jaw_8 hm rfl
  · refine z_lload_n hC dX7_jaw_9 rfl 2 rfl ?_
    refine z_lconst hC dX7_jaw_10 kL_0 ?_
    refine z_lcmp hC dX7_jaw_11 ?_
    refine z_if_lt (tgt := 23) hC hm dX7_jaw_12 (by decide) (fun hm => ?_) (fun hm => ?_)
    · refine z_bipush hC dX7_jaw_23 kB_m2 ?_
      exact riV (fin := fun z => V_put_stage z u) hC hr rfl dX7_jaw_25 hm rfl
    · refine z_lload_n hC dX7_jaw_15 rfl 2 rfl ?_
      refine z_ldc2 hC mcX7_81 dX7_jaw_16 ?_
      refine z_lcmp hC dX7_jaw_19 ?_
      refine z_if_le (tgt := 26) hC hm dX7_jaw_20 (by decide) (fun hm => ?_) (fun hm => ?_)
      · refine z_aload_n hC dX7_jaw_26 rfl 0 rfl ?_
        refine gV_X7_12_o hC dX7_jaw_27 ?_
        refine gV_X7_83_stage (v := (S_jaw (V_stage u))) hC dX7_jaw_30 rfl ?_
        refine z_istore (lv' := [(4, .int (S_jaw (V_stage u))), (0, .ref (ad 0)), (1, .int x1), (2, .long x2)]) hC dX7_jaw_33 (by decide) rfl ?_
        refine z_aload_n hC dX7_jaw_35 rfl 1 rfl ?_
        refine gV_X7_12_o hC dX7_jaw_36 ?_
        refine z_iload_n hC dX7_jaw_39 rfl 2 rfl ?_
        refine pV_X7_83_stage hC hI (fun _ h => h) dX7_jaw_40 ?_
        refine zuV (u2 := (V_put_stage ((S_set_jaw x1 (V_stage u))) u)) rfl ?_
        refine z_aload_n hC dX7_jaw_43 rfl 1 rfl ?_
        refine gV_X7_12_o hC dX7_jaw_44 ?_
        refine z_lload_n hC dX7_jaw_47 rfl 3 rfl ?_
        refine pV_X7_86_stage hC hI (fun _ h => h) dX7_jaw_48 ?_
        refine zuV (u2 := (V_put_stage ((S_set_moving x2 (S_set_jaw x1 (V_stage u)))) u)) rfl ?_
        refine z_iload hC dX7_jaw_51 0 rfl ?_
        exact riV (fin := fun z => V_put_stage z u) hC hr rfl dX7_jaw_53 hm rfl
      · refine z_bipush hC dX7_jaw_23 kB_m2 ?_
        exact riV (fin := fun z => V_put_stage z u) hC hr rfl dX7_jaw_25 hm rfl
def V_put_seats_far_side (p : Int32 × (Nat → Int32) × (Nat → Int32)) (u : SV) : SV := ((((u.1.1.1.1, p.1), u.1.1.2), ((u.1.2.1.1, p.2.1), (p.2.2, u.1.2.2.2))), u.2)
theorem gV_X7_90_o {p : Program} {l : Launch} {e : Env} {R : Room} {s : State} {m : MethodId} {args : Array Value} {below : List Frame} {meth : Method} {c : Code} {Q : State → Prop} {D : va_G} {A : Nat → Prop} {cc : ByteArray} {nL : Nat} {lv : List (Nat × Value)} {pc : Nat} {st : List Value} {cA : Nat → ClassId} {ad : Nat → Nat} {tK tB : Nat} {kS vS : Nat → Nat} {vT vH vA : Value} {u : SV} (C : zC p s m args meth c cc nL RX7 zTS D (zTy cA) A (zE tK tB kS vS)) (hd : decode cc pc = .ok (.getfield 90, 3)) {v : Int32} (hv : V_seats u = v) (g : zG p l e R s m args below meth c nL D A Q (wV cA ad vT vH vA u) lv (pc + 3) (.int v :: st)) : zG p l e R s m args below meth c nL D A Q (wV cA ad vT vH vA u) lv pc (.ref (ad 0) :: st) := by
  subst hv
  exact fun H locs ls hP hS hL => va_get (D := D) (ci := 7) (C := RX7) (T := TX7) (N := 16) C.1.1 C.1.2.1 C.1.2.2.2.2 inlX7 C.1.2.2.2.1 C.2.1 hP 0 (heV_o cA ad vT vH vA u) rfl 5 (by decide) (C.1.2.2.2.2 _ mfX7_90) (fun _ h9 => h9) (v := .int (V_seats u)) rfl hd (g H locs ls hP hS hL)
theorem gV_X7_21_o {p : Program} {l : Launch} {e : Env} {R : Room} {s : State} {m : MethodId} {args : Array Value} {below : List Frame} {meth : Method} {c : Code} {Q : State → Prop} {D : va_G} {A : Nat → Prop} {cc : ByteArray} {nL : Nat} {lv : List (Nat × Value)} {pc : Nat} {st : List Value} {cA : Nat → ClassId} {ad : Nat → Nat} {tK tB : Nat} {kS vS : Nat → Nat} {vT vH vA : Value} {u : SV} (C : zC p s m args meth c cc nL RX7 zTS D (zTy cA) A (zE tK tB kS vS)) (hd : decode cc pc = .ok (.getfield 21, 3)) (g : zG p l e R s m args below meth c nL D A Q (wV cA ad vT vH vA u) lv (pc + 3) (.ref (ad 1) :: st)) : zG p l e R s m args below meth c nL D A Q (wV cA ad vT vH vA u) lv pc (.ref (ad 0) :: st) := by
  exact fun H locs ls hP hS hL => va_get (D := D) (ci := 7) (C := RX7) (T := TX7) (N := 16) C.1.1 C.1.2.1 C.1.2.2.2.2 inlX7 C.1.2.2.2.1 C.2.1 hP 0 (heV_o cA ad vT vH vA u) rfl 3 (by decide) (C.1.2.2.2.2 _ mfX7_21) (fun _ h9 => h9) (v := .ref (ad 1)) rfl hd (g H locs ls hP hS hL)
theorem sV_far {p : Program} {l : Launch} {e : Env} {R : Room} {s : State} {m : MethodId} {args : Array Value} {below : List Frame} {meth : Method} {c : Code} {Q : State → Prop} {D : va_G} {A : Nat → Prop} {cc : ByteArray} {nL : Nat} {lv : List (Nat × Value)} {pc : Nat} {st : List Value} {cA : Nat → ClassId} {ad : Nat → Nat} {tK tB : Nat} {kS vS : Nat → Nat} {vT vH vA : Value} {u : SV} {i x : Int32} {β : Type} {k : Option β} {r : β} (C : zC p s m args meth c cc nL RX7 zTS D (zTy cA) A (zE tK tB kS vS)) (hI : zInj ad 80) (hA : ∀ q, zAd ad 80 q → A q) (hm : zgi i 8 k = some r) (hd : decode cc pc = .ok (.iastore, 1)) (g : k = some r → zG p l e R s m args below meth c nL D A Q (wV cA ad vT vH vA (V_set_far (upd (V_far u) i.toNatClampNeg x) u)) lv (pc + 1) (st)) : zG p l e R s m args below meth c nL D A Q (wV cA ad vT vH vA u) lv pc (.int x :: .int i :: .ref (ad 1) :: st) := fun H locs ls hP hS hL => va_iast C.1.1 C.1.2.1 C.2.1 hP (zD_mono (wV_D hI cA vT vH vA u) hA) hS 1 0 (heV_far cA ad vT vH vA u) rfl (zgi_some hm).1 hd (fun H1 locs1 hP1 _ hS1 => g (zgi_some hm).2 H1 locs1 ls hP1 hS1 hL)
theorem gV_X7_25_o {p : Program} {l : Launch} {e : Env} {R : Room} {s : State} {m : MethodId} {args : Array Value} {below : List Frame} {meth : Method} {c : Code} {Q : State → Prop} {D : va_G} {A : Nat → Prop} {cc : ByteArray} {nL : Nat} {lv : List (Nat × Value)} {pc : Nat} {st : List Value} {cA : Nat → ClassId} {ad : Nat → Nat} {tK tB : Nat} {kS vS : Nat → Nat} {vT vH vA : Value} {u : SV} (C : zC p s m args meth c cc nL RX7 zTS D (zTy cA) A (zE tK tB kS vS)) (hd : decode cc pc = .ok (.getfield 25, 3)) (g : zG p l e R s m args below meth c nL D A Q (wV cA ad vT vH vA u) lv (pc + 3) (.ref (ad 2) :: st)) : zG p l e R s m args below meth c nL D A Q (wV cA ad vT vH vA u) lv pc (.ref (ad 0) :: st) := by
  exact fun H locs ls hP hS hL => va_get (D := D) (ci := 7) (C := RX7) (T := TX7) (N := 16) C.1.1 C.1.2.1 C.1.2.2.2.2 inlX7 C.1.2.2.2.1 C.2.1 hP 0 (heV_o cA ad vT vH vA u) rfl 4 (by decide) (C.1.2.2.2.2 _ mfX7_25) (fun _ h9 => h9) (v := .ref (ad 2)) rfl hd (g H locs ls hP hS hL)
theorem sV_side {p : Program} {l : Launch} {e : Env} {R : Room} {s : State} {m : MethodId} {args : Array Value} {below : List Frame} {meth : Method} {c : Code} {Q : State → Prop} {D : va_G} {A : Nat → Prop} {cc : ByteArray} {nL : Nat} {lv : List (Nat × Value)} {pc : Nat} {st : List Value} {cA : Nat → ClassId} {ad : Nat → Nat} {tK tB : Nat} {kS vS : Nat → Nat} {vT vH vA : Value} {u : SV} {i x : Int32} {β : Type} {k : Option β} {r : β} (C : zC p s m args meth c cc nL RX7 zTS D (zTy cA) A (zE tK tB kS vS)) (hI : zInj ad 80) (hA : ∀ q, zAd ad 80 q → A q) (hm : zgi i 8 k = some r) (hd : decode cc pc = .ok (.iastore, 1)) (g : k = some r → zG p l e R s m args below meth c nL D A Q (wV cA ad vT vH vA (V_set_side (upd (V_side u) i.toNatClampNeg x) u)) lv (pc + 1) (st)) : zG p l e R s m args below meth c nL D A Q (wV cA ad vT vH vA u) lv pc (.int x :: .int i :: .ref (ad 2) :: st) := fun H locs ls hP hS hL => va_iast C.1.1 C.1.2.1 C.2.1 hP (zD_mono (wV_D hI cA vT vH vA u) hA) hS 2 0 (heV_side cA ad vT vH vA u) rfl (zgi_some hm).1 hd (fun H1 locs1 hP1 _ hS1 => g (zgi_some hm).2 H1 locs1 ls hP1 hS1 hL)
theorem pV_X7_90_o {p : Program} {l : Launch} {e : Env} {R : Room} {s : State} {m : MethodId} {args : Array Value} {below : List Frame} {meth : Method} {c : Code} {Q : State → Prop} {D : va_G} {A : Nat → Prop} {cc : ByteArray} {nL : Nat} {lv : List (Nat × Value)} {pc : Nat} {st : List Value} {cA : Nat → ClassId} {ad : Nat → Nat} {tK tB : Nat} {kS vS : Nat → Nat} {vT vH vA : Value} {u : SV} {v : Int32} (C : zC p s m args meth c cc nL RX7 zTS D (zTy cA) A (zE tK tB kS vS)) (hI : zInj ad 80) (hA : ∀ q, zAd ad 80 q → A q) (hd : decode cc pc = .ok (.putfield 90, 3)) (g : zG p l e R s m args below meth c nL D A Q (wV cA ad vT vH vA (V_set_seats v u)) lv (pc + 3) (st)) : zG p l e R s m args below meth c nL D A Q (wV cA ad vT vH vA u) lv pc (.int v :: .ref (ad 0) :: st) := fun H locs ls hP hS hL => va_put (D := D) (ci := 7) (C := RX7) (T := TX7) (N := 16) C.1.1 C.1.2.1 C.1.2.2.2.2 inlX7 tyX7 tyX7_ok nmX7 C.1.2.2.2.1 C.2.1 hP (zD_mono (wV_D hI cA vT vH vA u) hA) hS 0 (heV_o cA ad vT vH vA u) rfl 5 (by decide) (C.1.2.2.2.2 _ mfX7_90) (fun _ h9 => h9) rfl (ty := .int) (by decide +kernel) rfl rfl (Nat.le_of_ble_eq_true rfl) hd (fun H1 locs1 hP1 _ hS1 => g H1 locs1 ls hP1 hS1 hL)
def mV_seat (x1 : Int32) (x2 : Int32) (u : SV) : Option (Int32 × Int32 × (Nat → Int32) × (Nat → Int32)) :=
  if x1 < (1 : Int32) then (some ((-2 : Int32), ((V_seats u), (V_far u), (V_side u)))) else (if x1 ≤ (40 : Int32) then (if (mN_isPlace x2) = 0 then (some ((-1 : Int32), ((V_seats u), (V_far u), (V_side u)))) else (if (V_seats u) < (8 : Int32) then (zgi (V_seats u) 8 (zgi (V_seats u) 8 (some ((((V_seats u) + (1 : Int32)) - (1 : Int32)), (((V_seats u) + (1 : Int32)), (upd (V_far u) ((V_seats u)).toNatClampNeg x1), (upd (V_side u) ((V_seats u)).toNatClampNeg x2)))))) else (some ((-4 : Int32), ((V_seats u), (V_far u), (V_side u)))))) else (some ((-2 : Int32), ((V_seats u), (V_far u), (V_side u)))))
set_option maxRecDepth 100000 in
set_option maxHeartbeats 4000000 in
theorem cV_seat {l : Launch} {D : va_G} {cA : Nat → ClassId} {ad : Nat → Nat} {tK tB : Nat} {kS vS : Nat → Nat} {vT vH vA : Value} (hI : zInj ad 80) (x1 : Int32) (x2 : Int32) (u : SV) {r : Int32} {w' : Int32 × (Nat → Int32) × (Nat → Int32)} (hm : mV_seat x1 x2 u = some (r, w')) : Met l yX7_seat (zWs yX7_seat cX7_seat 3 (some .int)) (zRm 1) (va_Pc [.ref (ad 0), .int x1, .int x2] (zPre D (zTy cA) (zE tK tB kS vS) (zAd ad 80) (wV cA ad vT vH vA u))) (zQi r (zBw D (wV cA ad vT vH vA (V_put_seats_far_side w' u))) (zAd ad 80)) 0 0 (zAd ad 80) := by
  refine z_met (lv := [(0, .ref (ad 0)), (1, .int x1), (2, .int x2)]) plX7 rfl rfl (Nat.le_of_ble_eq_true rfl) rfl ?_
  intro p e s m below meth c hC hr hin
  unfold mV_seat at hm
  refine z_iload_n hC dX7_seat_0 rfl 1 rfl ?_
  refine z_iconst hC dX7_seat_1 kI_1 ?_
  refine z_icmp_lt (tgt := 11) hC hm dX7_seat_2 (by decide) (fun hm => ?_) (fun hm => ?_)
  · refine z_bipush hC dX7_seat_11 kB_m2 ?_
    exact riV (fin := fun z => V_put_seats_far_side z u) hC hr rfl dX7_seat_13 hm rfl
  · refine z_iload_n hC dX7_seat_5 rfl 1 rfl ?_
    refine z_bipush hC dX7_seat_6 kB_40 ?_
    refine z_icmp_le (tgt := 14) hC hm dX7_seat_8 (by decide) (fun hm => ?_) (fun hm => ?_)
    · refine z_iload_n hC dX7_seat_14 rfl 2 rfl ?_
      refine xV_X7_73 hI hC (Nat.le_of_ble_eq_true rfl) dX7_seat_15 (Nat.le_of_ble_eq_true rfl) ?_
      refine z_if_ne (tgt := 23) hC hm dX7_seat_18 (by decide) (fun hm => ?_) (fun hm => ?_)
      · refine z_iconst hC dX7_seat_21 kI_m1 ?_
        exact riV (fin := fun z => V_put_seats_far_side z u) hC hr rfl dX7_seat_22 hm rfl
      · refine z_aload_n hC dX7_seat_23 rfl 0 rfl ?_
        refine gV_X7_90_o (v := (V_seats u)) hC dX7_seat_24 rfl ?_
        refine z_bipush hC dX7_seat_27 kB_8 ?_
        refine z_icmp_lt (tgt := 35) hC hm dX7_seat_29 (by decide) (fun hm => ?_) (fun hm => ?_)
        · refine z_aload_n hC dX7_seat_35 rfl 0 rfl ?_
          refine gV_X7_21_o hC dX7_seat_36 ?_
          refine z_aload_n hC dX7_seat_39 rfl 0 rfl ?_
          refine gV_X7_90_o (v := (V_seats u)) hC dX7_seat_40 rfl ?_
          refine z_iload_n hC dX7_seat_43 rfl 1 rfl ?_
          refine sV_far hC hI (fun _ h => h) hm dX7_seat_44 (fun hm => ?_)
          refine zuV (u2 := (V_put_seats_far_side ((V_seats u), (upd (V_far u) ((V_seats u)).toNatClampNeg x1), (V_side u)) u)) rfl ?_
          refine z_aload_n hC dX7_seat_45 rfl 0 rfl ?_
          refine gV_X7_25_o hC dX7_seat_46 ?_
          refine z_aload_n hC dX7_seat_49 rfl 0 rfl ?_
          refine gV_X7_90_o (v := (V_seats u)) hC dX7_seat_50 rfl ?_
          refine z_iload_n hC dX7_seat_53 rfl 2 rfl ?_
          refine sV_side hC hI (fun _ h => h) hm dX7_seat_54 (fun hm => ?_)
          refine zuV (u2 := (V_put_seats_far_side ((V_seats u), (upd (V_far u) ((V_seats u)).toNatClampNeg x1), (upd (V_side u) ((V_seats u)).toNatClampNeg x2)) u)) rfl ?_
          refine z_aload_n hC dX7_seat_55 rfl 0 rfl ?_
          refine z_dup hC dX7_seat_56 rfl ?_
          refine gV_X7_90_o (v := (V_seats u)) hC dX7_seat_57 rfl ?_
          refine z_iconst hC dX7_seat_60 kI_1 ?_
          refine z_iadd hC dX7_seat_61 ?_
          refine pV_X7_90_o hC hI (fun _ h => h) dX7_seat_62 ?_
          refine zuV (u2 := (V_put_seats_far_side (((V_seats u) + (1 : Int32)), (upd (V_far u) ((V_seats u)).toNatClampNeg x1), (upd (V_side u) ((V_seats u)).toNatClampNeg x2)) u)) rfl ?_
          refine z_aload_n hC dX7_seat_65 rfl 0 rfl ?_
          refine gV_X7_90_o (v := ((V_seats u) + (1 : Int32))) hC dX7_seat_66 rfl ?_
          refine z_iconst hC dX7_seat_69 kI_1 ?_
          refine z_isub hC dX7_seat_70 ?_
          exact riV (fin := fun z => V_put_seats_far_side z u) hC hr rfl dX7_seat_71 hm rfl
        · refine z_bipush hC dX7_seat_32 kB_m4 ?_
          exact riV (fin := fun z => V_put_seats_far_side z u) hC hr rfl dX7_seat_34 hm rfl
    · refine z_bipush hC dX7_seat_11 kB_m2 ?_
      exact riV (fin := fun z => V_put_seats_far_side z u) hC hr rfl dX7_seat_13 hm rfl
def mV_isSeat (x1 : Int32) (u : SV) : Int32 :=
  if x1 < 0 then ((0 : Int32)) else (if (V_seats u) ≤ x1 then ((0 : Int32)) else ((1 : Int32)))
theorem bV_isSeat (x1 : Int32) (u : SV) : mV_isSeat x1 u = 0 ∨ mV_isSeat x1 u = 1 := by
  unfold mV_isSeat
  (repeat' split) <;> first | exact Or.inl rfl | exact Or.inr rfl
set_option maxRecDepth 100000 in
set_option maxHeartbeats 4000000 in
theorem cV_isSeat {l : Launch} {D : va_G} {cA : Nat → ClassId} {ad : Nat → Nat} {tK tB : Nat} {kS vS : Nat → Nat} {vT vH vA : Value} (hI : zInj ad 80) (x1 : Int32) (u : SV) {r : Int32} (hm : mV_isSeat x1 u = r) : Met l yX7_isSeat (zWs yX7_isSeat cX7_isSeat 2 (some .boolean)) (zRm 0) (va_Pc [.ref (ad 0), .int x1] (zPre D (zTy cA) (zE tK tB kS vS) zA0 (wV cA ad vT vH vA u))) (zQi r zB0 zA0) 0 0 zA0 := by
  refine z_met (lv := [(0, .ref (ad 0)), (1, .int x1)]) plX7 rfl rfl (Nat.le_of_ble_eq_true rfl) rfl ?_
  intro p e s m below meth c hC hr hin
  unfold mV_isSeat at hm
  refine z_iload_n hC dX7_isSeat_0 rfl 1 rfl ?_
  refine z_if_lt (tgt := 16) hC hm dX7_isSeat_1 (by decide) (fun hm => ?_) (fun hm => ?_)
  · refine z_iconst hC dX7_isSeat_16 kI_0 ?_
    exact z_iret hC hr rfl dX7_isSeat_17 (fun _ _ => trivial) hm
  · refine z_iload_n hC dX7_isSeat_4 rfl 1 rfl ?_
    refine z_aload_n hC dX7_isSeat_5 rfl 0 rfl ?_
    refine gV_X7_90_o (v := (V_seats u)) hC dX7_isSeat_6 rfl ?_
    refine z_icmp_ge (tgt := 16) hC hm dX7_isSeat_9 (by decide) (fun hm => ?_) (fun hm => ?_)
    · refine z_iconst hC dX7_isSeat_16 kI_0 ?_
      exact z_iret hC hr rfl dX7_isSeat_17 (fun _ _ => trivial) hm
    · refine z_iconst hC dX7_isSeat_12 kI_1 ?_
      refine z_goto (tgt := 17) hC dX7_isSeat_13 (by decide) ?_
      exact z_iret hC hr rfl dX7_isSeat_17 (fun _ _ => trivial) hm
theorem xV_X7_93 {p : Program} {l : Launch} {e : Env} {s : State} {m : MethodId} {args : Array Value} {below : List Frame} {meth : Method} {c : Code} {Q : State → Prop} {D : va_G} {A : Nat → Prop} {cc : ByteArray} {nL : Nat} {lv : List (Nat × Value)} {pc : Nat} {st : List Value} {cA : Nat → ClassId} {ad : Nat → Nat} {tK tB : Nat} {kS vS : Nat → Nat} {vT vH vA : Value} {d : Nat} {x1 : Int32} {u : SV} (hI : zInj ad 80) (C : zC p s m args meth c cc nL RX7 zTS D (zTy cA) A (zE tK tB kS vS)) (hdm : 0 + 1 ≤ d) (hd : decode cc pc = .ok (.invokevirtual 93, 3)) (h8 : (st.map fun v => v.category).sum ≤ 8) (g : zG p l e (zRm d) s m args below meth c nL D A Q (wV cA ad vT vH vA u) lv (pc + 3) (.int (mV_isSeat x1 u) :: st)) : zG p l e (zRm d) s m args below meth c nL D A Q (wV cA ad vT vH vA u) lv pc (.int x1 :: .ref (ad 0) :: st) :=
  z_calliV C (cV_isSeat (ad := ad) (cA := cA) hI x1 u rfl) (cwX7_93 C.1.2.2.2.2 rfl rfl ⟨hdm, by have := hdm; simp only [zRm]; omega⟩) hd rfl rfl h8 ⟨_, rfl, rfl⟩ (List.mem_of_getElem? (heV_o cA ad _ _ _ u)) (fun _ h => h) (fun _ h => h.elim) zJ_ro g
theorem aV_far {p : Program} {l : Launch} {e : Env} {R : Room} {s : State} {m : MethodId} {args : Array Value} {below : List Frame} {meth : Method} {c : Code} {Q : State → Prop} {D : va_G} {A : Nat → Prop} {cc : ByteArray} {nL : Nat} {lv : List (Nat × Value)} {pc : Nat} {st : List Value} {cA : Nat → ClassId} {ad : Nat → Nat} {tK tB : Nat} {kS vS : Nat → Nat} {vT vH vA : Value} {u : SV} {i : Int32} {β : Type} {k : Option β} {r : β} (C : zC p s m args meth c cc nL RX7 zTS D (zTy cA) A (zE tK tB kS vS)) (hm : zgi i 8 k = some r) (hd : decode cc pc = .ok (.iaload, 1)) (g : k = some r → zG p l e R s m args below meth c nL D A Q (wV cA ad vT vH vA u) lv (pc + 1) (.int (V_far u i.toNatClampNeg) :: st)) : zG p l e R s m args below meth c nL D A Q (wV cA ad vT vH vA u) lv pc (.int i :: .ref (ad 1) :: st) := fun H locs ls hP hS hL => va_iald C.1.1 C.1.2.1 C.2.1 hP 1 0 (heV_far cA ad vT vH vA u) rfl (zgi_some hm).1 hd (g (zgi_some hm).2 H locs ls hP hS hL)
theorem aV_side {p : Program} {l : Launch} {e : Env} {R : Room} {s : State} {m : MethodId} {args : Array Value} {below : List Frame} {meth : Method} {c : Code} {Q : State → Prop} {D : va_G} {A : Nat → Prop} {cc : ByteArray} {nL : Nat} {lv : List (Nat × Value)} {pc : Nat} {st : List Value} {cA : Nat → ClassId} {ad : Nat → Nat} {tK tB : Nat} {kS vS : Nat → Nat} {vT vH vA : Value} {u : SV} {i : Int32} {β : Type} {k : Option β} {r : β} (C : zC p s m args meth c cc nL RX7 zTS D (zTy cA) A (zE tK tB kS vS)) (hm : zgi i 8 k = some r) (hd : decode cc pc = .ok (.iaload, 1)) (g : k = some r → zG p l e R s m args below meth c nL D A Q (wV cA ad vT vH vA u) lv (pc + 1) (.int (V_side u i.toNatClampNeg) :: st)) : zG p l e R s m args below meth c nL D A Q (wV cA ad vT vH vA u) lv pc (.int i :: .ref (ad 2) :: st) := fun H locs ls hP hS hL => va_iald C.1.1 C.1.2.1 C.2.1 hP 2 0 (heV_side cA ad vT vH vA u) rfl (zgi_some hm).1 hd (g (zgi_some hm).2 H locs ls hP hS hL)
def mV_of (x1 : Int32) (x2 : Int32) (u : SV) : Option Int32 :=
  if (mV_isSeat x1 u) = 0 then (some (-1 : Int32)) else (if x2 < 0 then (some (-1 : Int32)) else (if x2 ≤ (1 : Int32) then (if x2 = 0 then (zgi x1 8 (some ((V_far u) (x1).toNatClampNeg))) else (zgi x1 8 (some ((V_side u) (x1).toNatClampNeg)))) else (some (-1 : Int32))))
set_option maxRecDepth 100000 in
set_option maxHeartbeats 4000000 in
theorem cV_of {l : Launch} {D : va_G} {cA : Nat → ClassId} {ad : Nat → Nat} {tK tB : Nat} {kS vS : Nat → Nat} {vT vH vA : Value} (hI : zInj ad 80) (x1 : Int32) (x2 : Int32) (u : SV) {r : Int32} (hm : mV_of x1 x2 u = some r) : Met l yX7_of (zWs yX7_of cX7_of 3 (some .int)) (zRm 1) (va_Pc [.ref (ad 0), .int x1, .int x2] (zPre D (zTy cA) (zE tK tB kS vS) zA0 (wV cA ad vT vH vA u))) (zQi r zB0 zA0) 0 0 zA0 := by
  refine z_met (lv := [(0, .ref (ad 0)), (1, .int x1), (2, .int x2)]) plX7 rfl rfl (Nat.le_of_ble_eq_true rfl) rfl ?_
  intro p e s m below meth c hC hr hin
  unfold mV_of at hm
  refine z_aload_n hC dX7_of_0 rfl 0 rfl ?_
  refine z_iload_n hC dX7_of_1 rfl 1 rfl ?_
  refine xV_X7_93 hI hC (Nat.le_of_ble_eq_true rfl) dX7_of_2 (Nat.le_of_ble_eq_true rfl) ?_
  refine z_if_eq (tgt := 17) hC hm dX7_of_5 (by decide) (fun hm => ?_) (fun hm => ?_)
  · refine z_iconst hC dX7_of_17 kI_m1 ?_
    exact z_iret hC hr rfl dX7_of_18 (fun _ _ => trivial) (Option.some.inj hm)
  · refine z_iload_n hC dX7_of_8 rfl 2 rfl ?_
    refine z_if_lt (tgt := 17) hC hm dX7_of_9 (by decide) (fun hm => ?_) (fun hm => ?_)
    · refine z_iconst hC dX7_of_17 kI_m1 ?_
      exact z_iret hC hr rfl dX7_of_18 (fun _ _ => trivial) (Option.some.inj hm)
    · refine z_iload_n hC dX7_of_12 rfl 2 rfl ?_
      refine z_iconst hC dX7_of_13 kI_1 ?_
      refine z_icmp_le (tgt := 19) hC hm dX7_of_14 (by decide) (fun hm => ?_) (fun hm => ?_)
      · refine z_iload_n hC dX7_of_19 rfl 2 rfl ?_
        refine z_if_ne (tgt := 32) hC hm dX7_of_20 (by decide) (fun hm => ?_) (fun hm => ?_)
        · refine z_aload_n hC dX7_of_23 rfl 0 rfl ?_
          refine gV_X7_21_o hC dX7_of_24 ?_
          refine z_iload_n hC dX7_of_27 rfl 1 rfl ?_
          refine aV_far hC hm dX7_of_28 (fun hm => ?_)
          refine z_goto (tgt := 38) hC dX7_of_29 (by decide) ?_
          exact z_iret hC hr rfl dX7_of_38 (fun _ _ => trivial) (Option.some.inj hm)
        · refine z_aload_n hC dX7_of_32 rfl 0 rfl ?_
          refine gV_X7_25_o hC dX7_of_33 ?_
          refine z_iload_n hC dX7_of_36 rfl 1 rfl ?_
          refine aV_side hC hm dX7_of_37 (fun hm => ?_)
          exact z_iret hC hr rfl dX7_of_38 (fun _ _ => trivial) (Option.some.inj hm)
      · refine z_iconst hC dX7_of_17 kI_m1 ?_
        exact z_iret hC hr rfl dX7_of_18 (fun _ _ => trivial) (Option.some.inj hm)
theorem pV_X7_96_stage {p : Program} {l : Launch} {e : Env} {R : Room} {s : State} {m : MethodId} {args : Array Value} {below : List Frame} {meth : Method} {c : Code} {Q : State → Prop} {D : va_G} {A : Nat → Prop} {cc : ByteArray} {nL : Nat} {lv : List (Nat × Value)} {pc : Nat} {st : List Value} {cA : Nat → ClassId} {ad : Nat → Nat} {tK tB : Nat} {kS vS : Nat → Nat} {vT vH vA : Value} {u : SV} {v : Int32} (C : zC p s m args meth c cc nL RX7 zTS D (zTy cA) A (zE tK tB kS vS)) (hI : zInj ad 80) (hA : ∀ q, zAd ad 80 q → A q) (hd : decode cc pc = .ok (.putfield 96, 3)) (g : zG p l e R s m args below meth c nL D A Q (wV cA ad vT vH vA (V_set_stage (S_set_letters v (V_stage u)) u)) lv (pc + 3) (st)) : zG p l e R s m args below meth c nL D A Q (wV cA ad vT vH vA u) lv pc (.int v :: .ref (ad 7) :: st) := fun H locs ls hP hS hL => va_put (D := D) (ci := 4) (C := RX4) (T := TX4) (N := 7) C.1.1 C.1.2.1 C.1.2.2.2.2 inlX4 tyX4 tyX4_ok nmX4 C.1.2.2.2.1 C.2.1 hP (zD_mono (wV_D hI cA vT vH vA u) hA) hS 7 (heV_stage cA ad vT vH vA u) rfl 4 (by decide) (C.1.2.2.2.2 _ mfX7_96) (fun _ h9 => h9) rfl (ty := .int) (by decide +kernel) rfl rfl (Nat.le_of_ble_eq_true rfl) hd (fun H1 locs1 hP1 _ hS1 => g H1 locs1 ls hP1 hS1 hL)
theorem gV_X7_96_stage {p : Program} {l : Launch} {e : Env} {R : Room} {s : State} {m : MethodId} {args : Array Value} {below : List Frame} {meth : Method} {c : Code} {Q : State → Prop} {D : va_G} {A : Nat → Prop} {cc : ByteArray} {nL : Nat} {lv : List (Nat × Value)} {pc : Nat} {st : List Value} {cA : Nat → ClassId} {ad : Nat → Nat} {tK tB : Nat} {kS vS : Nat → Nat} {vT vH vA : Value} {u : SV} (C : zC p s m args meth c cc nL RX7 zTS D (zTy cA) A (zE tK tB kS vS)) (hd : decode cc pc = .ok (.getfield 96, 3)) {v : Int32} (hv : S_letters (V_stage u) = v) (g : zG p l e R s m args below meth c nL D A Q (wV cA ad vT vH vA u) lv (pc + 3) (.int v :: st)) : zG p l e R s m args below meth c nL D A Q (wV cA ad vT vH vA u) lv pc (.ref (ad 7) :: st) := by
  subst hv
  exact fun H locs ls hP hS hL => va_get (D := D) (ci := 4) (C := RX4) (T := TX4) (N := 7) C.1.1 C.1.2.1 C.1.2.2.2.2 inlX4 C.1.2.2.2.1 C.2.1 hP 7 (heV_stage cA ad vT vH vA u) rfl 4 (by decide) (C.1.2.2.2.2 _ mfX7_96) (fun _ h9 => h9) (v := .int (S_letters (V_stage u))) rfl hd (g H locs ls hP hS hL)
theorem gV_X7_99_stage {p : Program} {l : Launch} {e : Env} {R : Room} {s : State} {m : MethodId} {args : Array Value} {below : List Frame} {meth : Method} {c : Code} {Q : State → Prop} {D : va_G} {A : Nat → Prop} {cc : ByteArray} {nL : Nat} {lv : List (Nat × Value)} {pc : Nat} {st : List Value} {cA : Nat → ClassId} {ad : Nat → Nat} {tK tB : Nat} {kS vS : Nat → Nat} {vT vH vA : Value} {u : SV} (C : zC p s m args meth c cc nL RX7 zTS D (zTy cA) A (zE tK tB kS vS)) (hd : decode cc pc = .ok (.getfield 99, 3)) (g : zG p l e R s m args below meth c nL D A Q (wV cA ad vT vH vA u) lv (pc + 3) (.ref (ad 8) :: st)) : zG p l e R s m args below meth c nL D A Q (wV cA ad vT vH vA u) lv pc (.ref (ad 7) :: st) := by
  exact fun H locs ls hP hS hL => va_get (D := D) (ci := 4) (C := RX4) (T := TX4) (N := 7) C.1.1 C.1.2.1 C.1.2.2.2.2 inlX4 C.1.2.2.2.1 C.2.1 hP 7 (heV_stage cA ad vT vH vA u) rfl 3 (by decide) (C.1.2.2.2.2 _ mfX7_99) (fun _ h9 => h9) (v := .ref (ad 8)) rfl hd (g H locs ls hP hS hL)
theorem sV_words {p : Program} {l : Launch} {e : Env} {R : Room} {s : State} {m : MethodId} {args : Array Value} {below : List Frame} {meth : Method} {c : Code} {Q : State → Prop} {D : va_G} {A : Nat → Prop} {cc : ByteArray} {nL : Nat} {lv : List (Nat × Value)} {pc : Nat} {st : List Value} {cA : Nat → ClassId} {ad : Nat → Nat} {tK tB : Nat} {kS vS : Nat → Nat} {vT vH vA : Value} {u : SV} {i x : Int32} {β : Type} {k : Option β} {r : β} (C : zC p s m args meth c cc nL RX7 zTS D (zTy cA) A (zE tK tB kS vS)) (hI : zInj ad 80) (hA : ∀ q, zAd ad 80 q → A q) (hm : zgi i 20 k = some r) (hd : decode cc pc = .ok (.iastore, 1)) (g : k = some r → zG p l e R s m args below meth c nL D A Q (wV cA ad vT vH vA (V_set_stage (S_set_words (upd (S_words (V_stage u)) i.toNatClampNeg x) (V_stage u)) u)) lv (pc + 1) (st)) : zG p l e R s m args below meth c nL D A Q (wV cA ad vT vH vA u) lv pc (.int x :: .int i :: .ref (ad 8) :: st) := fun H locs ls hP hS hL => va_iast C.1.1 C.1.2.1 C.2.1 hP (zD_mono (wV_D hI cA vT vH vA u) hA) hS 8 0 (heV_words cA ad vT vH vA u) rfl (zgi_some hm).1 hd (fun H1 locs1 hP1 _ hS1 => g (zgi_some hm).2 H1 locs1 ls hP1 hS1 hL)
def mV_say (x1 : Int32) (u : SV) : Option (Int32 × SS) :=
  if x1 < (-1 : Int32) then (some ((-1 : Int32), ((V_stage u)))) else (if x1 < (10 : Int32) then (if x1 = (-1 : Int32) then (some ((0 : Int32), ((S_set_letters (0 : Int32) (V_stage u))))) else (if (S_letters (V_stage u)) < (20 : Int32) then (zgi (S_letters (V_stage u)) 20 (some ((S_letters (S_set_letters ((S_letters (S_set_words (upd (S_words (V_stage u)) ((S_letters (V_stage u))).toNatClampNeg x1) (V_stage u))) + (1 : Int32)) (S_set_words (upd (S_words (V_stage u)) ((S_letters (V_stage u))).toNatClampNeg x1) (V_stage u)))), ((S_set_letters ((S_letters (S_set_words (upd (S_words (V_stage u)) ((S_letters (V_stage u))).toNatClampNeg x1) (V_stage u))) + (1 : Int32)) (S_set_words (upd (S_words (V_stage u)) ((S_letters (V_stage u))).toNatClampNeg x1) (V_stage u))))))) else (some ((-4 : Int32), ((V_stage u)))))) else (some ((-1 : Int32), ((V_stage u)))))
set_option maxRecDepth 100000 in
set_option maxHeartbeats 4000000 in
theorem cV_say {l : Launch} {D : va_G} {cA : Nat → ClassId} {ad : Nat → Nat} {tK tB : Nat} {kS vS : Nat → Nat} {vT vH vA : Value} (hI : zInj ad 80) (x1 : Int32) (u : SV) {r : Int32} {w' : SS} (hm : mV_say x1 u = some (r, w')) : Met l yX7_say (zWs yX7_say cX7_say 2 (some .int)) (zRm 0) (va_Pc [.ref (ad 0), .int x1] (zPre D (zTy cA) (zE tK tB kS vS) (zAd ad 80) (wV cA ad vT vH vA u))) (zQi r (zBw D (wV cA ad vT vH vA (V_put_stage w' u))) (zAd ad 80)) 0 0 (zAd ad 80) := by
  refine z_met (lv := [(0, .ref (ad 0)), (1, .int x1)]) plX7 rfl rfl (Nat.le_of_ble_eq_true rfl) rfl ?_
  intro p e s m below meth c hC hr hin
  unfold mV_say at hm
  refine z_iload_n hC dX7_say_0 rfl 1 rfl ?_
  refine z_iconst hC dX7_say_1 kI_m1 ?_
  refine z_icmp_lt (tgt := 11) hC hm dX7_say_2 (by decide) (fun hm => ?_) (fun hm => ?_)
  · refine z_iconst hC dX7_say_11 kI_m1 ?_
    exact riV (fin := fun z => V_put_stage z u) hC hr rfl dX7_say_12 hm rfl
  · refine z_iload_n hC dX7_say_5 rfl 1 rfl ?_
    refine z_bipush hC dX7_say_6 kB_10 ?_
    refine z_icmp_lt (tgt := 13) hC hm dX7_say_8 (by decide) (fun hm => ?_) (fun hm => ?_)
    · refine z_iload_n hC dX7_say_13 rfl 1 rfl ?_
      refine z_iconst hC dX7_say_14 kI_m1 ?_
      refine z_icmp_ne (tgt := 28) hC hm dX7_say_15 (by decide) (fun hm => ?_) (fun hm => ?_)
      · refine z_aload_n hC dX7_say_18 rfl 0 rfl ?_
        refine gV_X7_12_o hC dX7_say_19 ?_
        refine z_iconst hC dX7_say_22 kI_0 ?_
        refine pV_X7_96_stage hC hI (fun _ h => h) dX7_say_23 ?_
        refine zuV (u2 := (V_put_stage ((S_set_letters (0 : Int32) (V_stage u))) u)) rfl ?_
        refine z_iconst hC dX7_say_26 kI_0 ?_
        exact riV (fin := fun z => V_put_stage z u) hC hr rfl dX7_say_27 hm rfl
      · refine z_aload_n hC dX7_say_28 rfl 0 rfl ?_
        refine gV_X7_12_o hC dX7_say_29 ?_
        refine gV_X7_96_stage (v := (S_letters (V_stage u))) hC dX7_say_32 rfl ?_
        refine z_bipush hC dX7_say_35 kB_20 ?_
        refine z_icmp_lt (tgt := 43) hC hm dX7_say_37 (by decide) (fun hm => ?_) (fun hm => ?_)
        · refine z_aload_n hC dX7_say_43 rfl 0 rfl ?_
          refine gV_X7_12_o hC dX7_say_44 ?_
          refine gV_X7_99_stage hC dX7_say_47 ?_
          refine z_aload_n hC dX7_say_50 rfl 0 rfl ?_
          refine gV_X7_12_o hC dX7_say_51 ?_
          refine gV_X7_96_stage (v := (S_letters (V_stage u))) hC dX7_say_54 rfl ?_
          refine z_iload_n hC dX7_say_57 rfl 1 rfl ?_
          refine sV_words hC hI (fun _ h => h) hm dX7_say_58 (fun hm => ?_)
          refine zuV (u2 := (V_put_stage ((S_set_words (upd (S_words (V_stage u)) ((S_letters (V_stage u))).toNatClampNeg x1) (V_stage u))) u)) rfl ?_
          refine z_aload_n hC dX7_say_59 rfl 0 rfl ?_
          refine gV_X7_12_o hC dX7_say_60 ?_
          refine z_dup hC dX7_say_63 rfl ?_
          refine gV_X7_96_stage (v := (S_letters (S_set_words (upd (S_words (V_stage u)) ((S_letters (V_stage u))).toNatClampNeg x1) (V_stage u)))) hC dX7_say_64 rfl ?_
          refine z_iconst hC dX7_say_67 kI_1 ?_
          refine z_iadd hC dX7_say_68 ?_
          refine pV_X7_96_stage hC hI (fun _ h => h) dX7_say_69 ?_
          refine zuV (u2 := (V_put_stage ((S_set_letters ((S_letters (S_set_words (upd (S_words (V_stage u)) ((S_letters (V_stage u))).toNatClampNeg x1) (V_stage u))) + (1 : Int32)) (S_set_words (upd (S_words (V_stage u)) ((S_letters (V_stage u))).toNatClampNeg x1) (V_stage u)))) u)) rfl ?_
          refine z_aload_n hC dX7_say_72 rfl 0 rfl ?_
          refine gV_X7_12_o hC dX7_say_73 ?_
          refine gV_X7_96_stage (v := (S_letters (S_set_letters ((S_letters (S_set_words (upd (S_words (V_stage u)) ((S_letters (V_stage u))).toNatClampNeg x1) (V_stage u))) + (1 : Int32)) (S_set_words (upd (S_words (V_stage u)) ((S_letters (V_stage u))).toNatClampNeg x1) (V_stage u))))) hC dX7_say_76 rfl ?_
          exact riV (fin := fun z => V_put_stage z u) hC hr rfl dX7_say_79 hm rfl
        · refine z_bipush hC dX7_say_40 kB_m4 ?_
          exact riV (fin := fun z => V_put_stage z u) hC hr rfl dX7_say_42 hm rfl
    · refine z_iconst hC dX7_say_11 kI_m1 ?_
      exact riV (fin := fun z => V_put_stage z u) hC hr rfl dX7_say_12 hm rfl
def V_put_textLength_text (p : Int32 × (Nat → Int32)) (u : SV) : SV := (((u.1.1.1, (p.1, u.1.1.2.2)), (u.1.2.1, (u.1.2.2.1, p.2))), u.2)
theorem gV_X7_102_o {p : Program} {l : Launch} {e : Env} {R : Room} {s : State} {m : MethodId} {args : Array Value} {below : List Frame} {meth : Method} {c : Code} {Q : State → Prop} {D : va_G} {A : Nat → Prop} {cc : ByteArray} {nL : Nat} {lv : List (Nat × Value)} {pc : Nat} {st : List Value} {cA : Nat → ClassId} {ad : Nat → Nat} {tK tB : Nat} {kS vS : Nat → Nat} {vT vH vA : Value} {u : SV} (C : zC p s m args meth c cc nL RX7 zTS D (zTy cA) A (zE tK tB kS vS)) (hd : decode cc pc = .ok (.getfield 102, 3)) {v : Int32} (hv : V_textLength u = v) (g : zG p l e R s m args below meth c nL D A Q (wV cA ad vT vH vA u) lv (pc + 3) (.int v :: st)) : zG p l e R s m args below meth c nL D A Q (wV cA ad vT vH vA u) lv pc (.ref (ad 0) :: st) := by
  subst hv
  exact fun H locs ls hP hS hL => va_get (D := D) (ci := 7) (C := RX7) (T := TX7) (N := 16) C.1.1 C.1.2.1 C.1.2.2.2.2 inlX7 C.1.2.2.2.1 C.2.1 hP 0 (heV_o cA ad vT vH vA u) rfl 7 (by decide) (C.1.2.2.2.2 _ mfX7_102) (fun _ h9 => h9) (v := .int (V_textLength u)) rfl hd (g H locs ls hP hS hL)
theorem gV_X7_28_o {p : Program} {l : Launch} {e : Env} {R : Room} {s : State} {m : MethodId} {args : Array Value} {below : List Frame} {meth : Method} {c : Code} {Q : State → Prop} {D : va_G} {A : Nat → Prop} {cc : ByteArray} {nL : Nat} {lv : List (Nat × Value)} {pc : Nat} {st : List Value} {cA : Nat → ClassId} {ad : Nat → Nat} {tK tB : Nat} {kS vS : Nat → Nat} {vT vH vA : Value} {u : SV} (C : zC p s m args meth c cc nL RX7 zTS D (zTy cA) A (zE tK tB kS vS)) (hd : decode cc pc = .ok (.getfield 28, 3)) (g : zG p l e R s m args below meth c nL D A Q (wV cA ad vT vH vA u) lv (pc + 3) (.ref (ad 3) :: st)) : zG p l e R s m args below meth c nL D A Q (wV cA ad vT vH vA u) lv pc (.ref (ad 0) :: st) := by
  exact fun H locs ls hP hS hL => va_get (D := D) (ci := 7) (C := RX7) (T := TX7) (N := 16) C.1.1 C.1.2.1 C.1.2.2.2.2 inlX7 C.1.2.2.2.1 C.2.1 hP 0 (heV_o cA ad vT vH vA u) rfl 6 (by decide) (C.1.2.2.2.2 _ mfX7_28) (fun _ h9 => h9) (v := .ref (ad 3)) rfl hd (g H locs ls hP hS hL)
theorem sV_text {p : Program} {l : Launch} {e : Env} {R : Room} {s : State} {m : MethodId} {args : Array Value} {below : List Frame} {meth : Method} {c : Code} {Q : State → Prop} {D : va_G} {A : Nat → Prop} {cc : ByteArray} {nL : Nat} {lv : List (Nat × Value)} {pc : Nat} {st : List Value} {cA : Nat → ClassId} {ad : Nat → Nat} {tK tB : Nat} {kS vS : Nat → Nat} {vT vH vA : Value} {u : SV} {i x : Int32} {β : Type} {k : Option β} {r : β} (C : zC p s m args meth c cc nL RX7 zTS D (zTy cA) A (zE tK tB kS vS)) (hI : zInj ad 80) (hA : ∀ q, zAd ad 80 q → A q) (hm : zgi i 100 k = some r) (hd : decode cc pc = .ok (.castore, 1)) (g : k = some r → zG p l e R s m args below meth c nL D A Q (wV cA ad vT vH vA (V_set_text (upd (V_text u) i.toNatClampNeg (vp_nar .char x)) u)) lv (pc + 1) (st)) : zG p l e R s m args below meth c nL D A Q (wV cA ad vT vH vA u) lv pc (.int x :: .int i :: .ref (ad 3) :: st) := fun H locs ls hP hS hL => va_cast C.1.1 C.1.2.1 C.2.1 hP (zD_mono (wV_D hI cA vT vH vA u) hA) hS 3 3 (heV_text cA ad vT vH vA u) rfl (zgi_some hm).1 hd (fun H1 locs1 hP1 _ hS1 => g (zgi_some hm).2 H1 locs1 ls hP1 hS1 hL)
theorem pV_X7_102_o {p : Program} {l : Launch} {e : Env} {R : Room} {s : State} {m : MethodId} {args : Array Value} {below : List Frame} {meth : Method} {c : Code} {Q : State → Prop} {D : va_G} {A : Nat → Prop} {cc : ByteArray} {nL : Nat} {lv : List (Nat × Value)} {pc : Nat} {st : List Value} {cA : Nat → ClassId} {ad : Nat → Nat} {tK tB : Nat} {kS vS : Nat → Nat} {vT vH vA : Value} {u : SV} {v : Int32} (C : zC p s m args meth c cc nL RX7 zTS D (zTy cA) A (zE tK tB kS vS)) (hI : zInj ad 80) (hA : ∀ q, zAd ad 80 q → A q) (hd : decode cc pc = .ok (.putfield 102, 3)) (g : zG p l e R s m args below meth c nL D A Q (wV cA ad vT vH vA (V_set_textLength v u)) lv (pc + 3) (st)) : zG p l e R s m args below meth c nL D A Q (wV cA ad vT vH vA u) lv pc (.int v :: .ref (ad 0) :: st) := fun H locs ls hP hS hL => va_put (D := D) (ci := 7) (C := RX7) (T := TX7) (N := 16) C.1.1 C.1.2.1 C.1.2.2.2.2 inlX7 tyX7 tyX7_ok nmX7 C.1.2.2.2.1 C.2.1 hP (zD_mono (wV_D hI cA vT vH vA u) hA) hS 0 (heV_o cA ad vT vH vA u) rfl 7 (by decide) (C.1.2.2.2.2 _ mfX7_102) (fun _ h9 => h9) rfl (ty := .int) (by decide +kernel) rfl rfl (Nat.le_of_ble_eq_true rfl) hd (fun H1 locs1 hP1 _ hS1 => g H1 locs1 ls hP1 hS1 hL)
def mV_feed_L30 (x1 : Int32) : Nat → Int32 → SV → Option (Int32 × Int32 × (Nat → Int32))
  | 0, _, _ => none
  | n + 1, x3, u => if x3 < 0 then (some ((V_textLength u), ((V_textLength u), (V_text u)))) else (zgi (V_textLength u) 100 (mV_feed_L30 x1 n (x3 + (-1 : Int32)) (V_put_textLength_text (((V_textLength u) + (1 : Int32)), (upd (V_text u) ((V_textLength u)).toNatClampNeg (vp_nar .char (((((((x1).toUInt32 >>> ((((8 : Int32) * x3)).toUInt32 &&& Int32.toUInt32 31)).toInt32) &&& (255 : Int32))).toUInt32 % 65536).toInt32)))) u)))
set_option maxRecDepth 100000 in
set_option maxHeartbeats 4000000 in
theorem lV_feed_30 {l : Launch} {D : va_G} {cA : Nat → ClassId} {ad : Nat → Nat} {p : Program} {e : Env} {s : State} {m : MethodId} {args : Array Value} {below : List Frame} {meth : Method} {c : Code} {tK tB : Nat} {kS vS : Nat → Nat} {vT : Value} {vH : Value} {vA : Value} {r : Int32} {w' : Int32 × (Nat → Int32)}  {x1 : Int32} (hI : zInj ad 80) (hC : zC p s m args meth c cX7_feed 4 RX7 zTS D (zTy cA) (zAd ad 80) (zE tK tB kS vS)) (hr : meth.sig.returnType = (some .int)) : ∀ (n : Nat) (x3 : Int32) (u : SV), mV_feed_L30 x1 n x3 u = some (r, w') → zG p l e (zRm 0) s m args below meth c 4 D (zAd ad 80) (MQ below (zQi r (zBw D (wV cA ad vT vH vA (V_put_textLength_text w' u))) (zAd ad 80)) args s 0 0 (zAd ad 80)) (wV cA ad vT vH vA u) [(0, .ref (ad 0)), (1, .int x1), (3, .int x3)] 30 [] := by
  intro n
  induction n with
  | zero => intro x3 u hm; exact z_none hm
  | succ n ih =>
    intro x3 u hm
    rw [mV_feed_L30] at hm
    refine z_iload_n hC dX7_feed_30 rfl 2 rfl ?_
    refine z_if_lt (tgt := 70) hC hm dX7_feed_31 (by decide) (fun hm => ?_) (fun hm => ?_)
    · refine z_aload_n hC dX7_feed_70 rfl 0 rfl ?_
      refine gV_X7_102_o (v := (V_textLength u)) hC dX7_feed_71 rfl ?_
      exact riV (fin := fun z => V_put_textLength_text z u) hC hr rfl dX7_feed_74 hm rfl
    · refine z_aload_n hC dX7_feed_34 rfl 0 rfl ?_
      refine gV_X7_28_o hC dX7_feed_35 ?_
      refine z_aload_n hC dX7_feed_38 rfl 0 rfl ?_
      refine gV_X7_102_o (v := (V_textLength u)) hC dX7_feed_39 rfl ?_
      refine z_iload_n hC dX7_feed_42 rfl 1 rfl ?_
      refine z_bipush hC dX7_feed_43 kB_8 ?_
      refine z_iload_n hC dX7_feed_45 rfl 2 rfl ?_
      refine z_imul hC dX7_feed_46 ?_
      refine z_iushr hC dX7_feed_47 ?_
      refine z_sipush hC dX7_feed_48 kS_255 ?_
      refine z_iand hC dX7_feed_51 ?_
      refine z_i2c hC dX7_feed_52 ?_
      refine sV_text hC hI (fun _ h => h) hm dX7_feed_53 (fun hm => ?_)
      refine zuV (u2 := (V_put_textLength_text ((V_textLength u), (upd (V_text u) ((V_textLength u)).toNatClampNeg (vp_nar .char (((((((x1).toUInt32 >>> ((((8 : Int32) * x3)).toUInt32 &&& Int32.toUInt32 31)).toInt32) &&& (255 : Int32))).toUInt32 % 65536).toInt32)))) u)) rfl ?_
      refine z_aload_n hC dX7_feed_54 rfl 0 rfl ?_
      refine z_dup hC dX7_feed_55 rfl ?_
      refine gV_X7_102_o (v := (V_textLength u)) hC dX7_feed_56 rfl ?_
      refine z_iconst hC dX7_feed_59 kI_1 ?_
      refine z_iadd hC dX7_feed_60 ?_
      refine pV_X7_102_o hC hI (fun _ h => h) dX7_feed_61 ?_
      refine zuV (u2 := (V_put_textLength_text (((V_textLength u) + (1 : Int32)), (upd (V_text u) ((V_textLength u)).toNatClampNeg (vp_nar .char (((((((x1).toUInt32 >>> ((((8 : Int32) * x3)).toUInt32 &&& Int32.toUInt32 31)).toInt32) &&& (255 : Int32))).toUInt32 % 65536).toInt32)))) u)) rfl ?_
      refine z_iinc (lv' := [(3, .int (x3 + (-1 : Int32))), (0, .ref (ad 0)), (1, .int x1)]) (k := 2) (v := (x3 + (-1 : Int32))) hC dX7_feed_64 rfl rfl (by decide) rfl ?_
      refine z_goto (tgt := 30) hC dX7_feed_67 (by decide) ?_
      refine z_lv hC [1, 2, 0] rfl ?_
      exact ih _ _ hm
def mV_feed (x1 : Int32) (x2 : Int32) (u : SV) : Option (Int32 × Int32 × (Nat → Int32)) :=
  if x2 < 0 then (some ((-2 : Int32), ((V_textLength u), (V_text u)))) else (if x2 ≤ (4 : Int32) then (if ((V_textLength u) + x2) ≤ (100 : Int32) then (mV_feed_L30 x1 256 (x2 - (1 : Int32)) u) else (some ((-4 : Int32), ((V_textLength u), (V_text u))))) else (some ((-2 : Int32), ((V_textLength u), (V_text u)))))
set_option maxRecDepth 100000 in
set_option maxHeartbeats 4000000 in
theorem cV_feed {l : Launch} {D : va_G} {cA : Nat → ClassId} {ad : Nat → Nat} {tK tB : Nat} {kS vS : Nat → Nat} {vT vH vA : Value} (hI : zInj ad 80) (x1 : Int32) (x2 : Int32) (u : SV) {r : Int32} {w' : Int32 × (Nat → Int32)} (hm : mV_feed x1 x2 u = some (r, w')) : Met l yX7_feed (zWs yX7_feed cX7_feed 4 (some .int)) (zRm 0) (va_Pc [.ref (ad 0), .int x1, .int x2] (zPre D (zTy cA) (zE tK tB kS vS) (zAd ad 80) (wV cA ad vT vH vA u))) (zQi r (zBw D (wV cA ad vT vH vA (V_put_textLength_text w' u))) (zAd ad 80)) 0 0 (zAd ad 80) := by
  refine z_met (lv := [(0, .ref (ad 0)), (1, .int x1), (2, .int x2)]) plX7 rfl rfl (Nat.le_of_ble_eq_true rfl) rfl ?_
  intro p e s m below meth c hC hr hin
  unfold mV_feed at hm
  refine z_iload_n hC dX7_feed_0 rfl 2 rfl ?_
  refine z_if_lt (tgt := 9) hC hm dX7_feed_1 (by decide) (fun hm => ?_) (fun hm => ?_)
  · refine z_bipush hC dX7_feed_9 kB_m2 ?_
    exact riV (fin := fun z => V_put_textLength_text z u) hC hr rfl dX7_feed_11 hm rfl
  · refine z_iload_n hC dX7_feed_4 rfl 2 rfl ?_
    refine z_iconst hC dX7_feed_5 kI_4 ?_
    refine z_icmp_le (tgt := 12) hC hm dX7_feed_6 (by decide) (fun hm => ?_) (fun hm => ?_)
    · refine z_aload_n hC dX7_feed_12 rfl 0 rfl ?_
      refine gV_X7_102_o (v := (V_textLength u)) hC dX7_feed_13 rfl ?_
      refine z_iload_n hC dX7_feed_16 rfl 2 rfl ?_
      refine z_iadd hC dX7_feed_17 ?_
      refine z_bipush hC dX7_feed_18 kB_100 ?_
      refine z_icmp_le (tgt := 26) hC hm dX7_feed_20 (by decide) (fun hm => ?_) (fun hm => ?_)
      · refine z_iload_n hC dX7_feed_26 rfl 2 rfl ?_
        refine z_iconst hC dX7_feed_27 kI_1 ?_
        refine z_isub hC dX7_feed_28 ?_
        refine z_istore_n (lv' := [(3, .int (x2 - (1 : Int32))), (0, .ref (ad 0)), (1, .int x1), (2, .int x2)]) hC dX7_feed_29 rfl (by decide) rfl ?_
        refine z_lv hC [1, 2, 0] rfl ?_
        exact lV_feed_30 hI hC hr _ _ _ hm
      · refine z_bipush hC dX7_feed_23 kB_m4 ?_
        exact riV (fin := fun z => V_put_textLength_text z u) hC hr rfl dX7_feed_25 hm rfl
    · refine z_bipush hC dX7_feed_9 kB_m2 ?_
      exact riV (fin := fun z => V_put_textLength_text z u) hC hr rfl dX7_feed_11 hm rfl
theorem gV_X7_34_o {p : Program} {l : Launch} {e : Env} {R : Room} {s : State} {m : MethodId} {args : Array Value} {below : List Frame} {meth : Method} {c : Code} {Q : State → Prop} {D : va_G} {A : Nat → Prop} {cc : ByteArray} {nL : Nat} {lv : List (Nat × Value)} {pc : Nat} {st : List Value} {cA : Nat → ClassId} {ad : Nat → Nat} {tK tB : Nat} {kS vS : Nat → Nat} {vT vH vA : Value} {u : SV} (C : zC p s m args meth c cc nL RX7 zTS D (zTy cA) A (zE tK tB kS vS)) (hd : decode cc pc = .ok (.getfield 34, 3)) (g : zG p l e R s m args below meth c nL D A Q (wV cA ad vT vH vA u) lv (pc + 3) (.ref (ad 4) :: st)) : zG p l e R s m args below meth c nL D A Q (wV cA ad vT vH vA u) lv pc (.ref (ad 0) :: st) := by
  exact fun H locs ls hP hS hL => va_get (D := D) (ci := 7) (C := RX7) (T := TX7) (N := 16) C.1.1 C.1.2.1 C.1.2.2.2.2 inlX7 C.1.2.2.2.1 C.2.1 hP 0 (heV_o cA ad vT vH vA u) rfl 8 (by decide) (C.1.2.2.2.2 _ mfX7_34) (fun _ h9 => h9) (v := .ref (ad 4)) rfl hd (g H locs ls hP hS hL)
theorem gV_X7_112_stage {p : Program} {l : Launch} {e : Env} {R : Room} {s : State} {m : MethodId} {args : Array Value} {below : List Frame} {meth : Method} {c : Code} {Q : State → Prop} {D : va_G} {A : Nat → Prop} {cc : ByteArray} {nL : Nat} {lv : List (Nat × Value)} {pc : Nat} {st : List Value} {cA : Nat → ClassId} {ad : Nat → Nat} {tK tB : Nat} {kS vS : Nat → Nat} {vT vH vA : Value} {u : SV} (C : zC p s m args meth c cc nL RX7 zTS D (zTy cA) A (zE tK tB kS vS)) (hd : decode cc pc = .ok (.getfield 112, 3)) {v : Int32} (hv : S_house (V_stage u) = v) (g : zG p l e R s m args below meth c nL D A Q (wV cA ad vT vH vA u) lv (pc + 3) (.int v :: st)) : zG p l e R s m args below meth c nL D A Q (wV cA ad vT vH vA u) lv pc (.ref (ad 7) :: st) := by
  subst hv
  exact fun H locs ls hP hS hL => va_get (D := D) (ci := 4) (C := RX4) (T := TX4) (N := 7) C.1.1 C.1.2.1 C.1.2.2.2.2 inlX4 C.1.2.2.2.1 C.2.1 hP 7 (heV_stage cA ad vT vH vA u) rfl 6 (by decide) (C.1.2.2.2.2 _ mfX7_112) (fun _ h9 => h9) (v := .int (S_house (V_stage u))) rfl hd (g H locs ls hP hS hL)
def mV_holding (u : SV) : Option Nat :=
  zgi (S_house (V_stage u)) 6 (some ((S_house (V_stage u))).toNatClampNeg)
set_option maxRecDepth 100000 in
set_option maxHeartbeats 4000000 in
theorem cV_holding {l : Launch} {D : va_G} {cA : Nat → ClassId} {ad : Nat → Nat} {tK tB : Nat} {kS vS : Nat → Nat} {vT vH vA : Value} (hI : zInj ad 80) (u : SV) {r : Nat} (hm : mV_holding u = some r) : Met l yX7_holding (zWs yX7_holding cX7_holding 1 (some (.object "FarVoice$House"))) (zRm 0) (va_Pc [.ref (ad 0)] (zPre D (zTy cA) (zE tK tB kS vS) zA0 (wV cA ad vT vH vA u))) (zQr (ad (16 + 7 * r)) zB0 zA0) 0 0 zA0 := by
  refine z_met (lv := [(0, .ref (ad 0))]) plX7 rfl rfl (Nat.le_of_ble_eq_true rfl) rfl ?_
  intro p e s m below meth c hC hr hin
  unfold mV_holding at hm
  refine z_aload_n hC dX7_holding_0 rfl 0 rfl ?_
  refine gV_X7_34_o hC dX7_holding_1 ?_
  refine z_aload_n hC dX7_holding_4 rfl 0 rfl ?_
  refine gV_X7_12_o hC dX7_holding_5 ?_
  refine gV_X7_112_stage (v := (S_house (V_stage u))) hC dX7_holding_8 rfl ?_
  refine aV_houses hC hm dX7_holding_11 (fun hk1 hm => ?_)
  exact z_aret (F := fun k => ad (16 + 7 * k)) hC hr dX7_holding_12 (fun _ _ => trivial) (Option.some.inj hm)
theorem xV_X7_115 {p : Program} {l : Launch} {e : Env} {s : State} {m : MethodId} {args : Array Value} {below : List Frame} {meth : Method} {c : Code} {Q : State → Prop} {D : va_G} {A : Nat → Prop} {cc : ByteArray} {nL : Nat} {lv : List (Nat × Value)} {pc : Nat} {st : List Value} {cA : Nat → ClassId} {ad : Nat → Nat} {tK tB : Nat} {kS vS : Nat → Nat} {vT vH vA : Value} {d : Nat} {x0 : Int32} {u : SV} (hI : zInj ad 80) (C : zC p s m args meth c cc nL RX7 zTS D (zTy cA) A (zE tK tB kS vS)) (hdm : 0 + 1 ≤ d) (hd : decode cc pc = .ok (.invokestatic 115, 3)) (h8 : (st.map fun v => v.category).sum ≤ 8) (g : zG p l e (zRm d) s m args below meth c nL D A Q (wV cA ad vT vH vA u) lv (pc + 3) (.int (mN_isLetter x0) :: st)) : zG p l e (zRm d) s m args below meth c nL D A Q (wV cA ad vT vH vA u) lv pc (.int x0 :: st) :=
  z_calliS C (cN_isLetter (ad := (fun i => i)) (cA := cA) zInj0 x0 () rfl) (cwX7_115 C.1.2.2.2.2 rfl rfl ⟨hdm, by have := hdm; simp only [zRm]; omega⟩) hd rfl rfl h8 (fun _ h => nomatch h) (fun _ h => h.elim) zJ_ro g
theorem xV_X7_118 {p : Program} {l : Launch} {e : Env} {s : State} {m : MethodId} {args : Array Value} {below : List Frame} {meth : Method} {c : Code} {Q : State → Prop} {D : va_G} {A : Nat → Prop} {cc : ByteArray} {nL : Nat} {lv : List (Nat × Value)} {pc : Nat} {st : List Value} {cA : Nat → ClassId} {ad : Nat → Nat} {tK tB : Nat} {kS vS : Nat → Nat} {vT vH vA : Value} {d : Nat} {u : SV} (hI : zInj ad 80) (C : zC p s m args meth c cc nL RX7 zTS D (zTy cA) A (zE tK tB kS vS)) (hdm : 0 + 1 ≤ d) {β : Type} {f : Nat → Option β} {o : β} (hm : (mV_holding u).bind (fun q => zgk q 6 (f q)) = some o) (hd : decode cc pc = .ok (.invokevirtual 118, 3)) (h8 : (st.map fun v => v.category).sum ≤ 8) (g : ∀ q, q < 6 → f q = some o → zG p l e (zRm d) s m args below meth c nL D A Q (wV cA ad vT vH vA u) lv (pc + 3) (.ref (ad (16 + 7 * q)) :: st)) : zG p l e (zRm d) s m args below meth c nL D A Q (wV cA ad vT vH vA u) lv pc (.ref (ad 0) :: st) := by
  obtain ⟨q, h1, h2⟩ := zb_some hm
  obtain ⟨h3, h4⟩ := zgk_some h2
  exact z_callrV C (cV_holding (ad := ad) (cA := cA) hI  u h1) (cwX7_118 C.1.2.2.2.2 rfl rfl ⟨hdm, by have := hdm; simp only [zRm]; omega⟩) hd rfl rfl h8 ⟨_, rfl, rfl⟩ (List.mem_of_getElem? (heV_o cA ad _ _ _ u)) (fun _ h => h) (fun _ h => h.elim) zJ_ro (g q h3 h4)
theorem xV_X7_122 {p : Program} {l : Launch} {e : Env} {s : State} {m : MethodId} {args : Array Value} {below : List Frame} {meth : Method} {c : Code} {Q : State → Prop} {D : va_G} {A : Nat → Prop} {cc : ByteArray} {nL : Nat} {lv : List (Nat × Value)} {pc : Nat} {st : List Value} {cA : Nat → ClassId} {ad : Nat → Nat} {tK tB : Nat} {kS vS : Nat → Nat} {vT vH vA : Value} {d : Nat} {x1 : Int32} {x2 : Int32} {u : SV} {K : Nat} (hK : K < 6) (hI : zInj ad 80) (C : zC p s m args meth c cc nL RX7 zTS D (zTy cA) A (zE tK tB kS vS)) (hdm : 0 + 1 ≤ d) {β : Type} {f : Int32 → Option β} {o : β} (hm : (mH_soundOf x1 x2 (V_hs u K)).bind f = some o) (hd : decode cc pc = .ok (.invokevirtual 122, 3)) (h8 : (st.map fun v => v.category).sum ≤ 8) (g : ∀ q, f q = some o → zG p l e (zRm d) s m args below meth c nL D A Q (wV cA ad vT vH vA u) lv (pc + 3) (.int q :: st)) : zG p l e (zRm d) s m args below meth c nL D A Q (wV cA ad vT vH vA u) lv pc (.int x2 :: .int x1 :: .ref (ad (16 + 7 * K)) :: st) := by
  obtain ⟨q, h1, h2⟩ := zb_some hm
  exact z_calliV C (cH_soundOf (ad := (fun i => ad (16 + 7 * K + i))) (cA := cA) (zInj_sh (k := 16 + 7 * K) (n := 7) hI (by omega)) x1 x2 (V_hs u K) h1) (cwX7_122 C.1.2.2.2.2 rfl rfl ⟨hdm, by have := hdm; simp only [zRm]; omega⟩) hd rfl rfl h8 ⟨_, rfl, rfl⟩ (inV_h (cA := cA) hK _ (List.mem_of_getElem? (i := 0) rfl)) (inV_h hK) (fun _ h => h.elim) zJ_ro (g q h2)
theorem xV_X7_126 {p : Program} {l : Launch} {e : Env} {s : State} {m : MethodId} {args : Array Value} {below : List Frame} {meth : Method} {c : Code} {Q : State → Prop} {D : va_G} {A : Nat → Prop} {cc : ByteArray} {nL : Nat} {lv : List (Nat × Value)} {pc : Nat} {st : List Value} {cA : Nat → ClassId} {ad : Nat → Nat} {tK tB : Nat} {kS vS : Nat → Nat} {vT vH vA : Value} {d : Nat} {x1 : Int32} {u : SV} {K : Nat} (hK : K < 6) (hI : zInj ad 80) (C : zC p s m args meth c cc nL RX7 zTS D (zTy cA) A (zE tK tB kS vS)) (hdm : 0 + 1 ≤ d) {β : Type} {f : Int32 → Option β} {o : β} (hm : (mH_swapOf x1 (V_hs u K)).bind f = some o) (hd : decode cc pc = .ok (.invokevirtual 126, 3)) (h8 : (st.map fun v => v.category).sum ≤ 8) (g : ∀ q, f q = some o → zG p l e (zRm d) s m args below meth c nL D A Q (wV cA ad vT vH vA u) lv (pc + 3) (.int q :: st)) : zG p l e (zRm d) s m args below meth c nL D A Q (wV cA ad vT vH vA u) lv pc (.int x1 :: .ref (ad (16 + 7 * K)) :: st) := by
  obtain ⟨q, h1, h2⟩ := zb_some hm
  exact z_calliV C (cH_swapOf (ad := (fun i => ad (16 + 7 * K + i))) (cA := cA) (zInj_sh (k := 16 + 7 * K) (n := 7) hI (by omega)) x1 (V_hs u K) h1) (cwX7_126 C.1.2.2.2.2 rfl rfl ⟨hdm, by have := hdm; simp only [zRm]; omega⟩) hd rfl rfl h8 ⟨_, rfl, rfl⟩ (inV_h (cA := cA) hK _ (List.mem_of_getElem? (i := 0) rfl)) (inV_h hK) (fun _ h => h.elim) zJ_ro (g q h2)
theorem gV_X7_130_house {p : Program} {l : Launch} {e : Env} {R : Room} {s : State} {m : MethodId} {args : Array Value} {below : List Frame} {meth : Method} {c : Code} {Q : State → Prop} {D : va_G} {A : Nat → Prop} {cc : ByteArray} {nL : Nat} {lv : List (Nat × Value)} {pc : Nat} {st : List Value} {cA : Nat → ClassId} {ad : Nat → Nat} {tK tB : Nat} {kS vS : Nat → Nat} {vT vH vA : Value} {u : SV} {K : Nat} (hK : K < 6) (C : zC p s m args meth c cc nL RX7 zTS D (zTy cA) A (zE tK tB kS vS)) (hd : decode cc pc = .ok (.getfield 130, 3)) {v : Int32} (hv : H_late (V_hs u K) = v) (g : zG p l e R s m args below meth c nL D A Q (wV cA ad vT vH vA u) lv (pc + 3) (.int v :: st)) : zG p l e R s m args below meth c nL D A Q (wV cA ad vT vH vA u) lv pc (.ref (ad (16 + 7 * K)) :: st) := by
  subst hv
  obtain ⟨q0, he⟩ := List.getElem?_of_mem (inV_h (cA := cA) (ad := ad) (vT := vT) (vH := vH) (vA := vA) (u := u) hK _ (List.mem_of_getElem? (i := 0) rfl))
  exact fun H locs ls hP hS hL => va_get (D := D) (ci := 1) (C := RX1) (T := TX1) (N := 9) C.1.1 C.1.2.1 C.1.2.2.2.2 inlX1 C.1.2.2.2.1 C.2.1 hP q0 he rfl 2 (by decide) (C.1.2.2.2.2 _ mfX7_130) (fun _ h9 => h9) (v := .int (H_late (V_hs u K))) rfl hd (g H locs ls hP hS hL)
def mV_told (x1 : Int32) (x2 : Int32) (u : SV) : Option Int32 :=
  if (mN_isLetter x1) = 0 then (some (-1 : Int32)) else (if x2 = (0 : Int32) then ((mV_holding u).bind fun q1 => zgk q1 6 ((mH_soundOf x1 (0 : Int32) ((V_hs u) q1)).bind fun q2 => (some q2))) else (if x2 = (1 : Int32) then ((mV_holding u).bind fun q3 => zgk q3 6 ((mH_soundOf x1 (1 : Int32) ((V_hs u) q3)).bind fun q4 => (some q4))) else (if x2 = (2 : Int32) then ((mV_holding u).bind fun q5 => zgk q5 6 ((mH_swapOf x1 ((V_hs u) q5)).bind fun q6 => (some q6))) else (if x2 = (3 : Int32) then ((mV_holding u).bind fun q7 => zgk q7 6 (some (H_late ((V_hs u) q7)))) else (some (-1 : Int32))))))
set_option maxRecDepth 100000 in
set_option maxHeartbeats 4000000 in
theorem cV_told {l : Launch} {D : va_G} {cA : Nat → ClassId} {ad : Nat → Nat} {tK tB : Nat} {kS vS : Nat → Nat} {vT vH vA : Value} (hI : zInj ad 80) (x1 : Int32) (x2 : Int32) (u : SV) {r : Int32} (hm : mV_told x1 x2 u = some r) : Met l yX7_told (zWs yX7_told cX7_told 3 (some .int)) (zRm 1) (va_Pc [.ref (ad 0), .int x1, .int x2] (zPre D (zTy cA) (zE tK tB kS vS) zA0 (wV cA ad vT vH vA u))) (zQi r zB0 zA0) 0 0 zA0 := by
  refine z_met (lv := [(0, .ref (ad 0)), (1, .int x1), (2, .int x2)]) plX7 rfl rfl (Nat.le_of_ble_eq_true rfl) rfl ?_
  intro p e s m below meth c hC hr hin
  unfold mV_told at hm
  refine z_iload_n hC dX7_told_0 rfl 1 rfl ?_
  refine xV_X7_115 hI hC (Nat.le_of_ble_eq_true rfl) dX7_told_1 (Nat.le_of_ble_eq_true rfl) ?_
  refine z_if_ne (tgt := 9) hC hm dX7_told_4 (by decide) (fun hm => ?_) (fun hm => ?_)
  · refine z_iconst hC dX7_told_7 kI_m1 ?_
    exact z_iret hC hr rfl dX7_told_8 (fun _ _ => trivial) (Option.some.inj hm)
  · refine z_iload_n hC dX7_told_9 rfl 2 rfl ?_
    refine z_ite hm (fun h10_0 hm => ?_) (fun h10_0 hm => ?_)
    · refine z_tin hC dX7_told_10 h10_0 kc_0 (by decide) (by decide) (off := 30) rfl (tgt := 40) (by decide) ?_
      refine z_aload_n hC dX7_told_40 rfl 0 rfl ?_
      refine xV_X7_118 hI hC (Nat.le_of_ble_eq_true rfl) hm dX7_told_41 (Nat.le_of_ble_eq_true rfl) (fun q1 hk1 hm => ?_)
      refine z_iload_n hC dX7_told_44 rfl 1 rfl ?_
      refine z_iconst hC dX7_told_45 kI_0 ?_
      refine xV_X7_122 hk1 hI hC (Nat.le_of_ble_eq_true rfl) hm dX7_told_46 (Nat.le_of_ble_eq_true rfl) (fun q2 hm => ?_)
      exact z_iret hC hr rfl dX7_told_49 (fun _ _ => trivial) (Option.some.inj hm)
    · refine z_ite hm (fun h10_1 hm => ?_) (fun h10_1 hm => ?_)
      · refine z_tin hC dX7_told_10 h10_1 kc_1 (by decide) (by decide) (off := 40) rfl (tgt := 50) (by decide) ?_
        refine z_aload_n hC dX7_told_50 rfl 0 rfl ?_
        refine xV_X7_118 hI hC (Nat.le_of_ble_eq_true rfl) hm dX7_told_51 (Nat.le_of_ble_eq_true rfl) (fun q3 hk2 hm => ?_)
        refine z_iload_n hC dX7_told_54 rfl 1 rfl ?_
        refine z_iconst hC dX7_told_55 kI_1 ?_
        refine xV_X7_122 hk2 hI hC (Nat.le_of_ble_eq_true rfl) hm dX7_told_56 (Nat.le_of_ble_eq_true rfl) (fun q4 hm => ?_)
        exact z_iret hC hr rfl dX7_told_59 (fun _ _ => trivial) (Option.some.inj hm)
      · refine z_ite hm (fun h10_2 hm => ?_) (fun h10_2 hm => ?_)
        · refine z_tin hC dX7_told_10 h10_2 kc_2 (by decide) (by decide) (off := 50) rfl (tgt := 60) (by decide) ?_
          refine z_aload_n hC dX7_told_60 rfl 0 rfl ?_
          refine xV_X7_118 hI hC (Nat.le_of_ble_eq_true rfl) hm dX7_told_61 (Nat.le_of_ble_eq_true rfl) (fun q5 hk3 hm => ?_)
          refine z_iload_n hC dX7_told_64 rfl 1 rfl ?_
          refine xV_X7_126 hk3 hI hC (Nat.le_of_ble_eq_true rfl) hm dX7_told_65 (Nat.le_of_ble_eq_true rfl) (fun q6 hm => ?_)
          exact z_iret hC hr rfl dX7_told_68 (fun _ _ => trivial) (Option.some.inj hm)
        · refine z_ite hm (fun h10_3 hm => ?_) (fun h10_3 hm => ?_)
          · refine z_tin hC dX7_told_10 h10_3 kc_3 (by decide) (by decide) (off := 59) rfl (tgt := 69) (by decide) ?_
            refine z_aload_n hC dX7_told_69 rfl 0 rfl ?_
            refine xV_X7_118 hI hC (Nat.le_of_ble_eq_true rfl) hm dX7_told_70 (Nat.le_of_ble_eq_true rfl) (fun q7 hk4 hm => ?_)
            refine gV_X7_130_house (v := (H_late ((V_hs u) q7))) hk4 hC dX7_told_73 rfl ?_
            exact z_iret hC hr rfl dX7_told_76 (fun _ _ => trivial) (Option.some.inj hm)
          · refine z_tout (n := 4) hC dX7_told_10 (z_allc (z_tneq kc_0 h10_0) (z_allc (z_tneq kc_1 h10_1) (z_allc (z_tneq kc_2 h10_2) (z_allc (z_tneq kc_3 h10_3) z_all0)))) (by decide) (tgt := 77) (by decide) ?_
            refine z_iconst hC dX7_told_77 kI_m1 ?_
            exact z_iret hC hr rfl dX7_told_78 (fun _ _ => trivial) (Option.some.inj hm)
theorem xV_X7_211 {p : Program} {l : Launch} {e : Env} {s : State} {m : MethodId} {args : Array Value} {below : List Frame} {meth : Method} {c : Code} {Q : State → Prop} {D : va_G} {A : Nat → Prop} {cc : ByteArray} {nL : Nat} {lv : List (Nat × Value)} {pc : Nat} {st : List Value} {cA : Nat → ClassId} {ad : Nat → Nat} {tK tB : Nat} {kS vS : Nat → Nat} {vT vH vA : Value} {d : Nat} {u : SV} (hI : zInj ad 80) (C : zC p s m args meth c cc nL RX7 zTS D (zTy cA) A (zE tK tB kS vS)) (hdm : 0 + 1 ≤ d) (hd : decode cc pc = .ok (.invokevirtual 211, 3)) (h8 : (st.map fun v => v.category).sum ≤ 8) (g : zG p l e (zRm d) s m args below meth c nL D A Q (wV cA ad vT vH vA u) lv (pc + 3) (.int (mS_tenthsSaidIn (V_stage u)) :: st)) : zG p l e (zRm d) s m args below meth c nL D A Q (wV cA ad vT vH vA u) lv pc (.ref (ad 7) :: st) :=
  z_calliV C (cS_tenthsSaidIn (ad := (fun i => ad (7 + i))) (cA := cA) (zInj_sh (k := 7) (n := 2) hI (by decide))  (V_stage u) rfl) (cwX7_211 C.1.2.2.2.2 rfl rfl ⟨hdm, by have := hdm; simp only [zRm]; omega⟩) hd rfl rfl h8 ⟨_, rfl, rfl⟩ (List.mem_of_getElem? (heV_stage cA ad _ _ _ u)) inV_stage (fun _ h => h.elim) zJ_ro g
theorem xV_X7_336 {p : Program} {l : Launch} {e : Env} {s : State} {m : MethodId} {args : Array Value} {below : List Frame} {meth : Method} {c : Code} {Q : State → Prop} {D : va_G} {A : Nat → Prop} {cc : ByteArray} {nL : Nat} {lv : List (Nat × Value)} {pc : Nat} {st : List Value} {cA : Nat → ClassId} {ad : Nat → Nat} {tK tB : Nat} {kS vS : Nat → Nat} {vT vH vA : Value} {d : Nat} {x1 : Int32} {u : SV} {a : Nat} (ha : a < V_nv u) (hI : zInj ad 80) (C : zC p s m args meth c cc nL RX7 zTS D (zTy cA) A (zE tK tB kS vS)) (hdm : 0 + 1 ≤ d) {β : Type} {f : Int32 → Option β} {o : β} (hm : (mO_isApartIn x1 (V_vo u a)).bind f = some o) (hd : decode cc pc = .ok (.invokevirtual 336, 3)) (h8 : (st.map fun v => v.category).sum ≤ 8) (g : ∀ q, f q = some o → zG p l e (zRm d) s m args below meth c nL D A Q (wV cA ad vT vH vA u) lv (pc + 3) (.int q :: st)) : zG p l e (zRm d) s m args below meth c nL D A Q (wV cA ad vT vH vA u) lv pc (.int x1 :: .ref (ad (70 + a)) :: st) := by
  obtain ⟨q, h1, h2⟩ := zb_some hm
  exact z_calliV C (cO_isApartIn (ad := (fun i => ad (70 + a + i))) (cA := cA) (zInj_sh (k := 70 + a) (n := 1) hI (by have := V_nv_le u; omega)) x1 (V_vo u a) h1) (cwX7_336 C.1.2.2.2.2 rfl rfl ⟨hdm, by have := hdm; simp only [zRm]; omega⟩) hd rfl rfl h8 ⟨_, rfl, rfl⟩ (inV_o (cA := cA) ha _ (List.mem_of_getElem? (i := 0) rfl)) (inV_o ha) (fun _ h => h.elim) zJ_ro (g q h2)
def mV_canJoin (a : Nat) (x2 : Int32) (u : SV) : Option Int32 :=
  if (mS_tenthsSaidIn (V_stage u)) ≤ x2 then (some (0 : Int32)) else (zgk a (V_nv u) <| (mO_isApartIn x2 ((V_vo u) a)).bind fun q1 => (if q1 = 0 then (some (1 : Int32)) else (some (0 : Int32))))
set_option maxRecDepth 100000 in
set_option maxHeartbeats 4000000 in
theorem cV_canJoin {l : Launch} {D : va_G} {cA : Nat → ClassId} {ad : Nat → Nat} {tK tB : Nat} {kS vS : Nat → Nat} {vT vH vA : Value} {a : Nat} (hI : zInj ad 80) (x2 : Int32) (u : SV) {r : Int32} (hm : mV_canJoin a x2 u = some r) : Met l yX7_canJoin (zWs yX7_canJoin cX7_canJoin 3 (some .boolean)) (zRm 1) (va_Pc [.ref (ad 0), .ref (ad (70 + a)), .int x2] (zPre D (zTy cA) (zE tK tB kS vS) zA0 (wV cA ad vT vH vA u))) (zQi r zB0 zA0) 0 0 zA0 := by
  refine z_met (lv := [(0, .ref (ad 0)), (1, .ref (ad (70 + a))), (2, .int x2)]) plX7 rfl rfl (Nat.le_of_ble_eq_true rfl) rfl ?_
  intro p e s m below meth c hC hr hin
  unfold mV_canJoin at hm
  refine z_iload_n hC dX7_canJoin_0 rfl 2 rfl ?_
  refine z_aload_n hC dX7_canJoin_1 rfl 0 rfl ?_
  refine gV_X7_12_o hC dX7_canJoin_2 ?_
  refine xV_X7_211 hI hC (Nat.le_of_ble_eq_true rfl) dX7_canJoin_5 (Nat.le_of_ble_eq_true rfl) ?_
  refine z_icmp_ge (tgt := 23) hC hm dX7_canJoin_8 (by decide) (fun hm => ?_) (fun hm => ?_)
  · refine z_iconst hC dX7_canJoin_23 kI_0 ?_
    exact z_iret hC hr rfl dX7_canJoin_24 (fun _ _ => trivial) (Option.some.inj hm)
  · refine z_aload_n hC dX7_canJoin_11 rfl 1 rfl ?_
    refine z_iload_n hC dX7_canJoin_12 rfl 2 rfl ?_
    refine z_g (zgk_some hm) (fun ha hm => ?_)
    refine xV_X7_336 ha hI hC (Nat.le_of_ble_eq_true rfl) hm dX7_canJoin_13 (Nat.le_of_ble_eq_true rfl) (fun q1 hm => ?_)
    refine z_if_ne (tgt := 23) hC hm dX7_canJoin_16 (by decide) (fun hm => ?_) (fun hm => ?_)
    · refine z_iconst hC dX7_canJoin_19 kI_1 ?_
      refine z_goto (tgt := 24) hC dX7_canJoin_20 (by decide) ?_
      exact z_iret hC hr rfl dX7_canJoin_24 (fun _ _ => trivial) (Option.some.inj hm)
    · refine z_iconst hC dX7_canJoin_23 kI_0 ?_
      exact z_iret hC hr rfl dX7_canJoin_24 (fun _ _ => trivial) (Option.some.inj hm)
def mV_movingAround (x1 : Int64) (x3 : Int32) (u : SV) : Option Int64 :=
  (mV_holding u).bind fun q1 => zgk q1 6 (some ((((x1).toUInt64 >>> (((zmax (0 : Int32) (x3 - (H_late ((V_hs u) q1))))).toInt64.toUInt64 &&& Int64.toUInt64 63)).toInt64) &&& (((1 : Int64) <<< (((((zmin (39 : Int32) (x3 + (H_late ((V_hs u) q1)))) - (zmax (0 : Int32) (x3 - (H_late ((V_hs u) q1))))) + (1 : Int32))).toInt64 &&& 63)) - (1 : Int64))))
set_option maxRecDepth 100000 in
set_option maxHeartbeats 4000000 in
theorem cV_movingAround {l : Launch} {D : va_G} {cA : Nat → ClassId} {ad : Nat → Nat} {tK tB : Nat} {kS vS : Nat → Nat} {vT vH vA : Value} (hI : zInj ad 80) (x1 : Int64) (x3 : Int32) (u : SV) {r : Int64} (hm : mV_movingAround x1 x3 u = some r) : Met l yX7_movingAround (zWs yX7_movingAround cX7_movingAround 7 (some .long)) (zRm 1) (va_Pc [.ref (ad 0), .long x1, .int x3] (zPre D (zTy cA) (zE tK tB kS vS) zA0 (wV cA ad vT vH vA u))) (zQl r zB0 zA0) 0 0 zA0 := by
  refine z_met (lv := [(0, .ref (ad 0)), (1, .long x1), (3, .int x3)]) plX7 rfl rfl (Nat.le_of_ble_eq_true rfl) rfl ?_
  intro p e s m below meth c hC hr hin
  unfold mV_movingAround at hm
  refine z_aload_n hC dX7_movingAround_0 rfl 0 rfl ?_
  refine xV_X7_118 hI hC (Nat.le_of_ble_eq_true rfl) hm dX7_movingAround_1 (Nat.le_of_ble_eq_true rfl) (fun q1 hk1 hm => ?_)
  refine gV_X7_130_house (v := (H_late ((V_hs u) q1))) hk1 hC dX7_movingAround_4 rfl ?_
  refine z_istore (lv' := [(4, .int (H_late ((V_hs u) q1))), (0, .ref (ad 0)), (1, .long x1), (3, .int x3)]) hC dX7_movingAround_7 (by decide) rfl ?_
  refine z_iconst hC dX7_movingAround_9 kI_0 ?_
  refine z_iload_n hC dX7_movingAround_10 rfl 3 rfl ?_
  refine z_iload hC dX7_movingAround_11 0 rfl ?_
  refine z_isub hC dX7_movingAround_13 ?_
  refine z_max hC mmX7_339 (Nat.le_of_ble_eq_true rfl) (Nat.le_of_ble_eq_true rfl) dX7_movingAround_14 ?_
  refine z_istore (lv' := [(5, .int (zmax (0 : Int32) (x3 - (H_late ((V_hs u) q1))))), (4, .int (H_late ((V_hs u) q1))), (0, .ref (ad 0)), (1, .long x1), (3, .int x3)]) hC dX7_movingAround_17 (by decide) rfl ?_
  refine z_bipush hC dX7_movingAround_19 kB_39 ?_
  refine z_iload_n hC dX7_movingAround_21 rfl 4 rfl ?_
  refine z_iload hC dX7_movingAround_22 1 rfl ?_
  refine z_iadd hC dX7_movingAround_24 ?_
  refine z_min hC mmX7_342 (Nat.le_of_ble_eq_true rfl) (Nat.le_of_ble_eq_true rfl) dX7_movingAround_25 ?_
  refine z_istore (lv' := [(6, .int (zmin (39 : Int32) (x3 + (H_late ((V_hs u) q1))))), (5, .int (zmax (0 : Int32) (x3 - (H_late ((V_hs u) q1))))), (4, .int (H_late ((V_hs u) q1))), (0, .ref (ad 0)), (1, .long x1), (3, .int x3)]) hC dX7_movingAround_28 (by decide) rfl ?_
  refine z_lload_n hC dX7_movingAround_30 rfl 4 rfl ?_
  refine z_iload hC dX7_movingAround_31 1 rfl ?_
  refine z_lushr hC dX7_movingAround_33 ?_
  refine z_lconst hC dX7_movingAround_34 kL_1 ?_
  refine z_iload hC dX7_movingAround_35 0 rfl ?_
  refine z_iload hC dX7_movingAround_37 1 rfl ?_
  refine z_isub hC dX7_movingAround_39 ?_
  refine z_iconst hC dX7_movingAround_40 kI_1 ?_
  refine z_iadd hC dX7_movingAround_41 ?_
  refine z_lshl hC dX7_movingAround_42 ?_
  refine z_lconst hC dX7_movingAround_43 kL_1 ?_
  refine z_lsub hC dX7_movingAround_44 ?_
  refine z_land hC dX7_movingAround_45 ?_
  exact z_lret hC hr dX7_movingAround_46 (fun _ _ => trivial) (Option.some.inj hm)
theorem xV_X7_242 {p : Program} {l : Launch} {e : Env} {s : State} {m : MethodId} {args : Array Value} {below : List Frame} {meth : Method} {c : Code} {Q : State → Prop} {D : va_G} {A : Nat → Prop} {cc : ByteArray} {nL : Nat} {lv : List (Nat × Value)} {pc : Nat} {st : List Value} {cA : Nat → ClassId} {ad : Nat → Nat} {tK tB : Nat} {kS vS : Nat → Nat} {vT vH vA : Value} {d : Nat} {x1 : Int64} {x3 : Int32} {u : SV} (hI : zInj ad 80) (C : zC p s m args meth c cc nL RX7 zTS D (zTy cA) A (zE tK tB kS vS)) (hdm : 1 + 1 ≤ d) {β : Type} {f : Int64 → Option β} {o : β} (hm : (mV_movingAround x1 x3 u).bind f = some o) (hd : decode cc pc = .ok (.invokevirtual 242, 3)) (h8 : (st.map fun v => v.category).sum ≤ 8) (g : ∀ q, f q = some o → zG p l e (zRm d) s m args below meth c nL D A Q (wV cA ad vT vH vA u) lv (pc + 3) (.long q :: st)) : zG p l e (zRm d) s m args below meth c nL D A Q (wV cA ad vT vH vA u) lv pc (.int x3 :: .long x1 :: .ref (ad 0) :: st) := by
  obtain ⟨q, h1, h2⟩ := zb_some hm
  exact z_calllV C (cV_movingAround (ad := ad) (cA := cA) hI x1 x3 u h1) (cwX7_242 C.1.2.2.2.2 rfl rfl ⟨hdm, by have := hdm; simp only [zRm]; omega⟩) hd rfl rfl h8 ⟨_, rfl, rfl⟩ (List.mem_of_getElem? (heV_o cA ad _ _ _ u)) (fun _ h => h) (fun _ h => h.elim) zJ_ro (g q h2)
def mV_isMoving (x1 : Int64) (x3 : Int32) (u : SV) : Option Int32 :=
  (mV_movingAround x1 x3 u).bind fun q1 => (if (lg_cmp q1 (0 : Int64)) = 0 then (some (0 : Int32)) else (some (1 : Int32)))
set_option maxRecDepth 100000 in
set_option maxHeartbeats 4000000 in
theorem cV_isMoving {l : Launch} {D : va_G} {cA : Nat → ClassId} {ad : Nat → Nat} {tK tB : Nat} {kS vS : Nat → Nat} {vT vH vA : Value} (hI : zInj ad 80) (x1 : Int64) (x3 : Int32) (u : SV) {r : Int32} (hm : mV_isMoving x1 x3 u = some r) : Met l yX7_isMoving (zWs yX7_isMoving cX7_isMoving 4 (some .boolean)) (zRm 2) (va_Pc [.ref (ad 0), .long x1, .int x3] (zPre D (zTy cA) (zE tK tB kS vS) zA0 (wV cA ad vT vH vA u))) (zQi r zB0 zA0) 0 0 zA0 := by
  refine z_met (lv := [(0, .ref (ad 0)), (1, .long x1), (3, .int x3)]) plX7 rfl rfl (Nat.le_of_ble_eq_true rfl) rfl ?_
  intro p e s m below meth c hC hr hin
  unfold mV_isMoving at hm
  refine z_aload_n hC dX7_isMoving_0 rfl 0 rfl ?_
  refine z_lload_n hC dX7_isMoving_1 rfl 1 rfl ?_
  refine z_iload_n hC dX7_isMoving_2 rfl 2 rfl ?_
  refine xV_X7_242 hI hC (Nat.le_of_ble_eq_true rfl) hm dX7_isMoving_3 (Nat.le_of_ble_eq_true rfl) (fun q1 hm => ?_)
  refine z_lconst hC dX7_isMoving_6 kL_0 ?_
  refine z_lcmp hC dX7_isMoving_7 ?_
  refine z_if_eq (tgt := 15) hC hm dX7_isMoving_8 (by decide) (fun hm => ?_) (fun hm => ?_)
  · refine z_iconst hC dX7_isMoving_15 kI_0 ?_
    exact z_iret hC hr rfl dX7_isMoving_16 (fun _ _ => trivial) (Option.some.inj hm)
  · refine z_iconst hC dX7_isMoving_11 kI_1 ?_
    refine z_goto (tgt := 16) hC dX7_isMoving_12 (by decide) ?_
    exact z_iret hC hr rfl dX7_isMoving_16 (fun _ _ => trivial) (Option.some.inj hm)
theorem gV_X7_67_o {p : Program} {l : Launch} {e : Env} {R : Room} {s : State} {m : MethodId} {args : Array Value} {below : List Frame} {meth : Method} {c : Code} {Q : State → Prop} {D : va_G} {A : Nat → Prop} {cc : ByteArray} {nL : Nat} {lv : List (Nat × Value)} {pc : Nat} {st : List Value} {cA : Nat → ClassId} {ad : Nat → Nat} {tK tB : Nat} {kS vS : Nat → Nat} {vT vH vA : Value} {u : SV} (C : zC p s m args meth c cc nL RX7 zTS D (zTy cA) A (zE tK tB kS vS)) (hd : decode cc pc = .ok (.getfield 67, 3)) (g : zG p l e R s m args below meth c nL D A Q (wV cA ad vT vH vA u) lv (pc + 3) (.ref (ad 14) :: st)) : zG p l e R s m args below meth c nL D A Q (wV cA ad vT vH vA u) lv pc (.ref (ad 0) :: st) := by
  exact fun H locs ls hP hS hL => va_get (D := D) (ci := 7) (C := RX7) (T := TX7) (N := 16) C.1.1 C.1.2.1 C.1.2.2.2.2 inlX7 C.1.2.2.2.1 C.2.1 hP 0 (heV_o cA ad vT vH vA u) rfl 15 (by decide) (C.1.2.2.2.2 _ mfX7_67) (fun _ h9 => h9) (v := .ref (ad 14)) rfl hd (g H locs ls hP hS hL)
theorem gV_X7_292_voice {p : Program} {l : Launch} {e : Env} {R : Room} {s : State} {m : MethodId} {args : Array Value} {below : List Frame} {meth : Method} {c : Code} {Q : State → Prop} {D : va_G} {A : Nat → Prop} {cc : ByteArray} {nL : Nat} {lv : List (Nat × Value)} {pc : Nat} {st : List Value} {cA : Nat → ClassId} {ad : Nat → Nat} {tK tB : Nat} {kS vS : Nat → Nat} {vT vH vA : Value} {u : SV} {a : Nat} (ha : a < V_nv u) (C : zC p s m args meth c cc nL RX7 zTS D (zTy cA) A (zE tK tB kS vS)) (hd : decode cc pc = .ok (.getfield 292, 3)) {v : Int32} (hv : O_kind (V_vo u a) = v) (g : zG p l e R s m args below meth c nL D A Q (wV cA ad vT vH vA u) lv (pc + 3) (.int v :: st)) : zG p l e R s m args below meth c nL D A Q (wV cA ad vT vH vA u) lv pc (.ref (ad (70 + a)) :: st) := by
  subst hv
  obtain ⟨q0, he⟩ := List.getElem?_of_mem (inV_o (cA := cA) (ad := ad) (vT := vT) (vH := vH) (vA := vA) (u := u) ha _ (List.mem_of_getElem? (i := 0) rfl))
  exact fun H locs ls hP hS hL => va_get (D := D) (ci := 6) (C := RX6) (T := TX6) (N := 3) C.1.1 C.1.2.1 C.1.2.2.2.2 inlX6 C.1.2.2.2.1 C.2.1 hP q0 he rfl 1 (by decide) (C.1.2.2.2.2 _ mfX7_292) (fun _ h9 => h9) (v := .int (O_kind (V_vo u a))) rfl hd (g H locs ls hP hS hL)
theorem xV_X7_316 {p : Program} {l : Launch} {e : Env} {s : State} {m : MethodId} {args : Array Value} {below : List Frame} {meth : Method} {c : Code} {Q : State → Prop} {D : va_G} {A : Nat → Prop} {cc : ByteArray} {nL : Nat} {lv : List (Nat × Value)} {pc : Nat} {st : List Value} {cA : Nat → ClassId} {ad : Nat → Nat} {tK tB : Nat} {kS vS : Nat → Nat} {vT vH vA : Value} {d : Nat} {x1 : Int32} {u : SV} (hI : zInj ad 80) (C : zC p s m args meth c cc nL RX7 zTS D (zTy cA) A (zE tK tB kS vS)) (hdm : 1 + 1 ≤ d) {β : Type} {f : Int32 → Option β} {o : β} (hm : (mS_letterIn x1 (V_stage u)).bind f = some o) (hd : decode cc pc = .ok (.invokevirtual 316, 3)) (h8 : (st.map fun v => v.category).sum ≤ 8) (g : ∀ q, f q = some o → zG p l e (zRm d) s m args below meth c nL D A Q (wV cA ad vT vH vA u) lv (pc + 3) (.int q :: st)) : zG p l e (zRm d) s m args below meth c nL D A Q (wV cA ad vT vH vA u) lv pc (.int x1 :: .ref (ad 7) :: st) := by
  obtain ⟨q, h1, h2⟩ := zb_some hm
  exact z_calliV C (cS_letterIn (ad := (fun i => ad (7 + i))) (cA := cA) (zInj_sh (k := 7) (n := 2) hI (by decide)) x1 (V_stage u) h1) (cwX7_316 C.1.2.2.2.2 rfl rfl ⟨hdm, by have := hdm; simp only [zRm]; omega⟩) hd rfl rfl h8 ⟨_, rfl, rfl⟩ (List.mem_of_getElem? (heV_stage cA ad _ _ _ u)) inV_stage (fun _ h => h.elim) zJ_ro (g q h2)
theorem xV_X7_319 {p : Program} {l : Launch} {e : Env} {s : State} {m : MethodId} {args : Array Value} {below : List Frame} {meth : Method} {c : Code} {Q : State → Prop} {D : va_G} {A : Nat → Prop} {cc : ByteArray} {nL : Nat} {lv : List (Nat × Value)} {pc : Nat} {st : List Value} {cA : Nat → ClassId} {ad : Nat → Nat} {tK tB : Nat} {kS vS : Nat → Nat} {vT vH vA : Value} {d : Nat} {x1 : Int32} {x2 : Int32} {x3 : Int32} {x4 : Int32} {x5 : Int32} {u : SV} (hI : zInj ad 80) (C : zC p s m args meth c cc nL RX7 zTS D (zTy cA) A (zE tK tB kS vS)) (hdm : 0 + 1 ≤ d) (hA : ∀ q, zAd ad 80 q → A q) {β : Type} {f : ((Nat → Int32)) → Option β} {o : β} (hm : (mK_ask x1 x2 x3 x4 x5 (V_look u)).bind f = some o) (hd : decode cc pc = .ok (.invokevirtual 319, 3)) (h8 : (st.map fun v => v.category).sum ≤ 8) (g : ∀ q, f q = some o → zG p l e (zRm d) s m args below meth c nL D A Q (wV cA ad vT vH vA (V_set_look (K_put_facts q (V_look u)) u)) lv (pc + 3) (st)) : zG p l e (zRm d) s m args below meth c nL D A Q (wV cA ad vT vH vA u) lv pc (.int x5 :: .int x4 :: .int x3 :: .int x2 :: .int x1 :: .ref (ad 14) :: st) := by
  obtain ⟨q, h1, h2⟩ := zb_some hm
  exact z_callvV C (cK_ask (ad := (fun i => ad (14 + i))) (cA := cA) (zInj_sh (k := 14) (n := 2) hI (by decide)) x1 x2 x3 x4 x5 (V_look u) h1) (cwX7_319 C.1.2.2.2.2 rfl rfl ⟨hdm, by have := hdm; simp only [zRm]; omega⟩) hd rfl rfl h8 ⟨_, rfl, rfl⟩ (List.mem_of_getElem? (heV_look cA ad _ _ _ u)) inV_look (fun q h => hA q (zAd_sh (k := 14) (n := 2) (by omega) q h)) (zJV_blk (k := 14) (n := 2) hI (by decide) rfl) (g q h2)
def V_put_look (p : SK) (u : SV) : SV := (u.1, (u.2.1, ((u.2.2.1.1, p), u.2.2.2)))
theorem gV_X7_323_look {p : Program} {l : Launch} {e : Env} {R : Room} {s : State} {m : MethodId} {args : Array Value} {below : List Frame} {meth : Method} {c : Code} {Q : State → Prop} {D : va_G} {A : Nat → Prop} {cc : ByteArray} {nL : Nat} {lv : List (Nat × Value)} {pc : Nat} {st : List Value} {cA : Nat → ClassId} {ad : Nat → Nat} {tK tB : Nat} {kS vS : Nat → Nat} {vT vH vA : Value} {u : SV} (C : zC p s m args meth c cc nL RX7 zTS D (zTy cA) A (zE tK tB kS vS)) (hd : decode cc pc = .ok (.getfield 323, 3)) (g : zG p l e R s m args below meth c nL D A Q (wV cA ad vT vH vA u) lv (pc + 3) (.ref (ad 15) :: st)) : zG p l e R s m args below meth c nL D A Q (wV cA ad vT vH vA u) lv pc (.ref (ad 14) :: st) := by
  exact fun H locs ls hP hS hL => va_get (D := D) (ci := 2) (C := RX2) (T := TX2) (N := 8) C.1.1 C.1.2.1 C.1.2.2.2.2 inlX2 C.1.2.2.2.1 C.2.1 hP 14 (heV_look cA ad vT vH vA u) rfl 0 (by decide) (C.1.2.2.2.2 _ mfX7_323) (fun _ h9 => h9) (v := .ref (ad 15)) rfl hd (g H locs ls hP hS hL)
theorem xV_X7_326 {p : Program} {l : Launch} {e : Env} {s : State} {m : MethodId} {args : Array Value} {below : List Frame} {meth : Method} {c : Code} {Q : State → Prop} {D : va_G} {A : Nat → Prop} {cc : ByteArray} {nL : Nat} {lv : List (Nat × Value)} {pc : Nat} {st : List Value} {cA : Nat → ClassId} {ad : Nat → Nat} {tK tB : Nat} {kS vS : Nat → Nat} {vT vH vA : Value} {d : Nat} {x1 : Int32} {u : SV} {K : Nat} (hK : K < 6) (hI : zInj ad 80) (C : zC p s m args meth c cc nL RX7 zTS D (zTy cA) A (zE tK tB kS vS)) (hdm : 2 + 1 ≤ d) {β : Type} {f : Int32 → Option β} {o : β} (hm : (mHF_unsure x1 (V_toHF u K)).bind f = some o) (hd : decode cc pc = .ok (.invokevirtual 326, 3)) (h8 : (st.map fun v => v.category).sum ≤ 8) (g : ∀ q, f q = some o → zG p l e (zRm d) s m args below meth c nL D A Q (wV cA ad vT vH vA u) lv (pc + 3) (.int q :: st)) : zG p l e (zRm d) s m args below meth c nL D A Q (wV cA ad vT vH vA u) lv pc (.ref (ad 15) :: .int x1 :: .ref (ad (16 + 7 * K)) :: st) := by
  obtain ⟨q, h1, h2⟩ := zb_some hm
  exact z_calliV C (cHF_unsure (ad := (adHF ad K)) (cA := cA) (zInj_HF hI hK) x1 (V_toHF u K) h1) (cwX7_326 C.1.2.2.2.2 rfl rfl ⟨hdm, by have := hdm; simp only [zRm]; omega⟩) hd rfl rfl h8 ⟨_, rfl, rfl⟩ (inV_h (cA := cA) hK _ (List.mem_of_getElem? (i := 0) rfl)) (inV_HF hK) (fun _ h => h.elim) zJ_ro (g q h2)
theorem xV_X7_330 {p : Program} {l : Launch} {e : Env} {s : State} {m : MethodId} {args : Array Value} {below : List Frame} {meth : Method} {c : Code} {Q : State → Prop} {D : va_G} {A : Nat → Prop} {cc : ByteArray} {nL : Nat} {lv : List (Nat × Value)} {pc : Nat} {st : List Value} {cA : Nat → ClassId} {ad : Nat → Nat} {tK tB : Nat} {kS vS : Nat → Nat} {vT vH vA : Value} {d : Nat} {x1 : Int32} {u : SV} {a : Nat} (ha : a < V_nv u) (hI : zInj ad 80) (C : zC p s m args meth c cc nL RX7 zTS D (zTy cA) A (zE tK tB kS vS)) (hdm : 1 + 1 ≤ d) {β : Type} {f : Int32 → Option β} {o : β} (hm : (mO_earOf x1 (V_vo u a)).bind f = some o) (hd : decode cc pc = .ok (.invokevirtual 330, 3)) (h8 : (st.map fun v => v.category).sum ≤ 8) (g : ∀ q, f q = some o → zG p l e (zRm d) s m args below meth c nL D A Q (wV cA ad vT vH vA u) lv (pc + 3) (.int q :: st)) : zG p l e (zRm d) s m args below meth c nL D A Q (wV cA ad vT vH vA u) lv pc (.int x1 :: .ref (ad (70 + a)) :: st) := by
  obtain ⟨q, h1, h2⟩ := zb_some hm
  exact z_calliV C (cO_earOf (ad := (fun i => ad (70 + a + i))) (cA := cA) (zInj_sh (k := 70 + a) (n := 1) hI (by have := V_nv_le u; omega)) x1 (V_vo u a) h1) (cwX7_330 C.1.2.2.2.2 rfl rfl ⟨hdm, by have := hdm; simp only [zRm]; omega⟩) hd rfl rfl h8 ⟨_, rfl, rfl⟩ (inV_o (cA := cA) ha _ (List.mem_of_getElem? (i := 0) rfl)) (inV_o ha) (fun _ h => h.elim) zJ_ro (g q h2)
theorem pV_X7_150_look {p : Program} {l : Launch} {e : Env} {R : Room} {s : State} {m : MethodId} {args : Array Value} {below : List Frame} {meth : Method} {c : Code} {Q : State → Prop} {D : va_G} {A : Nat → Prop} {cc : ByteArray} {nL : Nat} {lv : List (Nat × Value)} {pc : Nat} {st : List Value} {cA : Nat → ClassId} {ad : Nat → Nat} {tK tB : Nat} {kS vS : Nat → Nat} {vT vH vA : Value} {u : SV} {v : Int32} (C : zC p s m args meth c cc nL RX7 zTS D (zTy cA) A (zE tK tB kS vS)) (hI : zInj ad 80) (hA : ∀ q, zAd ad 80 q → A q) (hd : decode cc pc = .ok (.putfield 150, 3)) (g : zG p l e R s m args below meth c nL D A Q (wV cA ad vT vH vA (V_set_look (K_set_ear v (V_look u)) u)) lv (pc + 3) (st)) : zG p l e R s m args below meth c nL D A Q (wV cA ad vT vH vA u) lv pc (.int v :: .ref (ad 14) :: st) := fun H locs ls hP hS hL => va_put (D := D) (ci := 2) (C := RX2) (T := TX2) (N := 8) C.1.1 C.1.2.1 C.1.2.2.2.2 inlX2 tyX2 tyX2_ok nmX2 C.1.2.2.2.1 C.2.1 hP (zD_mono (wV_D hI cA vT vH vA u) hA) hS 14 (heV_look cA ad vT vH vA u) rfl 1 (by decide) (C.1.2.2.2.2 _ mfX7_150) (fun _ h9 => h9) rfl (ty := .int) (by decide +kernel) rfl rfl (Nat.le_of_ble_eq_true rfl) hd (fun H1 locs1 hP1 _ hS1 => g H1 locs1 ls hP1 hS1 hL)
theorem pV_X7_153_look {p : Program} {l : Launch} {e : Env} {R : Room} {s : State} {m : MethodId} {args : Array Value} {below : List Frame} {meth : Method} {c : Code} {Q : State → Prop} {D : va_G} {A : Nat → Prop} {cc : ByteArray} {nL : Nat} {lv : List (Nat × Value)} {pc : Nat} {st : List Value} {cA : Nat → ClassId} {ad : Nat → Nat} {tK tB : Nat} {kS vS : Nat → Nat} {vT vH vA : Value} {u : SV} {v : Int32} (C : zC p s m args meth c cc nL RX7 zTS D (zTy cA) A (zE tK tB kS vS)) (hI : zInj ad 80) (hA : ∀ q, zAd ad 80 q → A q) (hd : decode cc pc = .ok (.putfield 153, 3)) (g : zG p l e R s m args below meth c nL D A Q (wV cA ad vT vH vA (V_set_look (K_set_eye v (V_look u)) u)) lv (pc + 3) (st)) : zG p l e R s m args below meth c nL D A Q (wV cA ad vT vH vA u) lv pc (.int v :: .ref (ad 14) :: st) := fun H locs ls hP hS hL => va_put (D := D) (ci := 2) (C := RX2) (T := TX2) (N := 8) C.1.1 C.1.2.1 C.1.2.2.2.2 inlX2 tyX2 tyX2_ok nmX2 C.1.2.2.2.1 C.2.1 hP (zD_mono (wV_D hI cA vT vH vA u) hA) hS 14 (heV_look cA ad vT vH vA u) rfl 2 (by decide) (C.1.2.2.2.2 _ mfX7_153) (fun _ h9 => h9) rfl (ty := .int) (by decide +kernel) rfl rfl (Nat.le_of_ble_eq_true rfl) hd (fun H1 locs1 hP1 _ hS1 => g H1 locs1 ls hP1 hS1 hL)
theorem xV_X7_203 {p : Program} {l : Launch} {e : Env} {s : State} {m : MethodId} {args : Array Value} {below : List Frame} {meth : Method} {c : Code} {Q : State → Prop} {D : va_G} {A : Nat → Prop} {cc : ByteArray} {nL : Nat} {lv : List (Nat × Value)} {pc : Nat} {st : List Value} {cA : Nat → ClassId} {ad : Nat → Nat} {tK tB : Nat} {kS vS : Nat → Nat} {vT vH vA : Value} {d : Nat} {x1 : Int32} {x2 : Int32} {u : SV} {a : Nat} (ha : a < V_nv u) (hI : zInj ad 80) (C : zC p s m args meth c cc nL RX7 zTS D (zTy cA) A (zE tK tB kS vS)) (hdm : 1 + 1 ≤ d) {β : Type} {f : Int32 → Option β} {o : β} (hm : (mO_soundsAt x1 x2 (V_vo u a)).bind f = some o) (hd : decode cc pc = .ok (.invokevirtual 203, 3)) (h8 : (st.map fun v => v.category).sum ≤ 8) (g : ∀ q, f q = some o → zG p l e (zRm d) s m args below meth c nL D A Q (wV cA ad vT vH vA u) lv (pc + 3) (.int q :: st)) : zG p l e (zRm d) s m args below meth c nL D A Q (wV cA ad vT vH vA u) lv pc (.int x2 :: .int x1 :: .ref (ad (70 + a)) :: st) := by
  obtain ⟨q, h1, h2⟩ := zb_some hm
  exact z_calliV C (cO_soundsAt (ad := (fun i => ad (70 + a + i))) (cA := cA) (zInj_sh (k := 70 + a) (n := 1) hI (by have := V_nv_le u; omega)) x1 x2 (V_vo u a) h1) (cwX7_203 C.1.2.2.2.2 rfl rfl ⟨hdm, by have := hdm; simp only [zRm]; omega⟩) hd rfl rfl h8 ⟨_, rfl, rfl⟩ (inV_o (cA := cA) ha _ (List.mem_of_getElem? (i := 0) rfl)) (inV_o ha) (fun _ h => h.elim) zJ_ro (g q h2)
theorem pV_X7_156_look {p : Program} {l : Launch} {e : Env} {R : Room} {s : State} {m : MethodId} {args : Array Value} {below : List Frame} {meth : Method} {c : Code} {Q : State → Prop} {D : va_G} {A : Nat → Prop} {cc : ByteArray} {nL : Nat} {lv : List (Nat × Value)} {pc : Nat} {st : List Value} {cA : Nat → ClassId} {ad : Nat → Nat} {tK tB : Nat} {kS vS : Nat → Nat} {vT vH vA : Value} {u : SV} {v : Int32} (C : zC p s m args meth c cc nL RX7 zTS D (zTy cA) A (zE tK tB kS vS)) (hI : zInj ad 80) (hA : ∀ q, zAd ad 80 q → A q) (hd : decode cc pc = .ok (.putfield 156, 3)) (g : zG p l e R s m args below meth c nL D A Q (wV cA ad vT vH vA (V_set_look (K_set_sounds v (V_look u)) u)) lv (pc + 3) (st)) : zG p l e R s m args below meth c nL D A Q (wV cA ad vT vH vA u) lv pc (.int v :: .ref (ad 14) :: st) := fun H locs ls hP hS hL => va_put (D := D) (ci := 2) (C := RX2) (T := TX2) (N := 8) C.1.1 C.1.2.1 C.1.2.2.2.2 inlX2 tyX2 tyX2_ok nmX2 C.1.2.2.2.1 C.2.1 hP (zD_mono (wV_D hI cA vT vH vA u) hA) hS 14 (heV_look cA ad vT vH vA u) rfl 3 (by decide) (C.1.2.2.2.2 _ mfX7_156) (fun _ h9 => h9) rfl (ty := .int) (by decide +kernel) rfl rfl (Nat.le_of_ble_eq_true rfl) hd (fun H1 locs1 hP1 _ hS1 => g H1 locs1 ls hP1 hS1 hL)
theorem xV_X7_188 {p : Program} {l : Launch} {e : Env} {s : State} {m : MethodId} {args : Array Value} {below : List Frame} {meth : Method} {c : Code} {Q : State → Prop} {D : va_G} {A : Nat → Prop} {cc : ByteArray} {nL : Nat} {lv : List (Nat × Value)} {pc : Nat} {st : List Value} {cA : Nat → ClassId} {ad : Nat → Nat} {tK tB : Nat} {kS vS : Nat → Nat} {vT vH vA : Value} {d : Nat} {a : Nat} {x2 : Int32} {u : SV} (hI : zInj ad 80) (C : zC p s m args meth c cc nL RX7 zTS D (zTy cA) A (zE tK tB kS vS)) (hdm : 1 + 1 ≤ d) {β : Type} {f : Int32 → Option β} {o : β} (hm : (mV_canJoin a x2 u).bind f = some o) (hd : decode cc pc = .ok (.invokevirtual 188, 3)) (h8 : (st.map fun v => v.category).sum ≤ 8) (g : ∀ q, f q = some o → zG p l e (zRm d) s m args below meth c nL D A Q (wV cA ad vT vH vA u) lv (pc + 3) (.int q :: st)) : zG p l e (zRm d) s m args below meth c nL D A Q (wV cA ad vT vH vA u) lv pc (.int x2 :: .ref (ad (70 + a)) :: .ref (ad 0) :: st) := by
  obtain ⟨q, h1, h2⟩ := zb_some hm
  exact z_calliV C (cV_canJoin (ad := ad) (cA := cA) hI x2 u h1) (cwX7_188 C.1.2.2.2.2 rfl rfl ⟨hdm, by have := hdm; simp only [zRm]; omega⟩) hd rfl rfl h8 ⟨_, rfl, rfl⟩ (List.mem_of_getElem? (heV_o cA ad _ _ _ u)) (fun _ h => h) (fun _ h => h.elim) zJ_ro (g q h2)
theorem pV_X7_214_look {p : Program} {l : Launch} {e : Env} {R : Room} {s : State} {m : MethodId} {args : Array Value} {below : List Frame} {meth : Method} {c : Code} {Q : State → Prop} {D : va_G} {A : Nat → Prop} {cc : ByteArray} {nL : Nat} {lv : List (Nat × Value)} {pc : Nat} {st : List Value} {cA : Nat → ClassId} {ad : Nat → Nat} {tK tB : Nat} {kS vS : Nat → Nat} {vT vH vA : Value} {u : SV} {v : Int32} (C : zC p s m args meth c cc nL RX7 zTS D (zTy cA) A (zE tK tB kS vS)) (hI : zInj ad 80) (hA : ∀ q, zAd ad 80 q → A q) (hb : v = 0 ∨ v = 1) (hd : decode cc pc = .ok (.putfield 214, 3)) (g : zG p l e R s m args below meth c nL D A Q (wV cA ad vT vH vA (V_set_look (K_set_inReach v (V_look u)) u)) lv (pc + 3) (st)) : zG p l e R s m args below meth c nL D A Q (wV cA ad vT vH vA u) lv pc (.int v :: .ref (ad 14) :: st) := fun H locs ls hP hS hL => va_put (D := D) (ci := 2) (C := RX2) (T := TX2) (N := 8) C.1.1 C.1.2.1 C.1.2.2.2.2 inlX2 tyX2 tyX2_ok nmX2 C.1.2.2.2.1 C.2.1 hP (zD_mono (wV_D hI cA vT vH vA u) hA) hS 14 (heV_look cA ad vT vH vA u) rfl 4 (by decide) (C.1.2.2.2.2 _ mfX7_214) (fun _ h9 => h9) rfl (ty := .boolean) (by decide +kernel) (zb_nar hb) (zb_fit hb) (Nat.le_of_ble_eq_true rfl) hd (fun H1 locs1 hP1 _ hS1 => g H1 locs1 ls hP1 hS1 hL)
theorem gV_X7_214_look {p : Program} {l : Launch} {e : Env} {R : Room} {s : State} {m : MethodId} {args : Array Value} {below : List Frame} {meth : Method} {c : Code} {Q : State → Prop} {D : va_G} {A : Nat → Prop} {cc : ByteArray} {nL : Nat} {lv : List (Nat × Value)} {pc : Nat} {st : List Value} {cA : Nat → ClassId} {ad : Nat → Nat} {tK tB : Nat} {kS vS : Nat → Nat} {vT vH vA : Value} {u : SV} (C : zC p s m args meth c cc nL RX7 zTS D (zTy cA) A (zE tK tB kS vS)) (hd : decode cc pc = .ok (.getfield 214, 3)) {v : Int32} (hv : K_inReach (V_look u) = v) (g : zG p l e R s m args below meth c nL D A Q (wV cA ad vT vH vA u) lv (pc + 3) (.int v :: st)) : zG p l e R s m args below meth c nL D A Q (wV cA ad vT vH vA u) lv pc (.ref (ad 14) :: st) := by
  subst hv
  exact fun H locs ls hP hS hL => va_get (D := D) (ci := 2) (C := RX2) (T := TX2) (N := 8) C.1.1 C.1.2.1 C.1.2.2.2.2 inlX2 C.1.2.2.2.1 C.2.1 hP 14 (heV_look cA ad vT vH vA u) rfl 4 (by decide) (C.1.2.2.2.2 _ mfX7_214) (fun _ h9 => h9) (v := .int (K_inReach (V_look u))) rfl hd (g H locs ls hP hS hL)
theorem pV_X7_159_look {p : Program} {l : Launch} {e : Env} {R : Room} {s : State} {m : MethodId} {args : Array Value} {below : List Frame} {meth : Method} {c : Code} {Q : State → Prop} {D : va_G} {A : Nat → Prop} {cc : ByteArray} {nL : Nat} {lv : List (Nat × Value)} {pc : Nat} {st : List Value} {cA : Nat → ClassId} {ad : Nat → Nat} {tK tB : Nat} {kS vS : Nat → Nat} {vT vH vA : Value} {u : SV} {v : Int32} (C : zC p s m args meth c cc nL RX7 zTS D (zTy cA) A (zE tK tB kS vS)) (hI : zInj ad 80) (hA : ∀ q, zAd ad 80 q → A q) (hb : v = 0 ∨ v = 1) (hd : decode cc pc = .ok (.putfield 159, 3)) (g : zG p l e R s m args below meth c nL D A Q (wV cA ad vT vH vA (V_set_look (K_set_joined v (V_look u)) u)) lv (pc + 3) (st)) : zG p l e R s m args below meth c nL D A Q (wV cA ad vT vH vA u) lv pc (.int v :: .ref (ad 14) :: st) := fun H locs ls hP hS hL => va_put (D := D) (ci := 2) (C := RX2) (T := TX2) (N := 8) C.1.1 C.1.2.1 C.1.2.2.2.2 inlX2 tyX2 tyX2_ok nmX2 C.1.2.2.2.1 C.2.1 hP (zD_mono (wV_D hI cA vT vH vA u) hA) hS 14 (heV_look cA ad vT vH vA u) rfl 5 (by decide) (C.1.2.2.2.2 _ mfX7_159) (fun _ h9 => h9) rfl (ty := .boolean) (by decide +kernel) (zb_nar hb) (zb_fit hb) (Nat.le_of_ble_eq_true rfl) hd (fun H1 locs1 hP1 _ hS1 => g H1 locs1 ls hP1 hS1 hL)
theorem xV_X7_333 {p : Program} {l : Launch} {e : Env} {s : State} {m : MethodId} {args : Array Value} {below : List Frame} {meth : Method} {c : Code} {Q : State → Prop} {D : va_G} {A : Nat → Prop} {cc : ByteArray} {nL : Nat} {lv : List (Nat × Value)} {pc : Nat} {st : List Value} {cA : Nat → ClassId} {ad : Nat → Nat} {tK tB : Nat} {kS vS : Nat → Nat} {vT vH vA : Value} {d : Nat} {x1 : Int32} {x2 : Int32} {u : SV} (hI : zInj ad 80) (C : zC p s m args meth c cc nL RX7 zTS D (zTy cA) A (zE tK tB kS vS)) (hdm : 1 + 1 ≤ d) (hA : ∀ q, zAd ad 80 q → A q) {β : Type} {f : (Int32 × Int32) → Option β} {o : β} (hm : (mK_holdBetween x1 x2 (V_look u)).bind f = some o) (hd : decode cc pc = .ok (.invokevirtual 333, 3)) (h8 : (st.map fun v => v.category).sum ≤ 8) (g : ∀ q, f q = some o → zG p l e (zRm d) s m args below meth c nL D A Q (wV cA ad vT vH vA (V_set_look (K_put_held_caught q (V_look u)) u)) lv (pc + 3) (st)) : zG p l e (zRm d) s m args below meth c nL D A Q (wV cA ad vT vH vA u) lv pc (.int x2 :: .int x1 :: .ref (ad 14) :: st) := by
  obtain ⟨q, h1, h2⟩ := zb_some hm
  exact z_callvV C (cK_holdBetween (ad := (fun i => ad (14 + i))) (cA := cA) (zInj_sh (k := 14) (n := 2) hI (by decide)) x1 x2 (V_look u) h1) (cwX7_333 C.1.2.2.2.2 rfl rfl ⟨hdm, by have := hdm; simp only [zRm]; omega⟩) hd rfl rfl h8 ⟨_, rfl, rfl⟩ (List.mem_of_getElem? (heV_look cA ad _ _ _ u)) inV_look (fun q h => hA q (zAd_sh (k := 14) (n := 2) (by omega) q h)) (zJV_blk (k := 14) (n := 2) hI (by decide) rfl) (g q h2)
theorem gV_X7_86_stage {p : Program} {l : Launch} {e : Env} {R : Room} {s : State} {m : MethodId} {args : Array Value} {below : List Frame} {meth : Method} {c : Code} {Q : State → Prop} {D : va_G} {A : Nat → Prop} {cc : ByteArray} {nL : Nat} {lv : List (Nat × Value)} {pc : Nat} {st : List Value} {cA : Nat → ClassId} {ad : Nat → Nat} {tK tB : Nat} {kS vS : Nat → Nat} {vT vH vA : Value} {u : SV} (C : zC p s m args meth c cc nL RX7 zTS D (zTy cA) A (zE tK tB kS vS)) (hd : decode cc pc = .ok (.getfield 86, 3)) {v : Int64} (hv : S_moving (V_stage u) = v) (g : zG p l e R s m args below meth c nL D A Q (wV cA ad vT vH vA u) lv (pc + 3) (.long v :: st)) : zG p l e R s m args below meth c nL D A Q (wV cA ad vT vH vA u) lv pc (.ref (ad 7) :: st) := by
  subst hv
  exact fun H locs ls hP hS hL => va_get (D := D) (ci := 4) (C := RX4) (T := TX4) (N := 7) C.1.1 C.1.2.1 C.1.2.2.2.2 inlX4 C.1.2.2.2.1 C.2.1 hP 7 (heV_stage cA ad vT vH vA u) rfl 2 (by decide) (C.1.2.2.2.2 _ mfX7_86) (fun _ h9 => h9) (v := .long (S_moving (V_stage u))) rfl hd (g H locs ls hP hS hL)
theorem xV_X7_191 {p : Program} {l : Launch} {e : Env} {s : State} {m : MethodId} {args : Array Value} {below : List Frame} {meth : Method} {c : Code} {Q : State → Prop} {D : va_G} {A : Nat → Prop} {cc : ByteArray} {nL : Nat} {lv : List (Nat × Value)} {pc : Nat} {st : List Value} {cA : Nat → ClassId} {ad : Nat → Nat} {tK tB : Nat} {kS vS : Nat → Nat} {vT vH vA : Value} {d : Nat} {x1 : Int64} {u : SV} {a : Nat} (ha : a < V_nv u) (hI : zInj ad 80) (C : zC p s m args meth c cc nL RX7 zTS D (zTy cA) A (zE tK tB kS vS)) (hdm : 1 + 1 ≤ d) (hd : decode cc pc = .ok (.invokevirtual 191, 3)) (h8 : (st.map fun v => v.category).sum ≤ 8) (g : zG p l e (zRm d) s m args below meth c nL D A Q (wV cA ad vT vH vA u) lv (pc + 3) (.long (mO_movingOf x1 (V_vo u a)) :: st)) : zG p l e (zRm d) s m args below meth c nL D A Q (wV cA ad vT vH vA u) lv pc (.long x1 :: .ref (ad (70 + a)) :: st) :=
  z_calllV C (cO_movingOf (ad := (fun i => ad (70 + a + i))) (cA := cA) (zInj_sh (k := 70 + a) (n := 1) hI (by have := V_nv_le u; omega)) x1 (V_vo u a) rfl) (cwX7_191 C.1.2.2.2.2 rfl rfl ⟨hdm, by have := hdm; simp only [zRm]; omega⟩) hd rfl rfl h8 ⟨_, rfl, rfl⟩ (inV_o (cA := cA) ha _ (List.mem_of_getElem? (i := 0) rfl)) (inV_o ha) (fun _ h => h.elim) zJ_ro g
theorem xV_X7_195 {p : Program} {l : Launch} {e : Env} {s : State} {m : MethodId} {args : Array Value} {below : List Frame} {meth : Method} {c : Code} {Q : State → Prop} {D : va_G} {A : Nat → Prop} {cc : ByteArray} {nL : Nat} {lv : List (Nat × Value)} {pc : Nat} {st : List Value} {cA : Nat → ClassId} {ad : Nat → Nat} {tK tB : Nat} {kS vS : Nat → Nat} {vT vH vA : Value} {d : Nat} {x1 : Int64} {x3 : Int32} {u : SV} (hI : zInj ad 80) (C : zC p s m args meth c cc nL RX7 zTS D (zTy cA) A (zE tK tB kS vS)) (hdm : 2 + 1 ≤ d) {β : Type} {f : Int32 → Option β} {o : β} (hm : (mV_isMoving x1 x3 u).bind f = some o) (hd : decode cc pc = .ok (.invokevirtual 195, 3)) (h8 : (st.map fun v => v.category).sum ≤ 8) (g : ∀ q, f q = some o → zG p l e (zRm d) s m args below meth c nL D A Q (wV cA ad vT vH vA u) lv (pc + 3) (.int q :: st)) : zG p l e (zRm d) s m args below meth c nL D A Q (wV cA ad vT vH vA u) lv pc (.int x3 :: .long x1 :: .ref (ad 0) :: st) := by
  obtain ⟨q, h1, h2⟩ := zb_some hm
  exact z_calliV C (cV_isMoving (ad := ad) (cA := cA) hI x1 x3 u h1) (cwX7_195 C.1.2.2.2.2 rfl rfl ⟨hdm, by have := hdm; simp only [zRm]; omega⟩) hd rfl rfl h8 ⟨_, rfl, rfl⟩ (List.mem_of_getElem? (heV_o cA ad _ _ _ u)) (fun _ h => h) (fun _ h => h.elim) zJ_ro (g q h2)
theorem gV_X7_156_look {p : Program} {l : Launch} {e : Env} {R : Room} {s : State} {m : MethodId} {args : Array Value} {below : List Frame} {meth : Method} {c : Code} {Q : State → Prop} {D : va_G} {A : Nat → Prop} {cc : ByteArray} {nL : Nat} {lv : List (Nat × Value)} {pc : Nat} {st : List Value} {cA : Nat → ClassId} {ad : Nat → Nat} {tK tB : Nat} {kS vS : Nat → Nat} {vT vH vA : Value} {u : SV} (C : zC p s m args meth c cc nL RX7 zTS D (zTy cA) A (zE tK tB kS vS)) (hd : decode cc pc = .ok (.getfield 156, 3)) {v : Int32} (hv : K_sounds (V_look u) = v) (g : zG p l e R s m args below meth c nL D A Q (wV cA ad vT vH vA u) lv (pc + 3) (.int v :: st)) : zG p l e R s m args below meth c nL D A Q (wV cA ad vT vH vA u) lv pc (.ref (ad 14) :: st) := by
  subst hv
  exact fun H locs ls hP hS hL => va_get (D := D) (ci := 2) (C := RX2) (T := TX2) (N := 8) C.1.1 C.1.2.1 C.1.2.2.2.2 inlX2 C.1.2.2.2.1 C.2.1 hP 14 (heV_look cA ad vT vH vA u) rfl 3 (by decide) (C.1.2.2.2.2 _ mfX7_156) (fun _ h9 => h9) (v := .int (K_sounds (V_look u))) rfl hd (g H locs ls hP hS hL)
theorem xV_X7_199 {p : Program} {l : Launch} {e : Env} {s : State} {m : MethodId} {args : Array Value} {below : List Frame} {meth : Method} {c : Code} {Q : State → Prop} {D : va_G} {A : Nat → Prop} {cc : ByteArray} {nL : Nat} {lv : List (Nat × Value)} {pc : Nat} {st : List Value} {cA : Nat → ClassId} {ad : Nat → Nat} {tK tB : Nat} {kS vS : Nat → Nat} {vT vH vA : Value} {d : Nat} {u : SV} (hI : zInj ad 80) (C : zC p s m args meth c cc nL RX7 zTS D (zTy cA) A (zE tK tB kS vS)) (hdm : 0 + 1 ≤ d) (hd : decode cc pc = .ok (.invokevirtual 199, 3)) (h8 : (st.map fun v => v.category).sum ≤ 8) (g : zG p l e (zRm d) s m args below meth c nL D A Q (wV cA ad vT vH vA u) lv (pc + 3) (.int (mK_reach (V_look u)) :: st)) : zG p l e (zRm d) s m args below meth c nL D A Q (wV cA ad vT vH vA u) lv pc (.ref (ad 14) :: st) :=
  z_calliV C (cK_reach (ad := (fun i => ad (14 + i))) (cA := cA) (zInj_sh (k := 14) (n := 2) hI (by decide))  (V_look u) rfl) (cwX7_199 C.1.2.2.2.2 rfl rfl ⟨hdm, by have := hdm; simp only [zRm]; omega⟩) hd rfl rfl h8 ⟨_, rfl, rfl⟩ (List.mem_of_getElem? (heV_look cA ad _ _ _ u)) inV_look (fun _ h => h.elim) zJ_ro g
def mV_lookAt_J207 (a : Nat) (s1 : Int32) (u : SV) : Option (SK) :=
  zgb s1 ((mK_holdBetween (S_mouth (V_stage u)) (S_jaw (V_stage u)) (K_set_joined s1 (V_look u))).bind fun q10 => (some ((K_put_held_caught q10 (K_set_joined s1 (V_look u))))))
set_option maxRecDepth 100000 in
set_option maxHeartbeats 4000000 in
theorem jV_lookAt_207 {l : Launch} {D : va_G} {cA : Nat → ClassId} {ad : Nat → Nat} {p : Program} {e : Env} {s : State} {m : MethodId} {args : Array Value} {below : List Frame} {meth : Method} {c : Code} {tK tB : Nat} {kS vS : Nat → Nat} {vT : Value} {vH : Value} {vA : Value} {w' : SK}  {a : Nat} {s1 : Int32} {u : SV} (hI : zInj ad 80) (hC : zC p s m args meth c cX7_lookAt 5 RX7 zTS D (zTy cA) (zAd ad 80) (zE tK tB kS vS)) (hr : meth.sig.returnType = (some (.object "FarVoice$Look"))) (hm : mV_lookAt_J207 a s1 u = some w') : zG p l e (zRm 3) s m args below meth c 5 D (zAd ad 80) (MQ below (zQr (ad 14) (zBw D (wV cA ad vT vH vA (V_put_look w' u))) (zAd ad 80)) args s 0 0 (zAd ad 80)) (wV cA ad vT vH vA u) [(0, .ref (ad 0))] 207 [.int s1, .ref (ad 14)] := by
  unfold mV_lookAt_J207 at hm
  refine z_g (zgb_some hm) (fun hb hm => ?_)
  refine pV_X7_159_look hC hI (fun _ h => h) hb dX7_lookAt_207 ?_
  refine zuV (u2 := (V_put_look ((K_set_joined s1 (V_look u))) u)) rfl ?_
  refine z_aload_n hC dX7_lookAt_210 rfl 0 rfl ?_
  refine gV_X7_67_o hC dX7_lookAt_211 ?_
  refine z_aload_n hC dX7_lookAt_214 rfl 0 rfl ?_
  refine gV_X7_12_o hC dX7_lookAt_215 ?_
  refine gV_X7_77_stage (v := (S_mouth (V_stage u))) hC dX7_lookAt_218 rfl ?_
  refine z_aload_n hC dX7_lookAt_221 rfl 0 rfl ?_
  refine gV_X7_12_o hC dX7_lookAt_222 ?_
  refine gV_X7_83_stage (v := (S_jaw (V_stage u))) hC dX7_lookAt_225 rfl ?_
  refine xV_X7_333 hI hC (Nat.le_of_ble_eq_true rfl) (fun _ h => h) hm dX7_lookAt_228 (Nat.le_of_ble_eq_true rfl) (fun q10 hm => ?_)
  refine zuV (u2 := (V_put_look ((K_put_held_caught q10 (K_set_joined s1 (V_look u)))) u)) rfl ?_
  refine z_aload_n hC dX7_lookAt_231 rfl 0 rfl ?_
  refine gV_X7_67_o hC dX7_lookAt_232 ?_
  exact rrV (fin := fun z => V_put_look z u) hC hr dX7_lookAt_235 hm rfl
def mV_lookAt_J206 (a : Nat) (u : SV) : Option (SK) :=
  mV_lookAt_J207 a (0 : Int32) u
set_option maxRecDepth 100000 in
set_option maxHeartbeats 4000000 in
theorem jV_lookAt_206 {l : Launch} {D : va_G} {cA : Nat → ClassId} {ad : Nat → Nat} {p : Program} {e : Env} {s : State} {m : MethodId} {args : Array Value} {below : List Frame} {meth : Method} {c : Code} {tK tB : Nat} {kS vS : Nat → Nat} {vT : Value} {vH : Value} {vA : Value} {w' : SK}  {a : Nat} {u : SV} (hI : zInj ad 80) (hC : zC p s m args meth c cX7_lookAt 5 RX7 zTS D (zTy cA) (zAd ad 80) (zE tK tB kS vS)) (hr : meth.sig.returnType = (some (.object "FarVoice$Look"))) (hm : mV_lookAt_J206 a u = some w') : zG p l e (zRm 3) s m args below meth c 5 D (zAd ad 80) (MQ below (zQr (ad 14) (zBw D (wV cA ad vT vH vA (V_put_look w' u))) (zAd ad 80)) args s 0 0 (zAd ad 80)) (wV cA ad vT vH vA u) [(0, .ref (ad 0))] 206 [.ref (ad 14)] := by
  unfold mV_lookAt_J206 at hm
  refine z_iconst hC dX7_lookAt_206 kI_0 ?_
  refine z_lv hC [0] rfl ?_
  exact jV_lookAt_207 hI hC hr hm
def mV_lookAt_J166 (a : Nat) (x3 : Int32) (s1 : Int32) (u : SV) : Option (SK) :=
  zgb s1 (if (K_inReach (K_set_inReach s1 (V_look u))) = 0 then (mV_lookAt_J206 a (V_put_look ((K_set_inReach s1 (V_look u))) u)) else (zgk a (V_nv (V_put_look ((K_set_inReach s1 (V_look u))) u)) ((mV_isMoving (mO_movingOf (S_moving (V_stage u)) ((V_vo u) a)) x3 (V_put_look ((K_set_inReach s1 (V_look u))) u)).bind fun q11 => (if q11 = 0 then (mV_lookAt_J206 a (V_put_look ((K_set_inReach s1 (V_look u))) u)) else (mV_lookAt_J207 a (1 : Int32) (V_put_look ((K_set_inReach s1 (V_look u))) u))))))
set_option maxRecDepth 100000 in
set_option maxHeartbeats 4000000 in
theorem jV_lookAt_166 {l : Launch} {D : va_G} {cA : Nat → ClassId} {ad : Nat → Nat} {p : Program} {e : Env} {s : State} {m : MethodId} {args : Array Value} {below : List Frame} {meth : Method} {c : Code} {tK tB : Nat} {kS vS : Nat → Nat} {vT : Value} {vH : Value} {vA : Value} {w' : SK}  {a : Nat} {x3 : Int32} {s1 : Int32} {u : SV} (hI : zInj ad 80) (hC : zC p s m args meth c cX7_lookAt 5 RX7 zTS D (zTy cA) (zAd ad 80) (zE tK tB kS vS)) (hr : meth.sig.returnType = (some (.object "FarVoice$Look"))) (hm : mV_lookAt_J166 a x3 s1 u = some w') : zG p l e (zRm 3) s m args below meth c 5 D (zAd ad 80) (MQ below (zQr (ad 14) (zBw D (wV cA ad vT vH vA (V_put_look w' u))) (zAd ad 80)) args s 0 0 (zAd ad 80)) (wV cA ad vT vH vA u) [(0, .ref (ad 0)), (1, .ref (ad (70 + a))), (3, .int x3)] 166 [.int s1, .ref (ad 14)] := by
  unfold mV_lookAt_J166 at hm
  refine z_g (zgb_some hm) (fun hb hm => ?_)
  refine pV_X7_214_look hC hI (fun _ h => h) hb dX7_lookAt_166 ?_
  refine zuV (u2 := (V_put_look ((K_set_inReach s1 (V_look u))) u)) rfl ?_
  refine z_aload_n hC dX7_lookAt_169 rfl 0 rfl ?_
  refine gV_X7_67_o hC dX7_lookAt_170 ?_
  refine z_aload_n hC dX7_lookAt_173 rfl 0 rfl ?_
  refine gV_X7_67_o hC dX7_lookAt_174 ?_
  refine gV_X7_214_look (v := (K_inReach (K_set_inReach s1 (V_look u)))) hC dX7_lookAt_177 rfl ?_
  refine z_if_eq (tgt := 206) hC hm dX7_lookAt_180 (by decide) (fun hm => ?_) (fun hm => ?_)
  · refine z_lv hC [0] rfl ?_
    exact jV_lookAt_206 hI hC hr hm
  · refine z_aload_n hC dX7_lookAt_183 rfl 0 rfl ?_
    refine z_aload_n hC dX7_lookAt_184 rfl 1 rfl ?_
    refine z_aload_n hC dX7_lookAt_185 rfl 0 rfl ?_
    refine gV_X7_12_o hC dX7_lookAt_186 ?_
    refine gV_X7_86_stage (v := (S_moving (V_stage u))) hC dX7_lookAt_189 rfl ?_
    refine z_g (zgk_some hm) (fun ha hm => ?_)
    refine xV_X7_191 ha hI hC (Nat.le_of_ble_eq_true rfl) dX7_lookAt_192 (Nat.le_of_ble_eq_true rfl) ?_
    refine z_iload_n hC dX7_lookAt_195 rfl 2 rfl ?_
    refine xV_X7_195 hI hC (Nat.le_of_ble_eq_true rfl) hm dX7_lookAt_196 (Nat.le_of_ble_eq_true rfl) (fun q11 hm => ?_)
    refine z_if_eq (tgt := 206) hC hm dX7_lookAt_199 (by decide) (fun hm => ?_) (fun hm => ?_)
    · refine z_lv hC [0] rfl ?_
      exact jV_lookAt_206 hI hC hr hm
    · refine z_iconst hC dX7_lookAt_202 kI_1 ?_
      refine z_goto (tgt := 207) hC dX7_lookAt_203 (by decide) ?_
      refine z_lv hC [0] rfl ?_
      exact jV_lookAt_207 hI hC hr hm
def mV_lookAt_J165 (a : Nat) (x3 : Int32) (u : SV) : Option (SK) :=
  mV_lookAt_J166 a x3 (0 : Int32) u
set_option maxRecDepth 100000 in
set_option maxHeartbeats 4000000 in
theorem jV_lookAt_165 {l : Launch} {D : va_G} {cA : Nat → ClassId} {ad : Nat → Nat} {p : Program} {e : Env} {s : State} {m : MethodId} {args : Array Value} {below : List Frame} {meth : Method} {c : Code} {tK tB : Nat} {kS vS : Nat → Nat} {vT : Value} {vH : Value} {vA : Value} {w' : SK}  {a : Nat} {x3 : Int32} {u : SV} (hI : zInj ad 80) (hC : zC p s m args meth c cX7_lookAt 5 RX7 zTS D (zTy cA) (zAd ad 80) (zE tK tB kS vS)) (hr : meth.sig.returnType = (some (.object "FarVoice$Look"))) (hm : mV_lookAt_J165 a x3 u = some w') : zG p l e (zRm 3) s m args below meth c 5 D (zAd ad 80) (MQ below (zQr (ad 14) (zBw D (wV cA ad vT vH vA (V_put_look w' u))) (zAd ad 80)) args s 0 0 (zAd ad 80)) (wV cA ad vT vH vA u) [(0, .ref (ad 0)), (1, .ref (ad (70 + a))), (3, .int x3)] 165 [.ref (ad 14)] := by
  unfold mV_lookAt_J165 at hm
  refine z_iconst hC dX7_lookAt_165 kI_0 ?_
  refine z_lv hC [0, 1, 2] rfl ?_
  exact jV_lookAt_166 hI hC hr hm
def mV_lookAt (a : Nat) (x2 : Int32) (x3 : Int32) (u : SV) : Option (SK) :=
  zgi x2 8 (zgi x2 8 (zgk a (V_nv u) ((mS_letterIn x3 (V_stage u)).bind fun q1 => ((mK_ask ((V_far u) (x2).toNatClampNeg) (zabs (((V_side u) (x2).toNatClampNeg) - (S_mouth (V_stage u)))) (O_kind ((V_vo u) a)) q1 x3 (V_look u)).bind fun q2 => ((mV_holding (V_put_look ((K_put_facts q2 (V_look u))) u)).bind fun q3 => zgk q3 6 ((mHF_unsure (0 : Int32) (V_toHF (V_put_look ((K_put_facts q2 (V_look u))) u) q3)).bind fun q4 => (zgk a (V_nv (V_put_look ((K_put_facts q2 (V_look u))) u)) <| (mO_earOf q4 ((V_vo u) a)).bind fun q5 => ((mV_holding (V_put_look ((K_set_ear q5 (K_put_facts q2 (V_look u)))) u)).bind fun q6 => zgk q6 6 ((mHF_unsure (1 : Int32) (V_toHF (V_put_look ((K_set_ear q5 (K_put_facts q2 (V_look u)))) u) q6)).bind fun q7 => (zgk a (V_nv (V_put_look ((K_set_eye q7 (K_set_ear q5 (K_put_facts q2 (V_look u))))) u)) <| (mO_soundsAt (S_mouth (V_stage u)) (S_jaw (V_stage u)) ((V_vo u) a)).bind fun q8 => ((mV_canJoin a x3 (V_put_look ((K_set_sounds q8 (K_set_eye q7 (K_set_ear q5 (K_put_facts q2 (V_look u)))))) u)).bind fun q9 => (if q9 = 0 then (mV_lookAt_J165 a x3 (V_put_look ((K_set_sounds q8 (K_set_eye q7 (K_set_ear q5 (K_put_facts q2 (V_look u)))))) u)) else (if (mK_reach (K_set_sounds q8 (K_set_eye q7 (K_set_ear q5 (K_put_facts q2 (V_look u)))))) < (zabs ((S_jaw (V_stage u)) - (K_sounds (K_set_sounds q8 (K_set_eye q7 (K_set_ear q5 (K_put_facts q2 (V_look u)))))))) then (mV_lookAt_J165 a x3 (V_put_look ((K_set_sounds q8 (K_set_eye q7 (K_set_ear q5 (K_put_facts q2 (V_look u)))))) u)) else (mV_lookAt_J166 a x3 (1 : Int32) (V_put_look ((K_set_sounds q8 (K_set_eye q7 (K_set_ear q5 (K_put_facts q2 (V_look u)))))) u)))))))))))))))
set_option maxRecDepth 100000 in
set_option maxHeartbeats 4000000 in
theorem cV_lookAt {l : Launch} {D : va_G} {cA : Nat → ClassId} {ad : Nat → Nat} {tK tB : Nat} {kS vS : Nat → Nat} {vT vH vA : Value} {a : Nat} (hI : zInj ad 80) (x2 : Int32) (x3 : Int32) (u : SV) {w' : SK} (hm : mV_lookAt a x2 x3 u = some w') : Met l yX7_lookAt (zWs yX7_lookAt cX7_lookAt 5 (some (.object "FarVoice$Look"))) (zRm 3) (va_Pc [.ref (ad 0), .ref (ad (70 + a)), .int x2, .int x3] (zPre D (zTy cA) (zE tK tB kS vS) (zAd ad 80) (wV cA ad vT vH vA u))) (zQr (ad 14) (zBw D (wV cA ad vT vH vA (V_put_look w' u))) (zAd ad 80)) 0 0 (zAd ad 80) := by
  refine z_met (lv := [(0, .ref (ad 0)), (1, .ref (ad (70 + a))), (2, .int x2), (3, .int x3)]) plX7 rfl rfl (Nat.le_of_ble_eq_true rfl) rfl ?_
  intro p e s m below meth c hC hr hin
  unfold mV_lookAt at hm
  refine z_aload_n hC dX7_lookAt_0 rfl 0 rfl ?_
  refine gV_X7_25_o hC dX7_lookAt_1 ?_
  refine z_iload_n hC dX7_lookAt_4 rfl 2 rfl ?_
  refine aV_side hC hm dX7_lookAt_5 (fun hm => ?_)
  refine z_aload_n hC dX7_lookAt_6 rfl 0 rfl ?_
  refine gV_X7_12_o hC dX7_lookAt_7 ?_
  refine gV_X7_77_stage (v := (S_mouth (V_stage u))) hC dX7_lookAt_10 rfl ?_
  refine z_isub hC dX7_lookAt_13 ?_
  refine z_abs hC mmX7_206 (Nat.le_of_ble_eq_true rfl) (Nat.le_of_ble_eq_true rfl) dX7_lookAt_14 ?_
  refine z_istore (lv' := [(4, .int (zabs (((V_side u) (x2).toNatClampNeg) - (S_mouth (V_stage u))))), (0, .ref (ad 0)), (1, .ref (ad (70 + a))), (2, .int x2), (3, .int x3)]) hC dX7_lookAt_17 (by decide) rfl ?_
  refine z_aload_n hC dX7_lookAt_19 rfl 1 rfl ?_
  refine gV_X7_67_o hC dX7_lookAt_20 ?_
  refine z_aload_n hC dX7_lookAt_23 rfl 1 rfl ?_
  refine gV_X7_21_o hC dX7_lookAt_24 ?_
  refine z_iload_n hC dX7_lookAt_27 rfl 3 rfl ?_
  refine aV_far hC hm dX7_lookAt_28 (fun hm => ?_)
  refine z_iload hC dX7_lookAt_29 0 rfl ?_
  refine z_aload_n hC dX7_lookAt_31 rfl 2 rfl ?_
  refine z_g (zgk_some hm) (fun ha hm => ?_)
  refine gV_X7_292_voice (v := (O_kind ((V_vo u) a))) ha hC dX7_lookAt_32 rfl ?_
  refine z_aload_n hC dX7_lookAt_35 rfl 1 rfl ?_
  refine gV_X7_12_o hC dX7_lookAt_36 ?_
  refine z_iload_n hC dX7_lookAt_39 rfl 4 rfl ?_
  refine xV_X7_316 hI hC (Nat.le_of_ble_eq_true rfl) hm dX7_lookAt_40 (Nat.le_of_ble_eq_true rfl) (fun q1 hm => ?_)
  refine z_iload_n hC dX7_lookAt_43 rfl 4 rfl ?_
  refine xV_X7_319 hI hC (Nat.le_of_ble_eq_true rfl) (fun _ h => h) hm dX7_lookAt_44 (Nat.le_of_ble_eq_true rfl) (fun q2 hm => ?_)
  refine zuV (u2 := (V_put_look ((K_put_facts q2 (V_look u))) u)) rfl ?_
  refine z_aload_n hC dX7_lookAt_47 rfl 1 rfl ?_
  refine gV_X7_67_o hC dX7_lookAt_48 ?_
  refine z_aload_n hC dX7_lookAt_51 rfl 2 rfl ?_
  refine z_aload_n hC dX7_lookAt_52 rfl 1 rfl ?_
  refine xV_X7_118 hI hC (Nat.le_of_ble_eq_true rfl) hm dX7_lookAt_53 (Nat.le_of_ble_eq_true rfl) (fun q3 hk1 hm => ?_)
  refine z_iconst hC dX7_lookAt_56 kI_0 ?_
  refine z_aload_n hC dX7_lookAt_57 rfl 1 rfl ?_
  refine gV_X7_67_o hC dX7_lookAt_58 ?_
  refine gV_X7_323_look hC dX7_lookAt_61 ?_
  refine xV_X7_326 hk1 hI hC (Nat.le_of_ble_eq_true rfl) hm dX7_lookAt_64 (Nat.le_of_ble_eq_true rfl) (fun q4 hm => ?_)
  refine z_g (zgk_some hm) (fun ha hm => ?_)
  refine xV_X7_330 ha hI hC (Nat.le_of_ble_eq_true rfl) hm dX7_lookAt_67 (Nat.le_of_ble_eq_true rfl) (fun q5 hm => ?_)
  refine pV_X7_150_look hC hI (fun _ h => h) dX7_lookAt_70 ?_
  refine zuV (u2 := (V_put_look ((K_set_ear q5 (K_put_facts q2 (V_look u)))) u)) rfl ?_
  refine z_aload_n hC dX7_lookAt_73 rfl 1 rfl ?_
  refine gV_X7_67_o hC dX7_lookAt_74 ?_
  refine z_aload_n hC dX7_lookAt_77 rfl 1 rfl ?_
  refine xV_X7_118 hI hC (Nat.le_of_ble_eq_true rfl) hm dX7_lookAt_78 (Nat.le_of_ble_eq_true rfl) (fun q6 hk2 hm => ?_)
  refine z_iconst hC dX7_lookAt_81 kI_1 ?_
  refine z_aload_n hC dX7_lookAt_82 rfl 1 rfl ?_
  refine gV_X7_67_o hC dX7_lookAt_83 ?_
  refine gV_X7_323_look hC dX7_lookAt_86 ?_
  refine xV_X7_326 hk2 hI hC (Nat.le_of_ble_eq_true rfl) hm dX7_lookAt_89 (Nat.le_of_ble_eq_true rfl) (fun q7 hm => ?_)
  refine pV_X7_153_look hC hI (fun _ h => h) dX7_lookAt_92 ?_
  refine zuV (u2 := (V_put_look ((K_set_eye q7 (K_set_ear q5 (K_put_facts q2 (V_look u))))) u)) rfl ?_
  refine z_aload_n hC dX7_lookAt_95 rfl 1 rfl ?_
  refine gV_X7_67_o hC dX7_lookAt_96 ?_
  refine z_aload_n hC dX7_lookAt_99 rfl 2 rfl ?_
  refine z_aload_n hC dX7_lookAt_100 rfl 1 rfl ?_
  refine gV_X7_12_o hC dX7_lookAt_101 ?_
  refine gV_X7_77_stage (v := (S_mouth (V_stage u))) hC dX7_lookAt_104 rfl ?_
  refine z_aload_n hC dX7_lookAt_107 rfl 1 rfl ?_
  refine gV_X7_12_o hC dX7_lookAt_108 ?_
  refine gV_X7_83_stage (v := (S_jaw (V_stage u))) hC dX7_lookAt_111 rfl ?_
  refine z_g (zgk_some hm) (fun ha hm => ?_)
  refine xV_X7_203 ha hI hC (Nat.le_of_ble_eq_true rfl) hm dX7_lookAt_114 (Nat.le_of_ble_eq_true rfl) (fun q8 hm => ?_)
  refine pV_X7_156_look hC hI (fun _ h => h) dX7_lookAt_117 ?_
  refine zuV (u2 := (V_put_look ((K_set_sounds q8 (K_set_eye q7 (K_set_ear q5 (K_put_facts q2 (V_look u)))))) u)) rfl ?_
  refine z_aload_n hC dX7_lookAt_120 rfl 1 rfl ?_
  refine gV_X7_67_o hC dX7_lookAt_121 ?_
  refine z_aload_n hC dX7_lookAt_124 rfl 1 rfl ?_
  refine z_aload_n hC dX7_lookAt_125 rfl 2 rfl ?_
  refine z_iload_n hC dX7_lookAt_126 rfl 4 rfl ?_
  refine xV_X7_188 hI hC (Nat.le_of_ble_eq_true rfl) hm dX7_lookAt_127 (Nat.le_of_ble_eq_true rfl) (fun q9 hm => ?_)
  refine z_if_eq (tgt := 165) hC hm dX7_lookAt_130 (by decide) (fun hm => ?_) (fun hm => ?_)
  · refine z_lv hC [1, 2, 4] rfl ?_
    exact jV_lookAt_165 hI hC hr hm
  · refine z_aload_n hC dX7_lookAt_133 rfl 1 rfl ?_
    refine gV_X7_12_o hC dX7_lookAt_134 ?_
    refine gV_X7_83_stage (v := (S_jaw (V_stage u))) hC dX7_lookAt_137 rfl ?_
    refine z_aload_n hC dX7_lookAt_140 rfl 1 rfl ?_
    refine gV_X7_67_o hC dX7_lookAt_141 ?_
    refine gV_X7_156_look (v := (K_sounds (K_set_sounds q8 (K_set_eye q7 (K_set_ear q5 (K_put_facts q2 (V_look u))))))) hC dX7_lookAt_144 rfl ?_
    refine z_isub hC dX7_lookAt_147 ?_
    refine z_abs hC mmX7_206 (Nat.le_of_ble_eq_true rfl) (Nat.le_of_ble_eq_true rfl) dX7_lookAt_148 ?_
    refine z_aload_n hC dX7_lookAt_151 rfl 1 rfl ?_
    refine gV_X7_67_o hC dX7_lookAt_152 ?_
    refine xV_X7_199 hI hC (Nat.le_of_ble_eq_true rfl) dX7_lookAt_155 (Nat.le_of_ble_eq_true rfl) ?_
    refine z_icmp_gt (tgt := 165) hC hm dX7_lookAt_158 (by decide) (fun hm => ?_) (fun hm => ?_)
    · refine z_lv hC [1, 2, 4] rfl ?_
      exact jV_lookAt_165 hI hC hr hm
    · refine z_iconst hC dX7_lookAt_161 kI_1 ?_
      refine z_goto (tgt := 166) hC dX7_lookAt_162 (by decide) ?_
      refine z_lv hC [1, 2, 4] rfl ?_
      exact jV_lookAt_166 hI hC hr hm
theorem xV_X7_139 {p : Program} {l : Launch} {e : Env} {s : State} {m : MethodId} {args : Array Value} {below : List Frame} {meth : Method} {c : Code} {Q : State → Prop} {D : va_G} {A : Nat → Prop} {cc : ByteArray} {nL : Nat} {lv : List (Nat × Value)} {pc : Nat} {st : List Value} {cA : Nat → ClassId} {ad : Nat → Nat} {tK tB : Nat} {kS vS : Nat → Nat} {vT vH vA : Value} {d : Nat} {x1 : Int32} {u : SV} (hI : zInj ad 80) (C : zC p s m args meth c cc nL RX7 zTS D (zTy cA) A (zE tK tB kS vS)) (hdm : 0 + 1 ≤ d) {β : Type} {nn : Option β} {ss : Nat → Option β} {o : β} (hm : (mV_voiceAt x1 u).bind (fun q => zcs q nn ss) = some o) (hd : decode cc pc = .ok (.invokevirtual 139, 3)) (h8 : (st.map fun v => v.category).sum ≤ 8) (gn : nn = some o → zG p l e (zRm d) s m args below meth c nL D A Q (wV cA ad vT vH vA u) lv (pc + 3) (.null :: st)) (gs : ∀ a, ss a = some o → zG p l e (zRm d) s m args below meth c nL D A Q (wV cA ad vT vH vA u) lv (pc + 3) (.ref (ad (70 + a)) :: st)) : zG p l e (zRm d) s m args below meth c nL D A Q (wV cA ad vT vH vA u) lv pc (.int x1 :: .ref (ad 0) :: st) := by
  obtain ⟨q, h1, h2⟩ := zb_some hm
  cases q with
  | none => exact z_callqV (r := none) C (cV_voiceAt hI x1 u h1) (cwX7_139 C.1.2.2.2.2 rfl rfl ⟨hdm, by have := hdm; simp only [zRm]; omega⟩) hd rfl rfl h8 ⟨_, rfl, rfl⟩ (List.mem_of_getElem? (heV_o cA ad _ _ _ u)) (fun _ h => h) (fun _ h => h.elim) zJ_ro (gn h2)
  | some a => exact z_callqV (r := some (ad (70 + a))) C (cV_voiceAt hI x1 u h1) (cwX7_139 C.1.2.2.2.2 rfl rfl ⟨hdm, by have := hdm; simp only [zRm]; omega⟩) hd rfl rfl h8 ⟨_, rfl, rfl⟩ (List.mem_of_getElem? (heV_o cA ad _ _ _ u)) (fun _ h => h) (fun _ h => h.elim) zJ_ro (gs a h2)
theorem xV_X7_143 {p : Program} {l : Launch} {e : Env} {s : State} {m : MethodId} {args : Array Value} {below : List Frame} {meth : Method} {c : Code} {Q : State → Prop} {D : va_G} {A : Nat → Prop} {cc : ByteArray} {nL : Nat} {lv : List (Nat × Value)} {pc : Nat} {st : List Value} {cA : Nat → ClassId} {ad : Nat → Nat} {tK tB : Nat} {kS vS : Nat → Nat} {vT vH vA : Value} {d : Nat} {x0 : Int32} {u : SV} (hI : zInj ad 80) (C : zC p s m args meth c cc nL RX7 zTS D (zTy cA) A (zE tK tB kS vS)) (hdm : 0 + 1 ≤ d) (hd : decode cc pc = .ok (.invokestatic 143, 3)) (h8 : (st.map fun v => v.category).sum ≤ 8) (g : zG p l e (zRm d) s m args below meth c nL D A Q (wV cA ad vT vH vA u) lv (pc + 3) (.int (mN_isTenth x0) :: st)) : zG p l e (zRm d) s m args below meth c nL D A Q (wV cA ad vT vH vA u) lv pc (.int x0 :: st) :=
  z_calliS C (cN_isTenth (ad := (fun i => i)) (cA := cA) zInj0 x0 () rfl) (cwX7_143 C.1.2.2.2.2 rfl rfl ⟨hdm, by have := hdm; simp only [zRm]; omega⟩) hd rfl rfl h8 (fun _ h => nomatch h) (fun _ h => h.elim) zJ_ro g
theorem xV_X7_146 {p : Program} {l : Launch} {e : Env} {s : State} {m : MethodId} {args : Array Value} {below : List Frame} {meth : Method} {c : Code} {Q : State → Prop} {D : va_G} {A : Nat → Prop} {cc : ByteArray} {nL : Nat} {lv : List (Nat × Value)} {pc : Nat} {st : List Value} {cA : Nat → ClassId} {ad : Nat → Nat} {tK tB : Nat} {kS vS : Nat → Nat} {vT vH vA : Value} {d : Nat} {a : Nat} {x2 : Int32} {x3 : Int32} {u : SV} (hI : zInj ad 80) (C : zC p s m args meth c cc nL RX7 zTS D (zTy cA) A (zE tK tB kS vS)) (hdm : 3 + 1 ≤ d) (hA : ∀ q, zAd ad 80 q → A q) {β : Type} {f : (SK) → Option β} {o : β} (hm : (mV_lookAt a x2 x3 u).bind f = some o) (hd : decode cc pc = .ok (.invokevirtual 146, 3)) (h8 : (st.map fun v => v.category).sum ≤ 8) (g : ∀ q, f q = some o → zG p l e (zRm d) s m args below meth c nL D A Q (wV cA ad vT vH vA (V_put_look q u)) lv (pc + 3) (.ref (ad 14) :: st)) : zG p l e (zRm d) s m args below meth c nL D A Q (wV cA ad vT vH vA u) lv pc (.int x3 :: .int x2 :: .ref (ad (70 + a)) :: .ref (ad 0) :: st) := by
  obtain ⟨q, h1, h2⟩ := zb_some hm
  exact z_callrV C (cV_lookAt (ad := ad) (cA := cA) hI x2 x3 u h1) (cwX7_146 C.1.2.2.2.2 rfl rfl ⟨hdm, by have := hdm; simp only [zRm]; omega⟩) hd rfl rfl h8 ⟨_, rfl, rfl⟩ (List.mem_of_getElem? (heV_o cA ad _ _ _ u)) (fun _ h => h) hA zJ_same (g q h2)
theorem gV_X7_150_look {p : Program} {l : Launch} {e : Env} {R : Room} {s : State} {m : MethodId} {args : Array Value} {below : List Frame} {meth : Method} {c : Code} {Q : State → Prop} {D : va_G} {A : Nat → Prop} {cc : ByteArray} {nL : Nat} {lv : List (Nat × Value)} {pc : Nat} {st : List Value} {cA : Nat → ClassId} {ad : Nat → Nat} {tK tB : Nat} {kS vS : Nat → Nat} {vT vH vA : Value} {u : SV} (C : zC p s m args meth c cc nL RX7 zTS D (zTy cA) A (zE tK tB kS vS)) (hd : decode cc pc = .ok (.getfield 150, 3)) {v : Int32} (hv : K_ear (V_look u) = v) (g : zG p l e R s m args below meth c nL D A Q (wV cA ad vT vH vA u) lv (pc + 3) (.int v :: st)) : zG p l e R s m args below meth c nL D A Q (wV cA ad vT vH vA u) lv pc (.ref (ad 14) :: st) := by
  subst hv
  exact fun H locs ls hP hS hL => va_get (D := D) (ci := 2) (C := RX2) (T := TX2) (N := 8) C.1.1 C.1.2.1 C.1.2.2.2.2 inlX2 C.1.2.2.2.1 C.2.1 hP 14 (heV_look cA ad vT vH vA u) rfl 1 (by decide) (C.1.2.2.2.2 _ mfX7_150) (fun _ h9 => h9) (v := .int (K_ear (V_look u))) rfl hd (g H locs ls hP hS hL)
theorem gV_X7_153_look {p : Program} {l : Launch} {e : Env} {R : Room} {s : State} {m : MethodId} {args : Array Value} {below : List Frame} {meth : Method} {c : Code} {Q : State → Prop} {D : va_G} {A : Nat → Prop} {cc : ByteArray} {nL : Nat} {lv : List (Nat × Value)} {pc : Nat} {st : List Value} {cA : Nat → ClassId} {ad : Nat → Nat} {tK tB : Nat} {kS vS : Nat → Nat} {vT vH vA : Value} {u : SV} (C : zC p s m args meth c cc nL RX7 zTS D (zTy cA) A (zE tK tB kS vS)) (hd : decode cc pc = .ok (.getfield 153, 3)) {v : Int32} (hv : K_eye (V_look u) = v) (g : zG p l e R s m args below meth c nL D A Q (wV cA ad vT vH vA u) lv (pc + 3) (.int v :: st)) : zG p l e R s m args below meth c nL D A Q (wV cA ad vT vH vA u) lv pc (.ref (ad 14) :: st) := by
  subst hv
  exact fun H locs ls hP hS hL => va_get (D := D) (ci := 2) (C := RX2) (T := TX2) (N := 8) C.1.1 C.1.2.1 C.1.2.2.2.2 inlX2 C.1.2.2.2.1 C.2.1 hP 14 (heV_look cA ad vT vH vA u) rfl 2 (by decide) (C.1.2.2.2.2 _ mfX7_153) (fun _ h9 => h9) (v := .int (K_eye (V_look u))) rfl hd (g H locs ls hP hS hL)
theorem gV_X7_159_look {p : Program} {l : Launch} {e : Env} {R : Room} {s : State} {m : MethodId} {args : Array Value} {below : List Frame} {meth : Method} {c : Code} {Q : State → Prop} {D : va_G} {A : Nat → Prop} {cc : ByteArray} {nL : Nat} {lv : List (Nat × Value)} {pc : Nat} {st : List Value} {cA : Nat → ClassId} {ad : Nat → Nat} {tK tB : Nat} {kS vS : Nat → Nat} {vT vH vA : Value} {u : SV} (C : zC p s m args meth c cc nL RX7 zTS D (zTy cA) A (zE tK tB kS vS)) (hd : decode cc pc = .ok (.getfield 159, 3)) {v : Int32} (hv : K_joined (V_look u) = v) (g : zG p l e R s m args below meth c nL D A Q (wV cA ad vT vH vA u) lv (pc + 3) (.int v :: st)) : zG p l e R s m args below meth c nL D A Q (wV cA ad vT vH vA u) lv pc (.ref (ad 14) :: st) := by
  subst hv
  exact fun H locs ls hP hS hL => va_get (D := D) (ci := 2) (C := RX2) (T := TX2) (N := 8) C.1.1 C.1.2.1 C.1.2.2.2.2 inlX2 C.1.2.2.2.1 C.2.1 hP 14 (heV_look cA ad vT vH vA u) rfl 5 (by decide) (C.1.2.2.2.2 _ mfX7_159) (fun _ h9 => h9) (v := .int (K_joined (V_look u))) rfl hd (g H locs ls hP hS hL)
theorem gV_X7_163_look {p : Program} {l : Launch} {e : Env} {R : Room} {s : State} {m : MethodId} {args : Array Value} {below : List Frame} {meth : Method} {c : Code} {Q : State → Prop} {D : va_G} {A : Nat → Prop} {cc : ByteArray} {nL : Nat} {lv : List (Nat × Value)} {pc : Nat} {st : List Value} {cA : Nat → ClassId} {ad : Nat → Nat} {tK tB : Nat} {kS vS : Nat → Nat} {vT vH vA : Value} {u : SV} (C : zC p s m args meth c cc nL RX7 zTS D (zTy cA) A (zE tK tB kS vS)) (hd : decode cc pc = .ok (.getfield 163, 3)) {v : Int32} (hv : K_held (V_look u) = v) (g : zG p l e R s m args below meth c nL D A Q (wV cA ad vT vH vA u) lv (pc + 3) (.int v :: st)) : zG p l e R s m args below meth c nL D A Q (wV cA ad vT vH vA u) lv pc (.ref (ad 14) :: st) := by
  subst hv
  exact fun H locs ls hP hS hL => va_get (D := D) (ci := 2) (C := RX2) (T := TX2) (N := 8) C.1.1 C.1.2.1 C.1.2.2.2.2 inlX2 C.1.2.2.2.1 C.2.1 hP 14 (heV_look cA ad vT vH vA u) rfl 6 (by decide) (C.1.2.2.2.2 _ mfX7_163) (fun _ h9 => h9) (v := .int (K_held (V_look u))) rfl hd (g H locs ls hP hS hL)
theorem gV_X7_166_look {p : Program} {l : Launch} {e : Env} {R : Room} {s : State} {m : MethodId} {args : Array Value} {below : List Frame} {meth : Method} {c : Code} {Q : State → Prop} {D : va_G} {A : Nat → Prop} {cc : ByteArray} {nL : Nat} {lv : List (Nat × Value)} {pc : Nat} {st : List Value} {cA : Nat → ClassId} {ad : Nat → Nat} {tK tB : Nat} {kS vS : Nat → Nat} {vT vH vA : Value} {u : SV} (C : zC p s m args meth c cc nL RX7 zTS D (zTy cA) A (zE tK tB kS vS)) (hd : decode cc pc = .ok (.getfield 166, 3)) {v : Int32} (hv : K_caught (V_look u) = v) (g : zG p l e R s m args below meth c nL D A Q (wV cA ad vT vH vA u) lv (pc + 3) (.int v :: st)) : zG p l e R s m args below meth c nL D A Q (wV cA ad vT vH vA u) lv pc (.ref (ad 14) :: st) := by
  subst hv
  exact fun H locs ls hP hS hL => va_get (D := D) (ci := 2) (C := RX2) (T := TX2) (N := 8) C.1.1 C.1.2.1 C.1.2.2.2.2 inlX2 C.1.2.2.2.1 C.2.1 hP 14 (heV_look cA ad vT vH vA u) rfl 7 (by decide) (C.1.2.2.2.2 _ mfX7_166) (fun _ h9 => h9) (v := .int (K_caught (V_look u))) rfl hd (g H locs ls hP hS hL)
def mV_held (x1 : Int32) (x2 : Int32) (x3 : Int32) (x4 : Int32) (u : SV) : Option (Int32 × SK) :=
  (mV_voiceAt x1 u).bind fun v1 => zcs v1 (some ((-1 : Int32), ((V_look u)))) (fun a1 => (if (mV_isSeat x2 u) = 0 then (some ((-1 : Int32), ((V_look u)))) else (if (mN_isTenth x3) = 0 then (some ((-1 : Int32), ((V_look u)))) else ((mV_lookAt a1 x2 x3 u).bind fun q2 => (if x4 = (0 : Int32) then (some ((K_ear q2), (q2))) else (if x4 = (1 : Int32) then (some ((K_eye q2), (q2))) else (if x4 = (2 : Int32) then (some ((K_sounds q2), (q2))) else (if x4 = (3 : Int32) then (if (K_joined q2) = 0 then (some ((0 : Int32), (q2))) else (some ((1 : Int32), (q2)))) else (if x4 = (4 : Int32) then (some ((K_held q2), (q2))) else (if x4 = (5 : Int32) then (if (K_caught q2) = 0 then (some ((0 : Int32), (q2))) else (some ((1 : Int32), (q2)))) else (some ((-1 : Int32), (q2)))))))))))))
set_option maxRecDepth 100000 in
set_option maxHeartbeats 4000000 in
theorem cV_held {l : Launch} {D : va_G} {cA : Nat → ClassId} {ad : Nat → Nat} {tK tB : Nat} {kS vS : Nat → Nat} {vT vH vA : Value} (hI : zInj ad 80) (x1 : Int32) (x2 : Int32) (x3 : Int32) (x4 : Int32) (u : SV) {r : Int32} {w' : SK} (hm : mV_held x1 x2 x3 x4 u = some (r, w')) : Met l yX7_held (zWs yX7_held cX7_held 7 (some .int)) (zRm 4) (va_Pc [.ref (ad 0), .int x1, .int x2, .int x3, .int x4] (zPre D (zTy cA) (zE tK tB kS vS) (zAd ad 80) (wV cA ad vT vH vA u))) (zQi r (zBw D (wV cA ad vT vH vA (V_put_look w' u))) (zAd ad 80)) 0 0 (zAd ad 80) := by
  refine z_met (lv := [(0, .ref (ad 0)), (1, .int x1), (2, .int x2), (3, .int x3), (4, .int x4)]) plX7 rfl rfl (Nat.le_of_ble_eq_true rfl) rfl ?_
  intro p e s m below meth c hC hr hin
  unfold mV_held at hm
  refine z_aload_n hC dX7_held_0 rfl 0 rfl ?_
  refine z_iload_n hC dX7_held_1 rfl 1 rfl ?_
  refine xV_X7_139 hI hC (Nat.le_of_ble_eq_true rfl) hm dX7_held_2 (Nat.le_of_ble_eq_true rfl) (fun hm => ?_) (fun a1 hm => ?_)
  · refine z_astoreN (lv' := [(5, .null), (0, .ref (ad 0)), (1, .int x1), (2, .int x2), (3, .int x3), (4, .int x4)]) hC dX7_held_5 (by decide) rfl ?_
    refine z_aloadN hC dX7_held_7 0 rfl ?_
    refine z_ifnullN (tgt := 27) hC dX7_held_9 (by decide) ?_
    refine z_iconst hC dX7_held_27 kI_m1 ?_
    exact riV (fin := fun z => V_put_look z u) hC hr rfl dX7_held_28 hm rfl
  · refine z_astore (lv' := [(5, .ref (ad (70 + a1))), (0, .ref (ad 0)), (1, .int x1), (2, .int x2), (3, .int x3), (4, .int x4)]) hC dX7_held_5 (by decide) rfl ?_
    refine z_aload hC dX7_held_7 0 rfl ?_
    refine z_ifnull hC dX7_held_9 ?_
    refine z_aload_n hC dX7_held_12 rfl 1 rfl ?_
    refine z_iload_n hC dX7_held_13 rfl 3 rfl ?_
    refine xV_X7_93 hI hC (Nat.le_of_ble_eq_true rfl) dX7_held_14 (Nat.le_of_ble_eq_true rfl) ?_
    refine z_if_eq (tgt := 27) hC hm dX7_held_17 (by decide) (fun hm => ?_) (fun hm => ?_)
    · refine z_iconst hC dX7_held_27 kI_m1 ?_
      exact riV (fin := fun z => V_put_look z u) hC hr rfl dX7_held_28 hm rfl
    · refine z_iload_n hC dX7_held_20 rfl 4 rfl ?_
      refine xV_X7_143 hI hC (Nat.le_of_ble_eq_true rfl) dX7_held_21 (Nat.le_of_ble_eq_true rfl) ?_
      refine z_if_ne (tgt := 29) hC hm dX7_held_24 (by decide) (fun hm => ?_) (fun hm => ?_)
      · refine z_iconst hC dX7_held_27 kI_m1 ?_
        exact riV (fin := fun z => V_put_look z u) hC hr rfl dX7_held_28 hm rfl
      · refine z_aload_n hC dX7_held_29 rfl 1 rfl ?_
        refine z_aload hC dX7_held_30 0 rfl ?_
        refine z_iload_n hC dX7_held_32 rfl 3 rfl ?_
        refine z_iload_n hC dX7_held_33 rfl 4 rfl ?_
        refine xV_X7_146 hI hC (Nat.le_of_ble_eq_true rfl) (fun _ h => h) hm dX7_held_34 (Nat.le_of_ble_eq_true rfl) (fun q2 hm => ?_)
        refine zuV (u2 := (V_put_look (q2) u)) rfl ?_
        refine z_astore (lv' := [(6, .ref (ad 14)), (5, .ref (ad (70 + a1))), (0, .ref (ad 0)), (1, .int x1), (2, .int x2), (3, .int x3), (4, .int x4)]) hC dX7_held_37 (by decide) rfl ?_
        refine z_iload hC dX7_held_39 6 rfl ?_
        refine z_ite hm (fun h41_0 hm => ?_) (fun h41_0 hm => ?_)
        · refine z_tin hC dX7_held_41 h41_0 kc_0 (by decide) (by decide) (off := 39) rfl (tgt := 80) (by decide) ?_
          refine z_aload hC dX7_held_80 0 rfl ?_
          refine gV_X7_150_look (v := (K_ear q2)) hC dX7_held_82 rfl ?_
          exact riV (fin := fun z => V_put_look z u) hC hr rfl dX7_held_85 hm rfl
        · refine z_ite hm (fun h41_1 hm => ?_) (fun h41_1 hm => ?_)
          · refine z_tin hC dX7_held_41 h41_1 kc_1 (by decide) (by decide) (off := 45) rfl (tgt := 86) (by decide) ?_
            refine z_aload hC dX7_held_86 0 rfl ?_
            refine gV_X7_153_look (v := (K_eye q2)) hC dX7_held_88 rfl ?_
            exact riV (fin := fun z => V_put_look z u) hC hr rfl dX7_held_91 hm rfl
          · refine z_ite hm (fun h41_2 hm => ?_) (fun h41_2 hm => ?_)
            · refine z_tin hC dX7_held_41 h41_2 kc_2 (by decide) (by decide) (off := 51) rfl (tgt := 92) (by decide) ?_
              refine z_aload hC dX7_held_92 0 rfl ?_
              refine gV_X7_156_look (v := (K_sounds q2)) hC dX7_held_94 rfl ?_
              exact riV (fin := fun z => V_put_look z u) hC hr rfl dX7_held_97 hm rfl
            · refine z_ite hm (fun h41_3 hm => ?_) (fun h41_3 hm => ?_)
              · refine z_tin hC dX7_held_41 h41_3 kc_3 (by decide) (by decide) (off := 57) rfl (tgt := 98) (by decide) ?_
                refine z_aload hC dX7_held_98 0 rfl ?_
                refine gV_X7_159_look (v := (K_joined q2)) hC dX7_held_100 rfl ?_
                refine z_if_eq (tgt := 110) hC hm dX7_held_103 (by decide) (fun hm => ?_) (fun hm => ?_)
                · refine z_iconst hC dX7_held_110 kI_0 ?_
                  exact riV (fin := fun z => V_put_look z u) hC hr rfl dX7_held_111 hm rfl
                · refine z_iconst hC dX7_held_106 kI_1 ?_
                  refine z_goto (tgt := 111) hC dX7_held_107 (by decide) ?_
                  exact riV (fin := fun z => V_put_look z u) hC hr rfl dX7_held_111 hm rfl
              · refine z_ite hm (fun h41_4 hm => ?_) (fun h41_4 hm => ?_)
                · refine z_tin hC dX7_held_41 h41_4 kc_4 (by decide) (by decide) (off := 71) rfl (tgt := 112) (by decide) ?_
                  refine z_aload hC dX7_held_112 0 rfl ?_
                  refine gV_X7_163_look (v := (K_held q2)) hC dX7_held_114 rfl ?_
                  exact riV (fin := fun z => V_put_look z u) hC hr rfl dX7_held_117 hm rfl
                · refine z_ite hm (fun h41_5 hm => ?_) (fun h41_5 hm => ?_)
                  · refine z_tin hC dX7_held_41 h41_5 kc_5 (by decide) (by decide) (off := 77) rfl (tgt := 118) (by decide) ?_
                    refine z_aload hC dX7_held_118 0 rfl ?_
                    refine gV_X7_166_look (v := (K_caught q2)) hC dX7_held_120 rfl ?_
                    refine z_if_eq (tgt := 130) hC hm dX7_held_123 (by decide) (fun hm => ?_) (fun hm => ?_)
                    · refine z_iconst hC dX7_held_130 kI_0 ?_
                      exact riV (fin := fun z => V_put_look z u) hC hr rfl dX7_held_131 hm rfl
                    · refine z_iconst hC dX7_held_126 kI_1 ?_
                      refine z_goto (tgt := 131) hC dX7_held_127 (by decide) ?_
                      exact riV (fin := fun z => V_put_look z u) hC hr rfl dX7_held_131 hm rfl
                  · refine z_tout (n := 6) hC dX7_held_41 (z_allc (z_tneq kc_0 h41_0) (z_allc (z_tneq kc_1 h41_1) (z_allc (z_tneq kc_2 h41_2) (z_allc (z_tneq kc_3 h41_3) (z_allc (z_tneq kc_4 h41_4) (z_allc (z_tneq kc_5 h41_5) z_all0)))))) (by decide) (tgt := 132) (by decide) ?_
                    refine z_iconst hC dX7_held_132 kI_m1 ?_
                    exact riV (fin := fun z => V_put_look z u) hC hr rfl dX7_held_133 hm rfl
def mV_isSaid (x1 : Int32) (u : SV) : Int32 :=
  if x1 < 0 then ((0 : Int32)) else (if (S_letters (V_stage u)) ≤ x1 then ((0 : Int32)) else ((1 : Int32)))
theorem bV_isSaid (x1 : Int32) (u : SV) : mV_isSaid x1 u = 0 ∨ mV_isSaid x1 u = 1 := by
  unfold mV_isSaid
  (repeat' split) <;> first | exact Or.inl rfl | exact Or.inr rfl
set_option maxRecDepth 100000 in
set_option maxHeartbeats 4000000 in
theorem cV_isSaid {l : Launch} {D : va_G} {cA : Nat → ClassId} {ad : Nat → Nat} {tK tB : Nat} {kS vS : Nat → Nat} {vT vH vA : Value} (hI : zInj ad 80) (x1 : Int32) (u : SV) {r : Int32} (hm : mV_isSaid x1 u = r) : Met l yX7_isSaid (zWs yX7_isSaid cX7_isSaid 2 (some .boolean)) (zRm 0) (va_Pc [.ref (ad 0), .int x1] (zPre D (zTy cA) (zE tK tB kS vS) zA0 (wV cA ad vT vH vA u))) (zQi r zB0 zA0) 0 0 zA0 := by
  refine z_met (lv := [(0, .ref (ad 0)), (1, .int x1)]) plX7 rfl rfl (Nat.le_of_ble_eq_true rfl) rfl ?_
  intro p e s m below meth c hC hr hin
  unfold mV_isSaid at hm
  refine z_iload_n hC dX7_isSaid_0 rfl 1 rfl ?_
  refine z_if_lt (tgt := 19) hC hm dX7_isSaid_1 (by decide) (fun hm => ?_) (fun hm => ?_)
  · refine z_iconst hC dX7_isSaid_19 kI_0 ?_
    exact z_iret hC hr rfl dX7_isSaid_20 (fun _ _ => trivial) hm
  · refine z_iload_n hC dX7_isSaid_4 rfl 1 rfl ?_
    refine z_aload_n hC dX7_isSaid_5 rfl 0 rfl ?_
    refine gV_X7_12_o hC dX7_isSaid_6 ?_
    refine gV_X7_96_stage (v := (S_letters (V_stage u))) hC dX7_isSaid_9 rfl ?_
    refine z_icmp_ge (tgt := 19) hC hm dX7_isSaid_12 (by decide) (fun hm => ?_) (fun hm => ?_)
    · refine z_iconst hC dX7_isSaid_19 kI_0 ?_
      exact z_iret hC hr rfl dX7_isSaid_20 (fun _ _ => trivial) hm
    · refine z_iconst hC dX7_isSaid_15 kI_1 ?_
      refine z_goto (tgt := 20) hC dX7_isSaid_16 (by decide) ?_
      exact z_iret hC hr rfl dX7_isSaid_20 (fun _ _ => trivial) hm
theorem aV_words {p : Program} {l : Launch} {e : Env} {R : Room} {s : State} {m : MethodId} {args : Array Value} {below : List Frame} {meth : Method} {c : Code} {Q : State → Prop} {D : va_G} {A : Nat → Prop} {cc : ByteArray} {nL : Nat} {lv : List (Nat × Value)} {pc : Nat} {st : List Value} {cA : Nat → ClassId} {ad : Nat → Nat} {tK tB : Nat} {kS vS : Nat → Nat} {vT vH vA : Value} {u : SV} {i : Int32} {β : Type} {k : Option β} {r : β} (C : zC p s m args meth c cc nL RX7 zTS D (zTy cA) A (zE tK tB kS vS)) (hm : zgi i 20 k = some r) (hd : decode cc pc = .ok (.iaload, 1)) (g : k = some r → zG p l e R s m args below meth c nL D A Q (wV cA ad vT vH vA u) lv (pc + 1) (.int (S_words (V_stage u) i.toNatClampNeg) :: st)) : zG p l e R s m args below meth c nL D A Q (wV cA ad vT vH vA u) lv pc (.int i :: .ref (ad 8) :: st) := fun H locs ls hP hS hL => va_iald C.1.1 C.1.2.1 C.2.1 hP 8 0 (heV_words cA ad vT vH vA u) rfl (zgi_some hm).1 hd (g (zgi_some hm).2 H locs ls hP hS hL)
def mV_letterSaid (a : Nat) (x2 : Int32) (u : SV) : Option Int32 :=
  zgi x2 20 (zgk a (V_nv u) (if (O_kind ((V_vo u) a)) = (5 : Int32) then ((mV_holding u).bind fun q1 => zgk q1 6 ((mH_swapOf ((S_words (V_stage u)) (x2).toNatClampNeg) ((V_hs u) q1)).bind fun q2 => (some q2))) else (some ((S_words (V_stage u)) (x2).toNatClampNeg))))
set_option maxRecDepth 100000 in
set_option maxHeartbeats 4000000 in
theorem cV_letterSaid {l : Launch} {D : va_G} {cA : Nat → ClassId} {ad : Nat → Nat} {tK tB : Nat} {kS vS : Nat → Nat} {vT vH vA : Value} {a : Nat} (hI : zInj ad 80) (x2 : Int32) (u : SV) {r : Int32} (hm : mV_letterSaid a x2 u = some r) : Met l yX7_letterSaid (zWs yX7_letterSaid cX7_letterSaid 4 (some .int)) (zRm 1) (va_Pc [.ref (ad 0), .ref (ad (70 + a)), .int x2] (zPre D (zTy cA) (zE tK tB kS vS) zA0 (wV cA ad vT vH vA u))) (zQi r zB0 zA0) 0 0 zA0 := by
  refine z_met (lv := [(0, .ref (ad 0)), (1, .ref (ad (70 + a))), (2, .int x2)]) plX7 rfl rfl (Nat.le_of_ble_eq_true rfl) rfl ?_
  intro p e s m below meth c hC hr hin
  unfold mV_letterSaid at hm
  refine z_aload_n hC dX7_letterSaid_0 rfl 0 rfl ?_
  refine gV_X7_12_o hC dX7_letterSaid_1 ?_
  refine gV_X7_99_stage hC dX7_letterSaid_4 ?_
  refine z_iload_n hC dX7_letterSaid_7 rfl 2 rfl ?_
  refine aV_words hC hm dX7_letterSaid_8 (fun hm => ?_)
  refine z_istore_n (lv' := [(3, .int ((S_words (V_stage u)) (x2).toNatClampNeg)), (0, .ref (ad 0)), (1, .ref (ad (70 + a))), (2, .int x2)]) hC dX7_letterSaid_9 rfl (by decide) rfl ?_
  refine z_aload_n hC dX7_letterSaid_10 rfl 2 rfl ?_
  refine z_g (zgk_some hm) (fun ha hm => ?_)
  refine gV_X7_292_voice (v := (O_kind ((V_vo u) a))) ha hC dX7_letterSaid_11 rfl ?_
  refine z_iconst hC dX7_letterSaid_14 kI_5 ?_
  refine z_icmp_ne (tgt := 29) hC hm dX7_letterSaid_15 (by decide) (fun hm => ?_) (fun hm => ?_)
  · refine z_aload_n hC dX7_letterSaid_18 rfl 1 rfl ?_
    refine xV_X7_118 hI hC (Nat.le_of_ble_eq_true rfl) hm dX7_letterSaid_19 (Nat.le_of_ble_eq_true rfl) (fun q1 hk1 hm => ?_)
    refine z_iload_n hC dX7_letterSaid_22 rfl 0 rfl ?_
    refine xV_X7_126 hk1 hI hC (Nat.le_of_ble_eq_true rfl) hm dX7_letterSaid_23 (Nat.le_of_ble_eq_true rfl) (fun q2 hm => ?_)
    refine z_goto (tgt := 30) hC dX7_letterSaid_26 (by decide) ?_
    exact z_iret hC hr rfl dX7_letterSaid_30 (fun _ _ => trivial) (Option.some.inj hm)
  · refine z_iload_n hC dX7_letterSaid_29 rfl 0 rfl ?_
    exact z_iret hC hr rfl dX7_letterSaid_30 (fun _ _ => trivial) (Option.some.inj hm)
def mV_soundAt (x1 : Int32) (x2 : Int32) (x3 : Int32) (u : SV) : Option Int32 :=
  if x3 = 0 then (zgi x1 8 (if (20 : Int32) < ((V_far u) (x1).toNatClampNeg) then (some x2) else ((mV_holding u).bind fun q1 => zgk q1 6 (if (2 : Int32) < x2 then ((mH_soundOf x2 (0 : Int32) ((V_hs u) q1)).bind fun q2 => (some q2)) else ((mH_soundOf x2 (1 : Int32) ((V_hs u) q1)).bind fun q3 => (some q3)))))) else ((mV_holding u).bind fun q4 => zgk q4 6 ((mH_soundOf x2 (0 : Int32) ((V_hs u) q4)).bind fun q5 => (some q5)))
set_option maxRecDepth 100000 in
set_option maxHeartbeats 4000000 in
theorem cV_soundAt {l : Launch} {D : va_G} {cA : Nat → ClassId} {ad : Nat → Nat} {tK tB : Nat} {kS vS : Nat → Nat} {vT vH vA : Value} (hI : zInj ad 80) (x1 : Int32) (x2 : Int32) (x3 : Int32) (u : SV) {r : Int32} (hm : mV_soundAt x1 x2 x3 u = some r) : Met l yX7_soundAt (zWs yX7_soundAt cX7_soundAt 4 (some .int)) (zRm 1) (va_Pc [.ref (ad 0), .int x1, .int x2, .int x3] (zPre D (zTy cA) (zE tK tB kS vS) zA0 (wV cA ad vT vH vA u))) (zQi r zB0 zA0) 0 0 zA0 := by
  refine z_met (lv := [(0, .ref (ad 0)), (1, .int x1), (2, .int x2), (3, .int x3)]) plX7 rfl rfl (Nat.le_of_ble_eq_true rfl) rfl ?_
  intro p e s m below meth c hC hr hin
  unfold mV_soundAt at hm
  refine z_iload_n hC dX7_soundAt_0 rfl 3 rfl ?_
  refine z_if_eq (tgt := 14) hC hm dX7_soundAt_1 (by decide) (fun hm => ?_) (fun hm => ?_)
  · refine z_aload_n hC dX7_soundAt_14 rfl 0 rfl ?_
    refine gV_X7_21_o hC dX7_soundAt_15 ?_
    refine z_iload_n hC dX7_soundAt_18 rfl 1 rfl ?_
    refine aV_far hC hm dX7_soundAt_19 (fun hm => ?_)
    refine z_bipush hC dX7_soundAt_20 kB_20 ?_
    refine z_icmp_gt (tgt := 44) hC hm dX7_soundAt_22 (by decide) (fun hm => ?_) (fun hm => ?_)
    · refine z_iload_n hC dX7_soundAt_44 rfl 2 rfl ?_
      exact z_iret hC hr rfl dX7_soundAt_45 (fun _ _ => trivial) (Option.some.inj hm)
    · refine z_aload_n hC dX7_soundAt_25 rfl 0 rfl ?_
      refine xV_X7_118 hI hC (Nat.le_of_ble_eq_true rfl) hm dX7_soundAt_26 (Nat.le_of_ble_eq_true rfl) (fun q1 hk1 hm => ?_)
      refine z_iload_n hC dX7_soundAt_29 rfl 2 rfl ?_
      refine z_iload_n hC dX7_soundAt_30 rfl 2 rfl ?_
      refine z_iconst hC dX7_soundAt_31 kI_2 ?_
      refine z_icmp_gt (tgt := 39) hC hm dX7_soundAt_32 (by decide) (fun hm => ?_) (fun hm => ?_)
      · refine z_iconst hC dX7_soundAt_39 kI_0 ?_
        refine xV_X7_122 hk1 hI hC (Nat.le_of_ble_eq_true rfl) hm dX7_soundAt_40 (Nat.le_of_ble_eq_true rfl) (fun q2 hm => ?_)
        exact z_iret hC hr rfl dX7_soundAt_43 (fun _ _ => trivial) (Option.some.inj hm)
      · refine z_iconst hC dX7_soundAt_35 kI_1 ?_
        refine z_goto (tgt := 40) hC dX7_soundAt_36 (by decide) ?_
        refine xV_X7_122 hk1 hI hC (Nat.le_of_ble_eq_true rfl) hm dX7_soundAt_40 (Nat.le_of_ble_eq_true rfl) (fun q3 hm => ?_)
        exact z_iret hC hr rfl dX7_soundAt_43 (fun _ _ => trivial) (Option.some.inj hm)
  · refine z_aload_n hC dX7_soundAt_4 rfl 0 rfl ?_
    refine xV_X7_118 hI hC (Nat.le_of_ble_eq_true rfl) hm dX7_soundAt_5 (Nat.le_of_ble_eq_true rfl) (fun q4 hk2 hm => ?_)
    refine z_iload_n hC dX7_soundAt_8 rfl 2 rfl ?_
    refine z_iconst hC dX7_soundAt_9 kI_0 ?_
    refine xV_X7_122 hk2 hI hC (Nat.le_of_ble_eq_true rfl) hm dX7_soundAt_10 (Nat.le_of_ble_eq_true rfl) (fun q5 hm => ?_)
    exact z_iret hC hr rfl dX7_soundAt_13 (fun _ _ => trivial) (Option.some.inj hm)
theorem xV_X7_172 {p : Program} {l : Launch} {e : Env} {s : State} {m : MethodId} {args : Array Value} {below : List Frame} {meth : Method} {c : Code} {Q : State → Prop} {D : va_G} {A : Nat → Prop} {cc : ByteArray} {nL : Nat} {lv : List (Nat × Value)} {pc : Nat} {st : List Value} {cA : Nat → ClassId} {ad : Nat → Nat} {tK tB : Nat} {kS vS : Nat → Nat} {vT vH vA : Value} {d : Nat} {a : Nat} {x2 : Int32} {u : SV} (hI : zInj ad 80) (C : zC p s m args meth c cc nL RX7 zTS D (zTy cA) A (zE tK tB kS vS)) (hdm : 1 + 1 ≤ d) {β : Type} {f : Int32 → Option β} {o : β} (hm : (mV_letterSaid a x2 u).bind f = some o) (hd : decode cc pc = .ok (.invokevirtual 172, 3)) (h8 : (st.map fun v => v.category).sum ≤ 8) (g : ∀ q, f q = some o → zG p l e (zRm d) s m args below meth c nL D A Q (wV cA ad vT vH vA u) lv (pc + 3) (.int q :: st)) : zG p l e (zRm d) s m args below meth c nL D A Q (wV cA ad vT vH vA u) lv pc (.int x2 :: .ref (ad (70 + a)) :: .ref (ad 0) :: st) := by
  obtain ⟨q, h1, h2⟩ := zb_some hm
  exact z_calliV C (cV_letterSaid (ad := ad) (cA := cA) hI x2 u h1) (cwX7_172 C.1.2.2.2.2 rfl rfl ⟨hdm, by have := hdm; simp only [zRm]; omega⟩) hd rfl rfl h8 ⟨_, rfl, rfl⟩ (List.mem_of_getElem? (heV_o cA ad _ _ _ u)) (fun _ h => h) (fun _ h => h.elim) zJ_ro (g q h2)
theorem xV_X7_345 {p : Program} {l : Launch} {e : Env} {s : State} {m : MethodId} {args : Array Value} {below : List Frame} {meth : Method} {c : Code} {Q : State → Prop} {D : va_G} {A : Nat → Prop} {cc : ByteArray} {nL : Nat} {lv : List (Nat × Value)} {pc : Nat} {st : List Value} {cA : Nat → ClassId} {ad : Nat → Nat} {tK tB : Nat} {kS vS : Nat → Nat} {vT vH vA : Value} {d : Nat} {x1 : Int32} {x2 : Int32} {x3 : Int32} {u : SV} (hI : zInj ad 80) (C : zC p s m args meth c cc nL RX7 zTS D (zTy cA) A (zE tK tB kS vS)) (hdm : 1 + 1 ≤ d) {β : Type} {f : Int32 → Option β} {o : β} (hm : (mV_soundAt x1 x2 x3 u).bind f = some o) (hd : decode cc pc = .ok (.invokevirtual 345, 3)) (h8 : (st.map fun v => v.category).sum ≤ 8) (g : ∀ q, f q = some o → zG p l e (zRm d) s m args below meth c nL D A Q (wV cA ad vT vH vA u) lv (pc + 3) (.int q :: st)) : zG p l e (zRm d) s m args below meth c nL D A Q (wV cA ad vT vH vA u) lv pc (.int x3 :: .int x2 :: .int x1 :: .ref (ad 0) :: st) := by
  obtain ⟨q, h1, h2⟩ := zb_some hm
  exact z_calliV C (cV_soundAt (ad := ad) (cA := cA) hI x1 x2 x3 u h1) (cwX7_345 C.1.2.2.2.2 rfl rfl ⟨hdm, by have := hdm; simp only [zRm]; omega⟩) hd rfl rfl h8 ⟨_, rfl, rfl⟩ (List.mem_of_getElem? (heV_o cA ad _ _ _ u)) (fun _ h => h) (fun _ h => h.elim) zJ_ro (g q h2)
def mV_letterHeard (a : Nat) (x2 : Int32) (x3 : Int32) (u : SV) : Option (Int32 × SK) :=
  (mV_letterSaid a x3 u).bind fun q1 => ((mV_lookAt a x2 ((2 : Int32) * x3) u).bind fun q2 => ((mV_soundAt x2 q1 (K_joined q2) (V_put_look (q2) u)).bind fun q3 => (some (q3, (q2)))))
set_option maxRecDepth 100000 in
set_option maxHeartbeats 4000000 in
theorem cV_letterHeard {l : Launch} {D : va_G} {cA : Nat → ClassId} {ad : Nat → Nat} {tK tB : Nat} {kS vS : Nat → Nat} {vT vH vA : Value} {a : Nat} (hI : zInj ad 80) (x2 : Int32) (x3 : Int32) (u : SV) {r : Int32} {w' : SK} (hm : mV_letterHeard a x2 x3 u = some (r, w')) : Met l yX7_letterHeard (zWs yX7_letterHeard cX7_letterHeard 4 (some .int)) (zRm 4) (va_Pc [.ref (ad 0), .ref (ad (70 + a)), .int x2, .int x3] (zPre D (zTy cA) (zE tK tB kS vS) (zAd ad 80) (wV cA ad vT vH vA u))) (zQi r (zBw D (wV cA ad vT vH vA (V_put_look w' u))) (zAd ad 80)) 0 0 (zAd ad 80) := by
  refine z_met (lv := [(0, .ref (ad 0)), (1, .ref (ad (70 + a))), (2, .int x2), (3, .int x3)]) plX7 rfl rfl (Nat.le_of_ble_eq_true rfl) rfl ?_
  intro p e s m below meth c hC hr hin
  unfold mV_letterHeard at hm
  refine z_aload_n hC dX7_letterHeard_0 rfl 0 rfl ?_
  refine z_iload_n hC dX7_letterHeard_1 rfl 2 rfl ?_
  refine z_aload_n hC dX7_letterHeard_2 rfl 0 rfl ?_
  refine z_aload_n hC dX7_letterHeard_3 rfl 1 rfl ?_
  refine z_iload_n hC dX7_letterHeard_4 rfl 3 rfl ?_
  refine xV_X7_172 hI hC (Nat.le_of_ble_eq_true rfl) hm dX7_letterHeard_5 (Nat.le_of_ble_eq_true rfl) (fun q1 hm => ?_)
  refine z_aload_n hC dX7_letterHeard_8 rfl 0 rfl ?_
  refine z_aload_n hC dX7_letterHeard_9 rfl 1 rfl ?_
  refine z_iload_n hC dX7_letterHeard_10 rfl 2 rfl ?_
  refine z_iconst hC dX7_letterHeard_11 kI_2 ?_
  refine z_iload_n hC dX7_letterHeard_12 rfl 3 rfl ?_
  refine z_imul hC dX7_letterHeard_13 ?_
  refine xV_X7_146 hI hC (Nat.le_of_ble_eq_true rfl) (fun _ h => h) hm dX7_letterHeard_14 (Nat.le_of_ble_eq_true rfl) (fun q2 hm => ?_)
  refine zuV (u2 := (V_put_look (q2) u)) rfl ?_
  refine gV_X7_159_look (v := (K_joined q2)) hC dX7_letterHeard_17 rfl ?_
  refine xV_X7_345 hI hC (Nat.le_of_ble_eq_true rfl) hm dX7_letterHeard_20 (Nat.le_of_ble_eq_true rfl) (fun q3 hm => ?_)
  exact riV (fin := fun z => V_put_look z u) hC hr rfl dX7_letterHeard_23 hm rfl
theorem xV_X7_176 {p : Program} {l : Launch} {e : Env} {s : State} {m : MethodId} {args : Array Value} {below : List Frame} {meth : Method} {c : Code} {Q : State → Prop} {D : va_G} {A : Nat → Prop} {cc : ByteArray} {nL : Nat} {lv : List (Nat × Value)} {pc : Nat} {st : List Value} {cA : Nat → ClassId} {ad : Nat → Nat} {tK tB : Nat} {kS vS : Nat → Nat} {vT vH vA : Value} {d : Nat} {a : Nat} {x2 : Int32} {x3 : Int32} {u : SV} (hI : zInj ad 80) (C : zC p s m args meth c cc nL RX7 zTS D (zTy cA) A (zE tK tB kS vS)) (hdm : 4 + 1 ≤ d) (hA : ∀ q, zAd ad 80 q → A q) {β : Type} {f : (Int32 × SK) → Option β} {o : β} (hm : (mV_letterHeard a x2 x3 u).bind f = some o) (hd : decode cc pc = .ok (.invokevirtual 176, 3)) (h8 : (st.map fun v => v.category).sum ≤ 8) (g : ∀ q, f q = some o → zG p l e (zRm d) s m args below meth c nL D A Q (wV cA ad vT vH vA (V_put_look q.2 u)) lv (pc + 3) (.int q.1 :: st)) : zG p l e (zRm d) s m args below meth c nL D A Q (wV cA ad vT vH vA u) lv pc (.int x3 :: .int x2 :: .ref (ad (70 + a)) :: .ref (ad 0) :: st) := by
  obtain ⟨q, h1, h2⟩ := zb_some hm
  exact z_calliV C (cV_letterHeard (ad := ad) (cA := cA) hI x2 x3 u h1) (cwX7_176 C.1.2.2.2.2 rfl rfl ⟨hdm, by have := hdm; simp only [zRm]; omega⟩) hd rfl rfl h8 ⟨_, rfl, rfl⟩ (List.mem_of_getElem? (heV_o cA ad _ _ _ u)) (fun _ h => h) hA zJ_same (g q h2)
def mV_isRight (a : Nat) (x2 : Int32) (x3 : Int32) (u : SV) : Option (Int32 × SK) :=
  (mV_letterHeard a x2 x3 u).bind fun q1 => (zgi x3 20 (if q1.1 = ((S_words (V_stage u)) (x3).toNatClampNeg) then (some ((1 : Int32), (q1.2))) else (some ((0 : Int32), (q1.2)))))
set_option maxRecDepth 100000 in
set_option maxHeartbeats 4000000 in
theorem cV_isRight {l : Launch} {D : va_G} {cA : Nat → ClassId} {ad : Nat → Nat} {tK tB : Nat} {kS vS : Nat → Nat} {vT vH vA : Value} {a : Nat} (hI : zInj ad 80) (x2 : Int32) (x3 : Int32) (u : SV) {r : Int32} {w' : SK} (hm : mV_isRight a x2 x3 u = some (r, w')) : Met l yX7_isRight (zWs yX7_isRight cX7_isRight 4 (some .boolean)) (zRm 5) (va_Pc [.ref (ad 0), .ref (ad (70 + a)), .int x2, .int x3] (zPre D (zTy cA) (zE tK tB kS vS) (zAd ad 80) (wV cA ad vT vH vA u))) (zQi r (zBw D (wV cA ad vT vH vA (V_put_look w' u))) (zAd ad 80)) 0 0 (zAd ad 80) := by
  refine z_met (lv := [(0, .ref (ad 0)), (1, .ref (ad (70 + a))), (2, .int x2), (3, .int x3)]) plX7 rfl rfl (Nat.le_of_ble_eq_true rfl) rfl ?_
  intro p e s m below meth c hC hr hin
  unfold mV_isRight at hm
  refine z_aload_n hC dX7_isRight_0 rfl 0 rfl ?_
  refine z_aload_n hC dX7_isRight_1 rfl 1 rfl ?_
  refine z_iload_n hC dX7_isRight_2 rfl 2 rfl ?_
  refine z_iload_n hC dX7_isRight_3 rfl 3 rfl ?_
  refine xV_X7_176 hI hC (Nat.le_of_ble_eq_true rfl) (fun _ h => h) hm dX7_isRight_4 (Nat.le_of_ble_eq_true rfl) (fun q1 hm => ?_)
  refine zuV (u2 := (V_put_look (q1.2) u)) rfl ?_
  refine z_aload_n hC dX7_isRight_7 rfl 0 rfl ?_
  refine gV_X7_12_o hC dX7_isRight_8 ?_
  refine gV_X7_99_stage hC dX7_isRight_11 ?_
  refine z_iload_n hC dX7_isRight_14 rfl 3 rfl ?_
  refine aV_words hC hm dX7_isRight_15 (fun hm => ?_)
  refine z_icmp_ne (tgt := 23) hC hm dX7_isRight_16 (by decide) (fun hm => ?_) (fun hm => ?_)
  · refine z_iconst hC dX7_isRight_19 kI_1 ?_
    refine z_goto (tgt := 24) hC dX7_isRight_20 (by decide) ?_
    exact riV (fin := fun z => V_put_look z u) hC hr rfl dX7_isRight_24 hm rfl
  · refine z_iconst hC dX7_isRight_23 kI_0 ?_
    exact riV (fin := fun z => V_put_look z u) hC hr rfl dX7_isRight_24 hm rfl
theorem xV_X7_169 {p : Program} {l : Launch} {e : Env} {s : State} {m : MethodId} {args : Array Value} {below : List Frame} {meth : Method} {c : Code} {Q : State → Prop} {D : va_G} {A : Nat → Prop} {cc : ByteArray} {nL : Nat} {lv : List (Nat × Value)} {pc : Nat} {st : List Value} {cA : Nat → ClassId} {ad : Nat → Nat} {tK tB : Nat} {kS vS : Nat → Nat} {vT vH vA : Value} {d : Nat} {x1 : Int32} {u : SV} (hI : zInj ad 80) (C : zC p s m args meth c cc nL RX7 zTS D (zTy cA) A (zE tK tB kS vS)) (hdm : 0 + 1 ≤ d) (hd : decode cc pc = .ok (.invokevirtual 169, 3)) (h8 : (st.map fun v => v.category).sum ≤ 8) (g : zG p l e (zRm d) s m args below meth c nL D A Q (wV cA ad vT vH vA u) lv (pc + 3) (.int (mV_isSaid x1 u) :: st)) : zG p l e (zRm d) s m args below meth c nL D A Q (wV cA ad vT vH vA u) lv pc (.int x1 :: .ref (ad 0) :: st) :=
  z_calliV C (cV_isSaid (ad := ad) (cA := cA) hI x1 u rfl) (cwX7_169 C.1.2.2.2.2 rfl rfl ⟨hdm, by have := hdm; simp only [zRm]; omega⟩) hd rfl rfl h8 ⟨_, rfl, rfl⟩ (List.mem_of_getElem? (heV_o cA ad _ _ _ u)) (fun _ h => h) (fun _ h => h.elim) zJ_ro g
theorem xV_X7_180 {p : Program} {l : Launch} {e : Env} {s : State} {m : MethodId} {args : Array Value} {below : List Frame} {meth : Method} {c : Code} {Q : State → Prop} {D : va_G} {A : Nat → Prop} {cc : ByteArray} {nL : Nat} {lv : List (Nat × Value)} {pc : Nat} {st : List Value} {cA : Nat → ClassId} {ad : Nat → Nat} {tK tB : Nat} {kS vS : Nat → Nat} {vT vH vA : Value} {d : Nat} {a : Nat} {x2 : Int32} {x3 : Int32} {u : SV} (hI : zInj ad 80) (C : zC p s m args meth c cc nL RX7 zTS D (zTy cA) A (zE tK tB kS vS)) (hdm : 5 + 1 ≤ d) (hA : ∀ q, zAd ad 80 q → A q) {β : Type} {f : (Int32 × SK) → Option β} {o : β} (hm : (mV_isRight a x2 x3 u).bind f = some o) (hd : decode cc pc = .ok (.invokevirtual 180, 3)) (h8 : (st.map fun v => v.category).sum ≤ 8) (g : ∀ q, f q = some o → zG p l e (zRm d) s m args below meth c nL D A Q (wV cA ad vT vH vA (V_put_look q.2 u)) lv (pc + 3) (.int q.1 :: st)) : zG p l e (zRm d) s m args below meth c nL D A Q (wV cA ad vT vH vA u) lv pc (.int x3 :: .int x2 :: .ref (ad (70 + a)) :: .ref (ad 0) :: st) := by
  obtain ⟨q, h1, h2⟩ := zb_some hm
  exact z_calliV C (cV_isRight (ad := ad) (cA := cA) hI x2 x3 u h1) (cwX7_180 C.1.2.2.2.2 rfl rfl ⟨hdm, by have := hdm; simp only [zRm]; omega⟩) hd rfl rfl h8 ⟨_, rfl, rfl⟩ (List.mem_of_getElem? (heV_o cA ad _ _ _ u)) (fun _ h => h) hA zJ_same (g q h2)
def mV_heard (x1 : Int32) (x2 : Int32) (x3 : Int32) (x4 : Int32) (u : SV) : Option (Int32 × SK) :=
  (mV_voiceAt x1 u).bind fun v1 => zcs v1 (some ((-1 : Int32), ((V_look u)))) (fun a1 => (if (mV_isSeat x2 u) = 0 then (some ((-1 : Int32), ((V_look u)))) else (if (mV_isSaid x3 u) = 0 then (some ((-1 : Int32), ((V_look u)))) else (if x4 = (0 : Int32) then ((mV_letterSaid a1 x3 u).bind fun q2 => (some (q2, ((V_look u))))) else (if x4 = (1 : Int32) then ((mV_letterHeard a1 x2 x3 u).bind fun q3 => (some (q3.1, (q3.2)))) else (if x4 = (2 : Int32) then ((mV_isRight a1 x2 x3 u).bind fun q4 => (if q4.1 = 0 then (some ((0 : Int32), (q4.2))) else (some ((1 : Int32), (q4.2))))) else (some ((-1 : Int32), ((V_look u))))))))))
set_option maxRecDepth 100000 in
set_option maxHeartbeats 4000000 in
theorem cV_heard {l : Launch} {D : va_G} {cA : Nat → ClassId} {ad : Nat → Nat} {tK tB : Nat} {kS vS : Nat → Nat} {vT vH vA : Value} (hI : zInj ad 80) (x1 : Int32) (x2 : Int32) (x3 : Int32) (x4 : Int32) (u : SV) {r : Int32} {w' : SK} (hm : mV_heard x1 x2 x3 x4 u = some (r, w')) : Met l yX7_heard (zWs yX7_heard cX7_heard 6 (some .int)) (zRm 6) (va_Pc [.ref (ad 0), .int x1, .int x2, .int x3, .int x4] (zPre D (zTy cA) (zE tK tB kS vS) (zAd ad 80) (wV cA ad vT vH vA u))) (zQi r (zBw D (wV cA ad vT vH vA (V_put_look w' u))) (zAd ad 80)) 0 0 (zAd ad 80) := by
  refine z_met (lv := [(0, .ref (ad 0)), (1, .int x1), (2, .int x2), (3, .int x3), (4, .int x4)]) plX7 rfl rfl (Nat.le_of_ble_eq_true rfl) rfl ?_
  intro p e s m below meth c hC hr hin
  unfold mV_heard at hm
  refine z_aload_n hC dX7_heard_0 rfl 0 rfl ?_
  refine z_iload_n hC dX7_heard_1 rfl 1 rfl ?_
  refine xV_X7_139 hI hC (Nat.le_of_ble_eq_true rfl) hm dX7_heard_2 (Nat.le_of_ble_eq_true rfl) (fun hm => ?_) (fun a1 hm => ?_)
  · refine z_astoreN (lv' := [(5, .null), (0, .ref (ad 0)), (1, .int x1), (2, .int x2), (3, .int x3), (4, .int x4)]) hC dX7_heard_5 (by decide) rfl ?_
    refine z_aloadN hC dX7_heard_7 0 rfl ?_
    refine z_ifnullN (tgt := 28) hC dX7_heard_9 (by decide) ?_
    refine z_iconst hC dX7_heard_28 kI_m1 ?_
    exact riV (fin := fun z => V_put_look z u) hC hr rfl dX7_heard_29 hm rfl
  · refine z_astore (lv' := [(5, .ref (ad (70 + a1))), (0, .ref (ad 0)), (1, .int x1), (2, .int x2), (3, .int x3), (4, .int x4)]) hC dX7_heard_5 (by decide) rfl ?_
    refine z_aload hC dX7_heard_7 0 rfl ?_
    refine z_ifnull hC dX7_heard_9 ?_
    refine z_aload_n hC dX7_heard_12 rfl 1 rfl ?_
    refine z_iload_n hC dX7_heard_13 rfl 3 rfl ?_
    refine xV_X7_93 hI hC (Nat.le_of_ble_eq_true rfl) dX7_heard_14 (Nat.le_of_ble_eq_true rfl) ?_
    refine z_if_eq (tgt := 28) hC hm dX7_heard_17 (by decide) (fun hm => ?_) (fun hm => ?_)
    · refine z_iconst hC dX7_heard_28 kI_m1 ?_
      exact riV (fin := fun z => V_put_look z u) hC hr rfl dX7_heard_29 hm rfl
    · refine z_aload_n hC dX7_heard_20 rfl 1 rfl ?_
      refine z_iload_n hC dX7_heard_21 rfl 4 rfl ?_
      refine xV_X7_169 hI hC (Nat.le_of_ble_eq_true rfl) dX7_heard_22 (Nat.le_of_ble_eq_true rfl) ?_
      refine z_if_ne (tgt := 30) hC hm dX7_heard_25 (by decide) (fun hm => ?_) (fun hm => ?_)
      · refine z_iconst hC dX7_heard_28 kI_m1 ?_
        exact riV (fin := fun z => V_put_look z u) hC hr rfl dX7_heard_29 hm rfl
      · refine z_iload hC dX7_heard_30 5 rfl ?_
        refine z_ite hm (fun h32_0 hm => ?_) (fun h32_0 hm => ?_)
        · refine z_tin hC dX7_heard_32 h32_0 kc_0 (by decide) (by decide) (off := 28) rfl (tgt := 60) (by decide) ?_
          refine z_aload_n hC dX7_heard_60 rfl 1 rfl ?_
          refine z_aload hC dX7_heard_61 0 rfl ?_
          refine z_iload_n hC dX7_heard_63 rfl 4 rfl ?_
          refine xV_X7_172 hI hC (Nat.le_of_ble_eq_true rfl) hm dX7_heard_64 (Nat.le_of_ble_eq_true rfl) (fun q2 hm => ?_)
          exact riV (fin := fun z => V_put_look z u) hC hr rfl dX7_heard_67 hm rfl
        · refine z_ite hm (fun h32_1 hm => ?_) (fun h32_1 hm => ?_)
          · refine z_tin hC dX7_heard_32 h32_1 kc_1 (by decide) (by decide) (off := 36) rfl (tgt := 68) (by decide) ?_
            refine z_aload_n hC dX7_heard_68 rfl 1 rfl ?_
            refine z_aload hC dX7_heard_69 0 rfl ?_
            refine z_iload_n hC dX7_heard_71 rfl 3 rfl ?_
            refine z_iload_n hC dX7_heard_72 rfl 4 rfl ?_
            refine xV_X7_176 hI hC (Nat.le_of_ble_eq_true rfl) (fun _ h => h) hm dX7_heard_73 (Nat.le_of_ble_eq_true rfl) (fun q3 hm => ?_)
            refine zuV (u2 := (V_put_look (q3.2) u)) rfl ?_
            exact riV (fin := fun z => V_put_look z u) hC hr rfl dX7_heard_76 hm rfl
          · refine z_ite hm (fun h32_2 hm => ?_) (fun h32_2 hm => ?_)
            · refine z_tin hC dX7_heard_32 h32_2 kc_2 (by decide) (by decide) (off := 45) rfl (tgt := 77) (by decide) ?_
              refine z_aload_n hC dX7_heard_77 rfl 1 rfl ?_
              refine z_aload hC dX7_heard_78 0 rfl ?_
              refine z_iload_n hC dX7_heard_80 rfl 3 rfl ?_
              refine z_iload_n hC dX7_heard_81 rfl 4 rfl ?_
              refine xV_X7_180 hI hC (Nat.le_of_ble_eq_true rfl) (fun _ h => h) hm dX7_heard_82 (Nat.le_of_ble_eq_true rfl) (fun q4 hm => ?_)
              refine zuV (u2 := (V_put_look (q4.2) u)) rfl ?_
              refine z_if_eq (tgt := 92) hC hm dX7_heard_85 (by decide) (fun hm => ?_) (fun hm => ?_)
              · refine z_iconst hC dX7_heard_92 kI_0 ?_
                exact riV (fin := fun z => V_put_look z u) hC hr rfl dX7_heard_93 hm rfl
              · refine z_iconst hC dX7_heard_88 kI_1 ?_
                refine z_goto (tgt := 93) hC dX7_heard_89 (by decide) ?_
                exact riV (fin := fun z => V_put_look z u) hC hr rfl dX7_heard_93 hm rfl
            · refine z_tout (n := 3) hC dX7_heard_32 (z_allc (z_tneq kc_0 h32_0) (z_allc (z_tneq kc_1 h32_1) (z_allc (z_tneq kc_2 h32_2) z_all0))) (by decide) (tgt := 94) (by decide) ?_
              refine z_iconst hC dX7_heard_94 kI_m1 ?_
              exact riV (fin := fun z => V_put_look z u) hC hr rfl dX7_heard_95 hm rfl
def mV_isAlwaysCaught_L11 (a : Nat) (x2 : Int32) (x3 : Int32) : Nat → Int32 → SV → Option (Int32 × SK)
  | 0, _, _ => none
  | n + 1, x4, u => if x3 ≤ x4 then (some ((1 : Int32), ((V_look u)))) else ((mV_lookAt a x2 x4 u).bind fun q1 => (if (K_caught q1) = 0 then (some ((0 : Int32), (q1))) else (mV_isAlwaysCaught_L11 a x2 x3 n (x4 + (1 : Int32)) (V_put_look (q1) u))))
set_option maxRecDepth 100000 in
set_option maxHeartbeats 4000000 in
theorem lV_isAlwaysCaught_11 {l : Launch} {D : va_G} {cA : Nat → ClassId} {ad : Nat → Nat} {p : Program} {e : Env} {s : State} {m : MethodId} {args : Array Value} {below : List Frame} {meth : Method} {c : Code} {tK tB : Nat} {kS vS : Nat → Nat} {vT : Value} {vH : Value} {vA : Value} {r : Int32} {w' : SK}  {a : Nat} {x2 : Int32} {x3 : Int32} (hI : zInj ad 80) (hC : zC p s m args meth c cX7_isAlwaysCaught 5 RX7 zTS D (zTy cA) (zAd ad 80) (zE tK tB kS vS)) (hr : meth.sig.returnType = (some .boolean)) : ∀ (n : Nat) (x4 : Int32) (u : SV), mV_isAlwaysCaught_L11 a x2 x3 n x4 u = some (r, w') → zG p l e (zRm 4) s m args below meth c 5 D (zAd ad 80) (MQ below (zQi r (zBw D (wV cA ad vT vH vA (V_put_look w' u))) (zAd ad 80)) args s 0 0 (zAd ad 80)) (wV cA ad vT vH vA u) [(0, .ref (ad 0)), (1, .ref (ad (70 + a))), (2, .int x2), (3, .int x3), (4, .int x4)] 11 [] := by
  intro n
  induction n with
  | zero => intro x4 u hm; exact z_none hm
  | succ n ih =>
    intro x4 u hm
    rw [mV_isAlwaysCaught_L11] at hm
    refine z_iload hC dX7_isAlwaysCaught_11 4 rfl ?_
    refine z_iload_n hC dX7_isAlwaysCaught_13 rfl 3 rfl ?_
    refine z_icmp_ge (tgt := 39) hC hm dX7_isAlwaysCaught_14 (by decide) (fun hm => ?_) (fun hm => ?_)
    · refine z_iconst hC dX7_isAlwaysCaught_39 kI_1 ?_
      exact riV (fin := fun z => V_put_look z u) hC hr rfl dX7_isAlwaysCaught_40 hm rfl
    · refine z_aload_n hC dX7_isAlwaysCaught_17 rfl 0 rfl ?_
      refine z_aload_n hC dX7_isAlwaysCaught_18 rfl 1 rfl ?_
      refine z_iload_n hC dX7_isAlwaysCaught_19 rfl 2 rfl ?_
      refine z_iload hC dX7_isAlwaysCaught_20 4 rfl ?_
      refine xV_X7_146 hI hC (Nat.le_of_ble_eq_true rfl) (fun _ h => h) hm dX7_isAlwaysCaught_22 (Nat.le_of_ble_eq_true rfl) (fun q1 hm => ?_)
      refine zuV (u2 := (V_put_look (q1) u)) rfl ?_
      refine gV_X7_166_look (v := (K_caught q1)) hC dX7_isAlwaysCaught_25 rfl ?_
      refine z_if_ne (tgt := 33) hC hm dX7_isAlwaysCaught_28 (by decide) (fun hm => ?_) (fun hm => ?_)
      · refine z_iconst hC dX7_isAlwaysCaught_31 kI_0 ?_
        exact riV (fin := fun z => V_put_look z u) hC hr rfl dX7_isAlwaysCaught_32 hm rfl
      · refine z_iinc (lv' := [(4, .int (x4 + (1 : Int32))), (0, .ref (ad 0)), (1, .ref (ad (70 + a))), (2, .int x2), (3, .int x3)]) (k := 4) (v := (x4 + (1 : Int32))) hC dX7_isAlwaysCaught_33 rfl rfl (by decide) rfl ?_
        refine z_goto (tgt := 11) hC dX7_isAlwaysCaught_36 (by decide) ?_
        refine z_lv hC [1, 2, 3, 4, 0] rfl ?_
        exact ih _ _ hm
def mV_isAlwaysCaught (a : Nat) (x2 : Int32) (u : SV) : Option (Int32 × SK) :=
  mV_isAlwaysCaught_L11 a x2 (mS_tenthsSaidIn (V_stage u)) 256 (0 : Int32) u
set_option maxRecDepth 100000 in
set_option maxHeartbeats 4000000 in
theorem cV_isAlwaysCaught {l : Launch} {D : va_G} {cA : Nat → ClassId} {ad : Nat → Nat} {tK tB : Nat} {kS vS : Nat → Nat} {vT vH vA : Value} {a : Nat} (hI : zInj ad 80) (x2 : Int32) (u : SV) {r : Int32} {w' : SK} (hm : mV_isAlwaysCaught a x2 u = some (r, w')) : Met l yX7_isAlwaysCaught (zWs yX7_isAlwaysCaught cX7_isAlwaysCaught 5 (some .boolean)) (zRm 4) (va_Pc [.ref (ad 0), .ref (ad (70 + a)), .int x2] (zPre D (zTy cA) (zE tK tB kS vS) (zAd ad 80) (wV cA ad vT vH vA u))) (zQi r (zBw D (wV cA ad vT vH vA (V_put_look w' u))) (zAd ad 80)) 0 0 (zAd ad 80) := by
  refine z_met (lv := [(0, .ref (ad 0)), (1, .ref (ad (70 + a))), (2, .int x2)]) plX7 rfl rfl (Nat.le_of_ble_eq_true rfl) rfl ?_
  intro p e s m below meth c hC hr hin
  unfold mV_isAlwaysCaught at hm
  refine z_aload_n hC dX7_isAlwaysCaught_0 rfl 0 rfl ?_
  refine gV_X7_12_o hC dX7_isAlwaysCaught_1 ?_
  refine xV_X7_211 hI hC (Nat.le_of_ble_eq_true rfl) dX7_isAlwaysCaught_4 (Nat.le_of_ble_eq_true rfl) ?_
  refine z_istore_n (lv' := [(3, .int (mS_tenthsSaidIn (V_stage u))), (0, .ref (ad 0)), (1, .ref (ad (70 + a))), (2, .int x2)]) hC dX7_isAlwaysCaught_7 rfl (by decide) rfl ?_
  refine z_iconst hC dX7_isAlwaysCaught_8 kI_0 ?_
  refine z_istore (lv' := [(4, .int (0 : Int32)), (3, .int (mS_tenthsSaidIn (V_stage u))), (0, .ref (ad 0)), (1, .ref (ad (70 + a))), (2, .int x2)]) hC dX7_isAlwaysCaught_9 (by decide) rfl ?_
  refine z_lv hC [2, 3, 4, 1, 0] rfl ?_
  exact lV_isAlwaysCaught_11 hI hC hr _ _ _ hm
theorem xV_X7_184 {p : Program} {l : Launch} {e : Env} {s : State} {m : MethodId} {args : Array Value} {below : List Frame} {meth : Method} {c : Code} {Q : State → Prop} {D : va_G} {A : Nat → Prop} {cc : ByteArray} {nL : Nat} {lv : List (Nat × Value)} {pc : Nat} {st : List Value} {cA : Nat → ClassId} {ad : Nat → Nat} {tK tB : Nat} {kS vS : Nat → Nat} {vT vH vA : Value} {d : Nat} {a : Nat} {x2 : Int32} {u : SV} (hI : zInj ad 80) (C : zC p s m args meth c cc nL RX7 zTS D (zTy cA) A (zE tK tB kS vS)) (hdm : 4 + 1 ≤ d) (hA : ∀ q, zAd ad 80 q → A q) {β : Type} {f : (Int32 × SK) → Option β} {o : β} (hm : (mV_isAlwaysCaught a x2 u).bind f = some o) (hd : decode cc pc = .ok (.invokevirtual 184, 3)) (h8 : (st.map fun v => v.category).sum ≤ 8) (g : ∀ q, f q = some o → zG p l e (zRm d) s m args below meth c nL D A Q (wV cA ad vT vH vA (V_put_look q.2 u)) lv (pc + 3) (.int q.1 :: st)) : zG p l e (zRm d) s m args below meth c nL D A Q (wV cA ad vT vH vA u) lv pc (.int x2 :: .ref (ad (70 + a)) :: .ref (ad 0) :: st) := by
  obtain ⟨q, h1, h2⟩ := zb_some hm
  exact z_calliV C (cV_isAlwaysCaught (ad := ad) (cA := cA) hI x2 u h1) (cwX7_184 C.1.2.2.2.2 rfl rfl ⟨hdm, by have := hdm; simp only [zRm]; omega⟩) hd rfl rfl h8 ⟨_, rfl, rfl⟩ (List.mem_of_getElem? (heV_o cA ad _ _ _ u)) (fun _ h => h) hA zJ_same (g q h2)
def mV_houseful_J65 (a1 : Nat) (K30 : Int32 → Int32 → SV → Option (Int32 × SK)) (x2 : Int32) (x4 : Int32) (x5 : Int32) (s0 : Int32) (u : SV) : Option (Int32 × SK) :=
  if s0 = 0 then (K30 x4 (x5 + (1 : Int32)) u) else (K30 (x4 ||| ((1 : Int32) <<< (x5 &&& 31))) (x5 + (1 : Int32)) u)
set_option maxRecDepth 100000 in
set_option maxHeartbeats 4000000 in
theorem jV_houseful_65 {l : Launch} {D : va_G} {cA : Nat → ClassId} {ad : Nat → Nat} {p : Program} {e : Env} {s : State} {m : MethodId} {args : Array Value} {below : List Frame} {meth : Method} {c : Code} {tK tB : Nat} {kS vS : Nat → Nat} {vT : Value} {vH : Value} {vA : Value} {r : Int32} {w' : SK}  {a1 : Nat} {K30 : Int32 → Int32 → SV → Option (Int32 × SK)} {x2 : Int32} {x4 : Int32} {x5 : Int32} {s0 : Int32} {u : SV} (hI : zInj ad 80) (hC : zC p s m args meth c cX7_houseful 7 RX7 zTS D (zTy cA) (zAd ad 80) (zE tK tB kS vS)) (hr : meth.sig.returnType = (some .int)) (hK30 : ∀ (x4 : Int32) (x5 : Int32) (u : SV), K30 x4 x5 u = some (r, w') → zG p l e (zRm 5) s m args below meth c 7 D (zAd ad 80) (MQ below (zQi r (zBw D (wV cA ad vT vH vA (V_put_look w' u))) (zAd ad 80)) args s 0 0 (zAd ad 80)) (wV cA ad vT vH vA u) [(0, .ref (ad 0)), (2, .int x2), (3, .ref (ad (70 + a1))), (4, .int x4), (5, .int x5)] 30 []) (hm : mV_houseful_J65 a1 K30 x2 x4 x5 s0 u = some (r, w')) : zG p l e (zRm 5) s m args below meth c 7 D (zAd ad 80) (MQ below (zQi r (zBw D (wV cA ad vT vH vA (V_put_look w' u))) (zAd ad 80)) args s 0 0 (zAd ad 80)) (wV cA ad vT vH vA u) [(0, .ref (ad 0)), (2, .int x2), (3, .ref (ad (70 + a1))), (4, .int x4), (5, .int x5)] 65 [.int s0] := by
  unfold mV_houseful_J65 at hm
  refine z_istore (lv' := [(6, .int s0), (0, .ref (ad 0)), (2, .int x2), (3, .ref (ad (70 + a1))), (4, .int x4), (5, .int x5)]) hC dX7_houseful_65 (by decide) rfl ?_
  refine z_iload hC dX7_houseful_67 0 rfl ?_
  refine z_if_eq (tgt := 81) hC hm dX7_houseful_69 (by decide) (fun hm => ?_) (fun hm => ?_)
  · refine z_iinc (lv' := [(5, .int (x5 + (1 : Int32))), (6, .int s0), (0, .ref (ad 0)), (2, .int x2), (3, .ref (ad (70 + a1))), (4, .int x4)]) (k := 5) (v := (x5 + (1 : Int32))) hC dX7_houseful_81 rfl rfl (by decide) rfl ?_
    refine z_goto (tgt := 30) hC dX7_houseful_84 (by decide) ?_
    refine z_lv hC [2, 3, 4, 5, 0] rfl ?_
    exact hK30 _ _ _ hm
  · refine z_iload hC dX7_houseful_72 4 rfl ?_
    refine z_iconst hC dX7_houseful_74 kI_1 ?_
    refine z_iload hC dX7_houseful_75 5 rfl ?_
    refine z_ishl hC dX7_houseful_77 ?_
    refine z_ior hC dX7_houseful_78 ?_
    refine z_istore (lv' := [(4, .int (x4 ||| ((1 : Int32) <<< (x5 &&& 31)))), (6, .int s0), (0, .ref (ad 0)), (2, .int x2), (3, .ref (ad (70 + a1))), (5, .int x5)]) hC dX7_houseful_79 (by decide) rfl ?_
    refine z_iinc (lv' := [(5, .int (x5 + (1 : Int32))), (4, .int (x4 ||| ((1 : Int32) <<< (x5 &&& 31)))), (6, .int s0), (0, .ref (ad 0)), (2, .int x2), (3, .ref (ad (70 + a1)))]) (k := 5) (v := (x5 + (1 : Int32))) hC dX7_houseful_81 rfl rfl (by decide) rfl ?_
    refine z_goto (tgt := 30) hC dX7_houseful_84 (by decide) ?_
    refine z_lv hC [3, 4, 5, 1, 0] rfl ?_
    exact hK30 _ _ _ hm
def mV_houseful_L30 (a1 : Nat) (x2 : Int32) : Nat → Int32 → Int32 → SV → Option (Int32 × SK)
  | 0, _, _, _ => none
  | n + 1, x4, x5, u => if (V_seats u) ≤ x5 then (some (x4, ((V_look u)))) else (if x2 = (-1 : Int32) then ((mV_isAlwaysCaught a1 x5 u).bind fun q2 => (mV_houseful_J65 a1 (mV_houseful_L30 a1 x2 n) x2 x4 x5 q2.1 (V_put_look (q2.2) u))) else ((mV_lookAt a1 x5 x2 u).bind fun q3 => (mV_houseful_J65 a1 (mV_houseful_L30 a1 x2 n) x2 x4 x5 (K_caught q3) (V_put_look (q3) u))))
set_option maxRecDepth 100000 in
set_option maxHeartbeats 4000000 in
theorem lV_houseful_30 {l : Launch} {D : va_G} {cA : Nat → ClassId} {ad : Nat → Nat} {p : Program} {e : Env} {s : State} {m : MethodId} {args : Array Value} {below : List Frame} {meth : Method} {c : Code} {tK tB : Nat} {kS vS : Nat → Nat} {vT : Value} {vH : Value} {vA : Value} {r : Int32} {w' : SK}  {a1 : Nat} {x2 : Int32} (hI : zInj ad 80) (hC : zC p s m args meth c cX7_houseful 7 RX7 zTS D (zTy cA) (zAd ad 80) (zE tK tB kS vS)) (hr : meth.sig.returnType = (some .int)) : ∀ (n : Nat) (x4 : Int32) (x5 : Int32) (u : SV), mV_houseful_L30 a1 x2 n x4 x5 u = some (r, w') → zG p l e (zRm 5) s m args below meth c 7 D (zAd ad 80) (MQ below (zQi r (zBw D (wV cA ad vT vH vA (V_put_look w' u))) (zAd ad 80)) args s 0 0 (zAd ad 80)) (wV cA ad vT vH vA u) [(0, .ref (ad 0)), (2, .int x2), (3, .ref (ad (70 + a1))), (4, .int x4), (5, .int x5)] 30 [] := by
  intro n
  induction n with
  | zero => intro x4 x5 u hm; exact z_none hm
  | succ n ih =>
    intro x4 x5 u hm
    rw [mV_houseful_L30] at hm
    refine z_iload hC dX7_houseful_30 4 rfl ?_
    refine z_aload_n hC dX7_houseful_32 rfl 0 rfl ?_
    refine gV_X7_90_o (v := (V_seats u)) hC dX7_houseful_33 rfl ?_
    refine z_icmp_ge (tgt := 87) hC hm dX7_houseful_36 (by decide) (fun hm => ?_) (fun hm => ?_)
    · refine z_iload hC dX7_houseful_87 3 rfl ?_
      exact riV (fin := fun z => V_put_look z u) hC hr rfl dX7_houseful_89 hm rfl
    · refine z_iload_n hC dX7_houseful_39 rfl 1 rfl ?_
      refine z_iconst hC dX7_houseful_40 kI_m1 ?_
      refine z_icmp_ne (tgt := 54) hC hm dX7_houseful_41 (by decide) (fun hm => ?_) (fun hm => ?_)
      · refine z_aload_n hC dX7_houseful_44 rfl 0 rfl ?_
        refine z_aload_n hC dX7_houseful_45 rfl 2 rfl ?_
        refine z_iload hC dX7_houseful_46 4 rfl ?_
        refine xV_X7_184 hI hC (Nat.le_of_ble_eq_true rfl) (fun _ h => h) hm dX7_houseful_48 (Nat.le_of_ble_eq_true rfl) (fun q2 hm => ?_)
        refine zuV (u2 := (V_put_look (q2.2) u)) rfl ?_
        refine z_goto (tgt := 65) hC dX7_houseful_51 (by decide) ?_
        refine z_lv hC [0, 1, 2, 3, 4] rfl ?_
        exact jV_houseful_65 hI hC hr (ih) hm
      · refine z_aload_n hC dX7_houseful_54 rfl 0 rfl ?_
        refine z_aload_n hC dX7_houseful_55 rfl 2 rfl ?_
        refine z_iload hC dX7_houseful_56 4 rfl ?_
        refine z_iload_n hC dX7_houseful_58 rfl 1 rfl ?_
        refine xV_X7_146 hI hC (Nat.le_of_ble_eq_true rfl) (fun _ h => h) hm dX7_houseful_59 (Nat.le_of_ble_eq_true rfl) (fun q3 hm => ?_)
        refine zuV (u2 := (V_put_look (q3) u)) rfl ?_
        refine gV_X7_166_look (v := (K_caught q3)) hC dX7_houseful_62 rfl ?_
        refine z_lv hC [0, 1, 2, 3, 4] rfl ?_
        exact jV_houseful_65 hI hC hr (ih) hm
def mV_houseful (x1 : Int32) (x2 : Int32) (u : SV) : Option (Int32 × SK) :=
  (mV_voiceAt x1 u).bind fun v1 => zcs v1 (some ((-1 : Int32), ((V_look u)))) (fun a1 => (if x2 = (-1 : Int32) then (mV_houseful_L30 a1 x2 256 (0 : Int32) (0 : Int32) u) else (if (mN_isTenth x2) = 0 then (some ((-1 : Int32), ((V_look u)))) else (mV_houseful_L30 a1 x2 256 (0 : Int32) (0 : Int32) u))))
set_option maxRecDepth 100000 in
set_option maxHeartbeats 4000000 in
theorem cV_houseful {l : Launch} {D : va_G} {cA : Nat → ClassId} {ad : Nat → Nat} {tK tB : Nat} {kS vS : Nat → Nat} {vT vH vA : Value} (hI : zInj ad 80) (x1 : Int32) (x2 : Int32) (u : SV) {r : Int32} {w' : SK} (hm : mV_houseful x1 x2 u = some (r, w')) : Met l yX7_houseful (zWs yX7_houseful cX7_houseful 7 (some .int)) (zRm 5) (va_Pc [.ref (ad 0), .int x1, .int x2] (zPre D (zTy cA) (zE tK tB kS vS) (zAd ad 80) (wV cA ad vT vH vA u))) (zQi r (zBw D (wV cA ad vT vH vA (V_put_look w' u))) (zAd ad 80)) 0 0 (zAd ad 80) := by
  refine z_met (lv := [(0, .ref (ad 0)), (1, .int x1), (2, .int x2)]) plX7 rfl rfl (Nat.le_of_ble_eq_true rfl) rfl ?_
  intro p e s m below meth c hC hr hin
  unfold mV_houseful at hm
  refine z_aload_n hC dX7_houseful_0 rfl 0 rfl ?_
  refine z_iload_n hC dX7_houseful_1 rfl 1 rfl ?_
  refine xV_X7_139 hI hC (Nat.le_of_ble_eq_true rfl) hm dX7_houseful_2 (Nat.le_of_ble_eq_true rfl) (fun hm => ?_) (fun a1 hm => ?_)
  · refine z_astore_nN (lv' := [(3, .null), (0, .ref (ad 0)), (1, .int x1), (2, .int x2)]) hC dX7_houseful_5 rfl (by decide) rfl ?_
    refine z_aload_nN hC dX7_houseful_6 rfl 0 rfl ?_
    refine z_ifnullN (tgt := 22) hC dX7_houseful_7 (by decide) ?_
    refine z_iconst hC dX7_houseful_22 kI_m1 ?_
    exact riV (fin := fun z => V_put_look z u) hC hr rfl dX7_houseful_23 hm rfl
  · refine z_astore_n (lv' := [(3, .ref (ad (70 + a1))), (0, .ref (ad 0)), (1, .int x1), (2, .int x2)]) hC dX7_houseful_5 rfl (by decide) rfl ?_
    refine z_aload_n hC dX7_houseful_6 rfl 0 rfl ?_
    refine z_ifnull hC dX7_houseful_7 ?_
    refine z_iload_n hC dX7_houseful_10 rfl 3 rfl ?_
    refine z_iconst hC dX7_houseful_11 kI_m1 ?_
    refine z_icmp_eq (tgt := 24) hC hm dX7_houseful_12 (by decide) (fun hm => ?_) (fun hm => ?_)
    · refine z_iconst hC dX7_houseful_24 kI_0 ?_
      refine z_istore (lv' := [(4, .int (0 : Int32)), (3, .ref (ad (70 + a1))), (0, .ref (ad 0)), (1, .int x1), (2, .int x2)]) hC dX7_houseful_25 (by decide) rfl ?_
      refine z_iconst hC dX7_houseful_27 kI_0 ?_
      refine z_istore (lv' := [(5, .int (0 : Int32)), (4, .int (0 : Int32)), (3, .ref (ad (70 + a1))), (0, .ref (ad 0)), (1, .int x1), (2, .int x2)]) hC dX7_houseful_28 (by decide) rfl ?_
      refine z_lv hC [3, 5, 2, 1, 0] rfl ?_
      exact lV_houseful_30 hI hC hr _ _ _ _ hm
    · refine z_iload_n hC dX7_houseful_15 rfl 3 rfl ?_
      refine xV_X7_143 hI hC (Nat.le_of_ble_eq_true rfl) dX7_houseful_16 (Nat.le_of_ble_eq_true rfl) ?_
      refine z_if_ne (tgt := 24) hC hm dX7_houseful_19 (by decide) (fun hm => ?_) (fun hm => ?_)
      · refine z_iconst hC dX7_houseful_22 kI_m1 ?_
        exact riV (fin := fun z => V_put_look z u) hC hr rfl dX7_houseful_23 hm rfl
      · refine z_iconst hC dX7_houseful_24 kI_0 ?_
        refine z_istore (lv' := [(4, .int (0 : Int32)), (3, .ref (ad (70 + a1))), (0, .ref (ad 0)), (1, .int x1), (2, .int x2)]) hC dX7_houseful_25 (by decide) rfl ?_
        refine z_iconst hC dX7_houseful_27 kI_0 ?_
        refine z_istore (lv' := [(5, .int (0 : Int32)), (4, .int (0 : Int32)), (3, .ref (ad (70 + a1))), (0, .ref (ad 0)), (1, .int x1), (2, .int x2)]) hC dX7_houseful_28 (by decide) rfl ?_
        refine z_lv hC [3, 5, 2, 1, 0] rfl ?_
        exact lV_houseful_30 hI hC hr _ _ _ _ hm
def mV_drawn_L79 (a1 : Nat) (x5 : Int32) : Nat → Int32 → SV → Option (Int32 × SK)
  | 0, _, _ => none
  | n + 1, x6, u => if x6 < (S_mouth (V_stage u)) then (some ((-5 : Int32), ((V_look u)))) else (zgk a1 (V_nv u) <| (mO_soundsAt (S_mouth (V_stage u)) x6 ((V_vo u) a1)).bind fun q5 => (if x5 < (zabs (x6 - q5)) then (mV_drawn_L79 a1 x5 n (x6 + (-1 : Int32)) u) else (some ((x6 - (S_mouth (V_stage u))), ((V_look u))))))
set_option maxRecDepth 100000 in
set_option maxHeartbeats 4000000 in
theorem lV_drawn_79 {l : Launch} {D : va_G} {cA : Nat → ClassId} {ad : Nat → Nat} {p : Program} {e : Env} {s : State} {m : MethodId} {args : Array Value} {below : List Frame} {meth : Method} {c : Code} {tK tB : Nat} {kS vS : Nat → Nat} {vT : Value} {vH : Value} {vA : Value} {r : Int32} {w' : SK}  {a1 : Nat} {x5 : Int32} (hI : zInj ad 80) (hC : zC p s m args meth c cX7_drawn 7 RX7 zTS D (zTy cA) (zAd ad 80) (zE tK tB kS vS)) (hr : meth.sig.returnType = (some .int)) : ∀ (n : Nat) (x6 : Int32) (u : SV), mV_drawn_L79 a1 x5 n x6 u = some (r, w') → zG p l e (zRm 4) s m args below meth c 7 D (zAd ad 80) (MQ below (zQi r (zBw D (wV cA ad vT vH vA (V_put_look w' u))) (zAd ad 80)) args s 0 0 (zAd ad 80)) (wV cA ad vT vH vA u) [(0, .ref (ad 0)), (4, .ref (ad (70 + a1))), (5, .int x5), (6, .int x6)] 79 [] := by
  intro n
  induction n with
  | zero => intro x6 u hm; exact z_none hm
  | succ n ih =>
    intro x6 u hm
    rw [mV_drawn_L79] at hm
    refine z_iload hC dX7_drawn_79 3 rfl ?_
    refine z_aload_n hC dX7_drawn_81 rfl 0 rfl ?_
    refine gV_X7_12_o hC dX7_drawn_82 ?_
    refine gV_X7_77_stage (v := (S_mouth (V_stage u))) hC dX7_drawn_85 rfl ?_
    refine z_icmp_lt (tgt := 133) hC hm dX7_drawn_88 (by decide) (fun hm => ?_) (fun hm => ?_)
    · refine z_bipush hC dX7_drawn_133 kB_m5 ?_
      exact riV (fin := fun z => V_put_look z u) hC hr rfl dX7_drawn_135 hm rfl
    · refine z_iload hC dX7_drawn_91 3 rfl ?_
      refine z_aload hC dX7_drawn_93 1 rfl ?_
      refine z_aload_n hC dX7_drawn_95 rfl 0 rfl ?_
      refine gV_X7_12_o hC dX7_drawn_96 ?_
      refine gV_X7_77_stage (v := (S_mouth (V_stage u))) hC dX7_drawn_99 rfl ?_
      refine z_iload hC dX7_drawn_102 3 rfl ?_
      refine z_g (zgk_some hm) (fun ha hm => ?_)
      refine xV_X7_203 ha hI hC (Nat.le_of_ble_eq_true rfl) hm dX7_drawn_104 (Nat.le_of_ble_eq_true rfl) (fun q5 hm => ?_)
      refine z_isub hC dX7_drawn_107 ?_
      refine z_abs hC mmX7_206 (Nat.le_of_ble_eq_true rfl) (Nat.le_of_ble_eq_true rfl) dX7_drawn_108 ?_
      refine z_iload hC dX7_drawn_111 2 rfl ?_
      refine z_icmp_gt (tgt := 127) hC hm dX7_drawn_113 (by decide) (fun hm => ?_) (fun hm => ?_)
      · refine z_iinc (lv' := [(6, .int (x6 + (-1 : Int32))), (0, .ref (ad 0)), (4, .ref (ad (70 + a1))), (5, .int x5)]) (k := 3) (v := (x6 + (-1 : Int32))) hC dX7_drawn_127 rfl rfl (by decide) rfl ?_
        refine z_goto (tgt := 79) hC dX7_drawn_130 (by decide) ?_
        refine z_lv hC [1, 2, 3, 0] rfl ?_
        exact ih _ _ hm
      · refine z_iload hC dX7_drawn_116 3 rfl ?_
        refine z_aload_n hC dX7_drawn_118 rfl 0 rfl ?_
        refine gV_X7_12_o hC dX7_drawn_119 ?_
        refine gV_X7_77_stage (v := (S_mouth (V_stage u))) hC dX7_drawn_122 rfl ?_
        refine z_isub hC dX7_drawn_125 ?_
        exact riV (fin := fun z => V_put_look z u) hC hr rfl dX7_drawn_126 hm rfl
def mV_drawn (x1 : Int32) (x2 : Int32) (x3 : Int32) (u : SV) : Option (Int32 × SK) :=
  (mV_voiceAt x1 u).bind fun v1 => zcs v1 (some ((-1 : Int32), ((V_look u)))) (fun a1 => (if (mV_isSeat x2 u) = 0 then (some ((-1 : Int32), ((V_look u)))) else (if (mN_isTenth x3) = 0 then (some ((-1 : Int32), ((V_look u)))) else ((mV_canJoin a1 x3 u).bind fun q2 => (if q2 = 0 then (some ((-5 : Int32), ((V_look u)))) else (zgk a1 (V_nv u) ((mV_isMoving (mO_movingOf (S_moving (V_stage u)) ((V_vo u) a1)) x3 u).bind fun q3 => (if q3 = 0 then (some ((-5 : Int32), ((V_look u)))) else ((mV_lookAt a1 x2 x3 u).bind fun q4 => (mV_drawn_L79 a1 (mK_reach q4) 256 (40 : Int32) (V_put_look (q4) u)))))))))))
set_option maxRecDepth 100000 in
set_option maxHeartbeats 4000000 in
theorem cV_drawn {l : Launch} {D : va_G} {cA : Nat → ClassId} {ad : Nat → Nat} {tK tB : Nat} {kS vS : Nat → Nat} {vT vH vA : Value} (hI : zInj ad 80) (x1 : Int32) (x2 : Int32) (x3 : Int32) (u : SV) {r : Int32} {w' : SK} (hm : mV_drawn x1 x2 x3 u = some (r, w')) : Met l yX7_drawn (zWs yX7_drawn cX7_drawn 7 (some .int)) (zRm 4) (va_Pc [.ref (ad 0), .int x1, .int x2, .int x3] (zPre D (zTy cA) (zE tK tB kS vS) (zAd ad 80) (wV cA ad vT vH vA u))) (zQi r (zBw D (wV cA ad vT vH vA (V_put_look w' u))) (zAd ad 80)) 0 0 (zAd ad 80) := by
  refine z_met (lv := [(0, .ref (ad 0)), (1, .int x1), (2, .int x2), (3, .int x3)]) plX7 rfl rfl (Nat.le_of_ble_eq_true rfl) rfl ?_
  intro p e s m below meth c hC hr hin
  unfold mV_drawn at hm
  refine z_aload_n hC dX7_drawn_0 rfl 0 rfl ?_
  refine z_iload_n hC dX7_drawn_1 rfl 1 rfl ?_
  refine xV_X7_139 hI hC (Nat.le_of_ble_eq_true rfl) hm dX7_drawn_2 (Nat.le_of_ble_eq_true rfl) (fun hm => ?_) (fun a1 hm => ?_)
  · refine z_astoreN (lv' := [(4, .null), (0, .ref (ad 0)), (1, .int x1), (2, .int x2), (3, .int x3)]) hC dX7_drawn_5 (by decide) rfl ?_
    refine z_aloadN hC dX7_drawn_7 0 rfl ?_
    refine z_ifnullN (tgt := 27) hC dX7_drawn_9 (by decide) ?_
    refine z_iconst hC dX7_drawn_27 kI_m1 ?_
    exact riV (fin := fun z => V_put_look z u) hC hr rfl dX7_drawn_28 hm rfl
  · refine z_astore (lv' := [(4, .ref (ad (70 + a1))), (0, .ref (ad 0)), (1, .int x1), (2, .int x2), (3, .int x3)]) hC dX7_drawn_5 (by decide) rfl ?_
    refine z_aload hC dX7_drawn_7 0 rfl ?_
    refine z_ifnull hC dX7_drawn_9 ?_
    refine z_aload_n hC dX7_drawn_12 rfl 1 rfl ?_
    refine z_iload_n hC dX7_drawn_13 rfl 3 rfl ?_
    refine xV_X7_93 hI hC (Nat.le_of_ble_eq_true rfl) dX7_drawn_14 (Nat.le_of_ble_eq_true rfl) ?_
    refine z_if_eq (tgt := 27) hC hm dX7_drawn_17 (by decide) (fun hm => ?_) (fun hm => ?_)
    · refine z_iconst hC dX7_drawn_27 kI_m1 ?_
      exact riV (fin := fun z => V_put_look z u) hC hr rfl dX7_drawn_28 hm rfl
    · refine z_iload_n hC dX7_drawn_20 rfl 4 rfl ?_
      refine xV_X7_143 hI hC (Nat.le_of_ble_eq_true rfl) dX7_drawn_21 (Nat.le_of_ble_eq_true rfl) ?_
      refine z_if_ne (tgt := 29) hC hm dX7_drawn_24 (by decide) (fun hm => ?_) (fun hm => ?_)
      · refine z_iconst hC dX7_drawn_27 kI_m1 ?_
        exact riV (fin := fun z => V_put_look z u) hC hr rfl dX7_drawn_28 hm rfl
      · refine z_aload_n hC dX7_drawn_29 rfl 1 rfl ?_
        refine z_aload hC dX7_drawn_30 0 rfl ?_
        refine z_iload_n hC dX7_drawn_32 rfl 4 rfl ?_
        refine xV_X7_188 hI hC (Nat.le_of_ble_eq_true rfl) hm dX7_drawn_33 (Nat.le_of_ble_eq_true rfl) (fun q2 hm => ?_)
        refine z_if_eq (tgt := 59) hC hm dX7_drawn_36 (by decide) (fun hm => ?_) (fun hm => ?_)
        · refine z_bipush hC dX7_drawn_59 kB_m5 ?_
          exact riV (fin := fun z => V_put_look z u) hC hr rfl dX7_drawn_61 hm rfl
        · refine z_aload_n hC dX7_drawn_39 rfl 1 rfl ?_
          refine z_aload hC dX7_drawn_40 0 rfl ?_
          refine z_aload_n hC dX7_drawn_42 rfl 1 rfl ?_
          refine gV_X7_12_o hC dX7_drawn_43 ?_
          refine gV_X7_86_stage (v := (S_moving (V_stage u))) hC dX7_drawn_46 rfl ?_
          refine z_g (zgk_some hm) (fun ha hm => ?_)
          refine xV_X7_191 ha hI hC (Nat.le_of_ble_eq_true rfl) dX7_drawn_49 (Nat.le_of_ble_eq_true rfl) ?_
          refine z_iload_n hC dX7_drawn_52 rfl 4 rfl ?_
          refine xV_X7_195 hI hC (Nat.le_of_ble_eq_true rfl) hm dX7_drawn_53 (Nat.le_of_ble_eq_true rfl) (fun q3 hm => ?_)
          refine z_if_ne (tgt := 62) hC hm dX7_drawn_56 (by decide) (fun hm => ?_) (fun hm => ?_)
          · refine z_bipush hC dX7_drawn_59 kB_m5 ?_
            exact riV (fin := fun z => V_put_look z u) hC hr rfl dX7_drawn_61 hm rfl
          · refine z_aload_n hC dX7_drawn_62 rfl 1 rfl ?_
            refine z_aload hC dX7_drawn_63 0 rfl ?_
            refine z_iload_n hC dX7_drawn_65 rfl 3 rfl ?_
            refine z_iload_n hC dX7_drawn_66 rfl 4 rfl ?_
            refine xV_X7_146 hI hC (Nat.le_of_ble_eq_true rfl) (fun _ h => h) hm dX7_drawn_67 (Nat.le_of_ble_eq_true rfl) (fun q4 hm => ?_)
            refine zuV (u2 := (V_put_look (q4) u)) rfl ?_
            refine xV_X7_199 hI hC (Nat.le_of_ble_eq_true rfl) dX7_drawn_70 (Nat.le_of_ble_eq_true rfl) ?_
            refine z_istore (lv' := [(5, .int (mK_reach q4)), (4, .ref (ad (70 + a1))), (0, .ref (ad 0)), (1, .int x1), (2, .int x2), (3, .int x3)]) hC dX7_drawn_73 (by decide) rfl ?_
            refine z_bipush hC dX7_drawn_75 kB_40 ?_
            refine z_istore (lv' := [(6, .int (40 : Int32)), (5, .int (mK_reach q4)), (4, .ref (ad (70 + a1))), (0, .ref (ad 0)), (1, .int x1), (2, .int x2), (3, .int x3)]) hC dX7_drawn_77 (by decide) rfl ?_
            refine z_lv hC [3, 2, 1, 0] rfl ?_
            exact lV_drawn_79 hI hC hr _ _ _ hm
