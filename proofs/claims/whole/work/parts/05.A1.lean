theorem kS_300 : (Int16.ofInt (300)).toInt32 = (300 : Int32) := by decide
theorem pB_X0_15_o {p : Program} {l : Launch} {e : Env} {R : Room} {s : State} {m : MethodId} {args : Array Value} {below : List Frame} {meth : Method} {c : Code} {Q : State → Prop} {D : va_G} {A : Nat → Prop} {cc : ByteArray} {nL : Nat} {lv : List (Nat × Value)} {pc : Nat} {st : List Value} {cA : Nat → ClassId} {ad : Nat → Nat} {E : zEt} {vA : Value} {u : SB} {v : Int32} (C : zC p s m args meth c cc nL RX0 zTS D (zTy cA) A E) (hI : zInj ad 2) (hA : ∀ q, zAd ad 2 q → A q) (hd : decode cc pc = .ok (.putfield 15, 3)) (g : zG p l e R s m args below meth c nL D A Q (wB cA ad vA (B_set_ran v u)) lv (pc + 3) st) : zG p l e R s m args below meth c nL D A Q (wB cA ad vA u) lv pc (.int v :: .ref (ad 0) :: st) := fun H locs ls hP hS hL => va_put (D := D) (ci := 0) (C := RX0) (T := TX0) (N := 3) C.1.1 C.1.2.1 C.1.2.2.2.2 inlX0 tyX0 tyX0_ok nmX0 C.1.2.2.2.1 C.2.1 hP (zD_mono (wB_D hI cA vA u) hA) hS 0 (heB_o cA ad vA u) rfl 1 (by decide) (C.1.2.2.2.2 _ mfX0_15) (fun _ h9 => h9) rfl (ty := .int) (by decide +kernel) rfl rfl (Nat.le_of_ble_eq_true rfl) hd (fun H1 locs1 hP1 _ hS1 => g H1 locs1 ls hP1 hS1 hL)
def B_put_ran (p : Int32) (u : SB) : SB := (p, u.2)
def mB_forget (u : SB) : Option (Int32) :=
  some ((0 : Int32))
set_option maxRecDepth 100000 in
set_option maxHeartbeats 4000000 in
theorem cB_forget {l : Launch} {D : va_G} {cA : Nat → ClassId} {ad : Nat → Nat} {tK tB : Nat} {kS vS : Nat → Nat} {vA : Value} (hI : zInj ad 2) (u : SB) {w' : Int32} (hm : mB_forget u = some w') : Met l yX0_forget (zWs yX0_forget cX0_forget 1 none) (zRm 0) (va_Pc [.ref (ad 0)] (zPre D (zTy cA) (zE tK tB kS vS) (zAd ad 2) (wB cA ad vA u))) (zQv (zBw D (wB cA ad vA (B_put_ran w' u))) (zAd ad 2)) 0 0 (zAd ad 2) := by
  refine z_met (lv := [(0, .ref (ad 0))]) plX0 rfl rfl (Nat.le_of_ble_eq_true rfl) rfl ?_
  intro p e s m below meth c hC hr hin
  unfold mB_forget at hm
  refine z_aload_n hC dX0_forget_0 rfl 0 rfl ?_
  refine z_iconst hC dX0_forget_1 kI_0 ?_
  refine pB_X0_15_o hC hI (fun _ h => h) dX0_forget_2 ?_
  refine zuB (u2 := (B_put_ran ((0 : Int32)) u)) rfl ?_
  exact rvB (fin := fun z => B_put_ran z u) hC hr dX0_forget_5 hm rfl
theorem gB_X0_15_o {p : Program} {l : Launch} {e : Env} {R : Room} {s : State} {m : MethodId} {args : Array Value} {below : List Frame} {meth : Method} {c : Code} {Q : State → Prop} {D : va_G} {A : Nat → Prop} {cc : ByteArray} {nL : Nat} {lv : List (Nat × Value)} {pc : Nat} {st : List Value} {cA : Nat → ClassId} {ad : Nat → Nat} {E : zEt} {vA : Value} {u : SB} (C : zC p s m args meth c cc nL RX0 zTS D (zTy cA) A E) (hd : decode cc pc = .ok (.getfield 15, 3)) {v : Int32} (hv : B_ran u = v) (g : zG p l e R s m args below meth c nL D A Q (wB cA ad vA u) lv (pc + 3) (.int v :: st)) : zG p l e R s m args below meth c nL D A Q (wB cA ad vA u) lv pc (.ref (ad 0) :: st) := by
  subst hv; exact fun H locs ls hP hS hL => va_get (D := D) (ci := 0) (C := RX0) (T := TX0) (N := 3) C.1.1 C.1.2.1 C.1.2.2.2.2 inlX0 C.1.2.2.2.1 C.2.1 hP 0 (heB_o cA ad vA u) rfl 1 (by decide) (C.1.2.2.2.2 _ mfX0_15) (fun _ h9 => h9) (v := .int (B_ran u)) rfl hd (g H locs ls hP hS hL)
def mB_kept (u : SB) : Int32 :=
  (zmin (B_ran u) (20 : Int32))
set_option maxRecDepth 100000 in
set_option maxHeartbeats 4000000 in
theorem cB_kept {l : Launch} {D : va_G} {cA : Nat → ClassId} {ad : Nat → Nat} {tK tB : Nat} {kS vS : Nat → Nat} {vA : Value} (hI : zInj ad 2) (u : SB) {r : Int32} (hm : mB_kept u = r) : Met l yX0_kept (zWs yX0_kept cX0_kept 1 (some .int)) (zRm 1) (va_Pc [.ref (ad 0)] (zPre D (zTy cA) (zE tK tB kS vS) zA0 (wB cA ad vA u))) (zQi r zB0 zA0) 0 0 zA0 := by
  refine z_met (lv := [(0, .ref (ad 0))]) plX0 rfl rfl (Nat.le_of_ble_eq_true rfl) rfl ?_
  intro p e s m below meth c hC hr hin
  unfold mB_kept at hm
  refine z_aload_n hC dX0_kept_0 rfl 0 rfl ?_
  refine gB_X0_15_o (v := (B_ran u)) hC dX0_kept_1 rfl ?_
  refine z_bipush hC dX0_kept_4 kB_20 ?_
  refine z_min hC mmX0_19 (Nat.le_of_ble_eq_true rfl) (Nat.le_of_ble_eq_true rfl) dX0_kept_6 ?_
  exact z_iret hC hr rfl dX0_kept_9 (fun _ _ => trivial) hm
def mN_bodyFrom_L4 (x1 : Int32) (u : SN) : Nat → Int32 → Int32 → Option Int32
  | 0, _, _ => none
  | n + 1, x2, x3 => if (7 : Int32) ≤ x3 then (some (0 : Int32)) else (if x2 < 0 then (some (0 : Int32)) else (zgi ((x2 * (3 : Int32)) + x1) 21 (if (zBO (((x2 * (3 : Int32)) + x1)).toNatClampNeg) = 0 then (zgi x2 7 (mN_bodyFrom_L4 x1 u n (zKA (x2).toNatClampNeg) (x3 + (1 : Int32)))) else (some (zBO (((x2 * (3 : Int32)) + x1)).toNatClampNeg)))))
set_option maxRecDepth 100000 in
set_option maxHeartbeats 4000000 in
theorem lN_bodyFrom_4 {l : Launch} {D : va_G} {cA : Nat → ClassId} {ad : Nat → Nat} {p : Program} {e : Env} {s : State} {m : MethodId} {args : Array Value} {below : List Frame} {meth : Method} {c : Code} {tK tB : Nat} {kS vS : Nat → Nat} {r : Int32}  {x1 : Int32} {u : SN} (hI : zInj ad 0) (hC : zC p s m args meth c cX0_bodyFrom 5 RX0 zTS D (zTy cA) zA0 (zE tK tB kS vS)) (hr : meth.sig.returnType = (some .int)) : ∀ (n : Nat) (x2 : Int32) (x3 : Int32), mN_bodyFrom_L4 x1 u n x2 x3 = some r → zG p l e (zRm 0) s m args below meth c 5 D zA0 (MQ below (zQi r zB0 zA0) args s 0 0 zA0) (wN cA ad u) [(1, .int x1), (2, .int x2), (3, .int x3)] 4 [] := by
  intro n
  induction n with
  | zero => intro x2 x3 hm; exact z_none hm
  | succ n ih =>
    intro x2 x3 hm
    rw [mN_bodyFrom_L4] at hm
    refine z_iload_n hC dX0_bodyFrom_4 rfl 2 rfl ?_
    refine z_gsK0 hC dX0_bodyFrom_5 ?_
    refine z_tlenK hC dX0_bodyFrom_8 ?_
    refine z_icmp_ge (tgt := 47) hC hm dX0_bodyFrom_9 (by decide) (fun hm => ?_) (fun hm => ?_)
    · refine z_iconst hC dX0_bodyFrom_47 kI_0 ?_
      exact z_iret hC hr rfl dX0_bodyFrom_48 (fun _ _ => trivial) (Option.some.inj hm)
    · refine z_iload_n hC dX0_bodyFrom_12 rfl 1 rfl ?_
      refine z_if_lt (tgt := 47) hC hm dX0_bodyFrom_13 (by decide) (fun hm => ?_) (fun hm => ?_)
      · refine z_iconst hC dX0_bodyFrom_47 kI_0 ?_
        exact z_iret hC hr rfl dX0_bodyFrom_48 (fun _ _ => trivial) (Option.some.inj hm)
      · refine z_gsB0 hC dX0_bodyFrom_16 ?_
        refine z_iload_n hC dX0_bodyFrom_19 rfl 1 rfl ?_
        refine z_iconst hC dX0_bodyFrom_20 kI_3 ?_
        refine z_imul hC dX0_bodyFrom_21 ?_
        refine z_iload_n hC dX0_bodyFrom_22 rfl 0 rfl ?_
        refine z_iadd hC dX0_bodyFrom_23 ?_
        refine z_tldB hC hm dX0_bodyFrom_24 (fun hm => ?_)
        refine z_istore (lv' := [(4, .int (zBO (((x2 * (3 : Int32)) + x1)).toNatClampNeg)), (1, .int x1), (2, .int x2), (3, .int x3)]) hC dX0_bodyFrom_25 (by decide) rfl ?_
        refine z_iload hC dX0_bodyFrom_27 0 rfl ?_
        refine z_if_eq (tgt := 35) hC hm dX0_bodyFrom_29 (by decide) (fun hm => ?_) (fun hm => ?_)
        · refine z_gsK0 hC dX0_bodyFrom_35 ?_
          refine z_iload_n hC dX0_bodyFrom_38 rfl 2 rfl ?_
          refine z_tldK hC hm dX0_bodyFrom_39 (fun hm => ?_)
          refine z_istore_n (lv' := [(2, .int (zKA (x2).toNatClampNeg)), (4, .int (zBO (((x2 * (3 : Int32)) + x1)).toNatClampNeg)), (1, .int x1), (3, .int x3)]) hC dX0_bodyFrom_40 rfl (by decide) rfl ?_
          refine z_iinc (lv' := [(3, .int (x3 + (1 : Int32))), (2, .int (zKA (x2).toNatClampNeg)), (4, .int (zBO (((x2 * (3 : Int32)) + x1)).toNatClampNeg)), (1, .int x1)]) (k := 3) (v := (x3 + (1 : Int32))) hC dX0_bodyFrom_41 rfl rfl (by decide) rfl ?_
          refine z_goto (tgt := 4) hC dX0_bodyFrom_44 (by decide) ?_
          refine z_lv hC [3, 1, 0] rfl ?_
          exact ih _ _ hm
        · refine z_iload hC dX0_bodyFrom_32 0 rfl ?_
          exact z_iret hC hr rfl dX0_bodyFrom_34 (fun _ _ => trivial) (Option.some.inj hm)
def mN_bodyFrom (x0 : Int32) (x1 : Int32) (u : SN) : Option Int32 :=
  mN_bodyFrom_L4 x1 u 256 x0 (0 : Int32)
set_option maxRecDepth 100000 in
set_option maxHeartbeats 4000000 in
theorem cN_bodyFrom {l : Launch} {D : va_G} {cA : Nat → ClassId} {ad : Nat → Nat} {tK tB : Nat} {kS vS : Nat → Nat} (hI : zInj ad 0) (x0 : Int32) (x1 : Int32) (u : SN) {r : Int32} (hm : mN_bodyFrom x0 x1 u = some r) : Met l yX0_bodyFrom (zWs yX0_bodyFrom cX0_bodyFrom 5 (some .int)) (zRm 0) (va_Pc [.int x0, .int x1] (zPre D (zTy cA) (zE tK tB kS vS) zA0 (wN cA ad u))) (zQi r zB0 zA0) 0 0 zA0 := by
  refine z_met (lv := [(0, .int x0), (1, .int x1)]) plX0 rfl rfl (Nat.le_of_ble_eq_true rfl) rfl ?_
  intro p e s m below meth c hC hr hin
  unfold mN_bodyFrom at hm
  refine z_iload_n hC dX0_bodyFrom_0 rfl 0 rfl ?_
  refine z_istore_n (lv' := [(2, .int x0), (0, .int x0), (1, .int x1)]) hC dX0_bodyFrom_1 rfl (by decide) rfl ?_
  refine z_iconst hC dX0_bodyFrom_2 kI_0 ?_
  refine z_istore_n (lv' := [(3, .int (0 : Int32)), (2, .int x0), (0, .int x0), (1, .int x1)]) hC dX0_bodyFrom_3 rfl (by decide) rfl ?_
  refine z_lv hC [3, 1, 0] rfl ?_
  exact lN_bodyFrom_4 hI hC hr _ _ _ hm
theorem pH_X1_33_o {p : Program} {l : Launch} {e : Env} {R : Room} {s : State} {m : MethodId} {args : Array Value} {below : List Frame} {meth : Method} {c : Code} {Q : State → Prop} {D : va_G} {A : Nat → Prop} {cc : ByteArray} {nL : Nat} {lv : List (Nat × Value)} {pc : Nat} {st : List Value} {cA : Nat → ClassId} {ad : Nat → Nat} {E : zEt} {u : SH} {v : Int32} (C : zC p s m args meth c cc nL RX1 zTS D (zTy cA) A E) (hI : zInj ad 7) (hA : ∀ q, zAd ad 7 q → A q) (hd : decode cc pc = .ok (.putfield 33, 3)) (g : zG p l e R s m args below meth c nL D A Q (wH cA ad (H_set_late v u)) lv (pc + 3) st) : zG p l e R s m args below meth c nL D A Q (wH cA ad u) lv pc (.int v :: .ref (ad 0) :: st) := fun H locs ls hP hS hL => va_put (D := D) (ci := 1) (C := RX1) (T := TX1) (N := 9) C.1.1 C.1.2.1 C.1.2.2.2.2 inlX1 tyX1 tyX1_ok nmX1 C.1.2.2.2.1 C.2.1 hP (zD_mono (wH_D hI cA u) hA) hS 0 (heH_o cA ad u) rfl 2 (by decide) (C.1.2.2.2.2 _ mfX1_33) (fun _ h9 => h9) rfl (ty := .int) (by decide +kernel) rfl rfl (Nat.le_of_ble_eq_true rfl) hd (fun H1 locs1 hP1 _ hS1 => g H1 locs1 ls hP1 hS1 hL)
def H_put_late_clauses_stepCount_sounds_swaps (p : Int32 × Int32 × Int32 × (Nat → Int32) × (Nat → Int32)) (u : SH) : SH := (((p.1, p.2.1), (p.2.2.1, p.2.2.2.1)), ((p.2.2.2.2, u.2.1.2), u.2.2))
theorem pH_X1_37_o {p : Program} {l : Launch} {e : Env} {R : Room} {s : State} {m : MethodId} {args : Array Value} {below : List Frame} {meth : Method} {c : Code} {Q : State → Prop} {D : va_G} {A : Nat → Prop} {cc : ByteArray} {nL : Nat} {lv : List (Nat × Value)} {pc : Nat} {st : List Value} {cA : Nat → ClassId} {ad : Nat → Nat} {E : zEt} {u : SH} {v : Int32} (C : zC p s m args meth c cc nL RX1 zTS D (zTy cA) A E) (hI : zInj ad 7) (hA : ∀ q, zAd ad 7 q → A q) (hd : decode cc pc = .ok (.putfield 37, 3)) (g : zG p l e R s m args below meth c nL D A Q (wH cA ad (H_set_clauses v u)) lv (pc + 3) st) : zG p l e R s m args below meth c nL D A Q (wH cA ad u) lv pc (.int v :: .ref (ad 0) :: st) := fun H locs ls hP hS hL => va_put (D := D) (ci := 1) (C := RX1) (T := TX1) (N := 9) C.1.1 C.1.2.1 C.1.2.2.2.2 inlX1 tyX1 tyX1_ok nmX1 C.1.2.2.2.1 C.2.1 hP (zD_mono (wH_D hI cA u) hA) hS 0 (heH_o cA ad u) rfl 6 (by decide) (C.1.2.2.2.2 _ mfX1_37) (fun _ h9 => h9) rfl (ty := .int) (by decide +kernel) rfl rfl (Nat.le_of_ble_eq_true rfl) hd (fun H1 locs1 hP1 _ hS1 => g H1 locs1 ls hP1 hS1 hL)
theorem pH_X1_40_o {p : Program} {l : Launch} {e : Env} {R : Room} {s : State} {m : MethodId} {args : Array Value} {below : List Frame} {meth : Method} {c : Code} {Q : State → Prop} {D : va_G} {A : Nat → Prop} {cc : ByteArray} {nL : Nat} {lv : List (Nat × Value)} {pc : Nat} {st : List Value} {cA : Nat → ClassId} {ad : Nat → Nat} {E : zEt} {u : SH} {v : Int32} (C : zC p s m args meth c cc nL RX1 zTS D (zTy cA) A E) (hI : zInj ad 7) (hA : ∀ q, zAd ad 7 q → A q) (hd : decode cc pc = .ok (.putfield 40, 3)) (g : zG p l e R s m args below meth c nL D A Q (wH cA ad (H_set_stepCount v u)) lv (pc + 3) st) : zG p l e R s m args below meth c nL D A Q (wH cA ad u) lv pc (.int v :: .ref (ad 0) :: st) := fun H locs ls hP hS hL => va_put (D := D) (ci := 1) (C := RX1) (T := TX1) (N := 9) C.1.1 C.1.2.1 C.1.2.2.2.2 inlX1 tyX1 tyX1_ok nmX1 C.1.2.2.2.1 C.2.1 hP (zD_mono (wH_D hI cA u) hA) hS 0 (heH_o cA ad u) rfl 8 (by decide) (C.1.2.2.2.2 _ mfX1_40) (fun _ h9 => h9) rfl (ty := .int) (by decide +kernel) rfl rfl (Nat.le_of_ble_eq_true rfl) hd (fun H1 locs1 hP1 _ hS1 => g H1 locs1 ls hP1 hS1 hL)
theorem gH_X1_9_o {p : Program} {l : Launch} {e : Env} {R : Room} {s : State} {m : MethodId} {args : Array Value} {below : List Frame} {meth : Method} {c : Code} {Q : State → Prop} {D : va_G} {A : Nat → Prop} {cc : ByteArray} {nL : Nat} {lv : List (Nat × Value)} {pc : Nat} {st : List Value} {cA : Nat → ClassId} {ad : Nat → Nat} {E : zEt} {u : SH} (C : zC p s m args meth c cc nL RX1 zTS D (zTy cA) A E) (hd : decode cc pc = .ok (.getfield 9, 3)) (g : zG p l e R s m args below meth c nL D A Q (wH cA ad u) lv (pc + 3) (.ref (ad 1) :: st)) : zG p l e R s m args below meth c nL D A Q (wH cA ad u) lv pc (.ref (ad 0) :: st) := by
  exact fun H locs ls hP hS hL => va_get (D := D) (ci := 1) (C := RX1) (T := TX1) (N := 9) C.1.1 C.1.2.1 C.1.2.2.2.2 inlX1 C.1.2.2.2.1 C.2.1 hP 0 (heH_o cA ad u) rfl 0 (by decide) (C.1.2.2.2.2 _ mfX1_9) (fun _ h9 => h9) (v := .ref (ad 1)) rfl hd (g H locs ls hP hS hL)
theorem sH_sounds {p : Program} {l : Launch} {e : Env} {R : Room} {s : State} {m : MethodId} {args : Array Value} {below : List Frame} {meth : Method} {c : Code} {Q : State → Prop} {D : va_G} {A : Nat → Prop} {cc : ByteArray} {nL : Nat} {lv : List (Nat × Value)} {pc : Nat} {st : List Value} {cA : Nat → ClassId} {ad : Nat → Nat} {E : zEt} {own : String} {u : SH} {i : Int32} {x : Int32} {β : Type} {k : Option β} {r : β} (C : zC p s m args meth c cc nL own zTS D (zTy cA) A E) (hI : zInj ad 7) (hA : ∀ q, zAd ad 7 q → A q) (hm : zgi i 20 k = some r) (hd : decode cc pc = .ok (.iastore, 1)) (g : k = some r → zG p l e R s m args below meth c nL D A Q (wH cA ad (H_set_sounds (upd (H_sounds u) i.toNatClampNeg x) u)) lv (pc + 1) st) : zG p l e R s m args below meth c nL D A Q (wH cA ad u) lv pc (.int x :: .int i :: .ref (ad 1) :: st) := fun H locs ls hP hS hL => va_iast C.1.1 C.1.2.1 C.2.1 hP (zD_mono (wH_D hI cA u) hA) hS 1 0 (heH_sounds cA ad u) rfl (zgi_some hm).1 hd (fun H1 locs1 hP1 _ hS1 => g (zgi_some hm).2 H1 locs1 ls hP1 hS1 hL)
theorem gH_X1_15_o {p : Program} {l : Launch} {e : Env} {R : Room} {s : State} {m : MethodId} {args : Array Value} {below : List Frame} {meth : Method} {c : Code} {Q : State → Prop} {D : va_G} {A : Nat → Prop} {cc : ByteArray} {nL : Nat} {lv : List (Nat × Value)} {pc : Nat} {st : List Value} {cA : Nat → ClassId} {ad : Nat → Nat} {E : zEt} {u : SH} (C : zC p s m args meth c cc nL RX1 zTS D (zTy cA) A E) (hd : decode cc pc = .ok (.getfield 15, 3)) (g : zG p l e R s m args below meth c nL D A Q (wH cA ad u) lv (pc + 3) (.ref (ad 2) :: st)) : zG p l e R s m args below meth c nL D A Q (wH cA ad u) lv pc (.ref (ad 0) :: st) := by
  exact fun H locs ls hP hS hL => va_get (D := D) (ci := 1) (C := RX1) (T := TX1) (N := 9) C.1.1 C.1.2.1 C.1.2.2.2.2 inlX1 C.1.2.2.2.1 C.2.1 hP 0 (heH_o cA ad u) rfl 1 (by decide) (C.1.2.2.2.2 _ mfX1_15) (fun _ h9 => h9) (v := .ref (ad 2)) rfl hd (g H locs ls hP hS hL)
theorem sH_swaps {p : Program} {l : Launch} {e : Env} {R : Room} {s : State} {m : MethodId} {args : Array Value} {below : List Frame} {meth : Method} {c : Code} {Q : State → Prop} {D : va_G} {A : Nat → Prop} {cc : ByteArray} {nL : Nat} {lv : List (Nat × Value)} {pc : Nat} {st : List Value} {cA : Nat → ClassId} {ad : Nat → Nat} {E : zEt} {own : String} {u : SH} {i : Int32} {x : Int32} {β : Type} {k : Option β} {r : β} (C : zC p s m args meth c cc nL own zTS D (zTy cA) A E) (hI : zInj ad 7) (hA : ∀ q, zAd ad 7 q → A q) (hm : zgi i 10 k = some r) (hd : decode cc pc = .ok (.iastore, 1)) (g : k = some r → zG p l e R s m args below meth c nL D A Q (wH cA ad (H_set_swaps (upd (H_swaps u) i.toNatClampNeg x) u)) lv (pc + 1) st) : zG p l e R s m args below meth c nL D A Q (wH cA ad u) lv pc (.int x :: .int i :: .ref (ad 2) :: st) := fun H locs ls hP hS hL => va_iast C.1.1 C.1.2.1 C.2.1 hP (zD_mono (wH_D hI cA u) hA) hS 2 0 (heH_swaps cA ad u) rfl (zgi_some hm).1 hd (fun H1 locs1 hP1 _ hS1 => g (zgi_some hm).2 H1 locs1 ls hP1 hS1 hL)
def mH_clear_L2 : Nat → Int32 → SH → Option (Int32 × Int32 × Int32 × (Nat → Int32) × (Nat → Int32))
  | 0, _, _ => none
  | n + 1, x1, u => if (10 : Int32) ≤ x1 then (some ((1 : Int32), (0 : Int32), (0 : Int32), (H_sounds u), (H_swaps u))) else (zgi x1 20 (zgi ((10 : Int32) + x1) 20 (zgi x1 10 (mH_clear_L2 n (x1 + (1 : Int32)) (H_put_late_clauses_stepCount_sounds_swaps ((H_late u), (H_clauses u), (H_stepCount u), (upd (upd (H_sounds u) (x1).toNatClampNeg x1) (((10 : Int32) + x1)).toNatClampNeg x1), (upd (H_swaps u) (x1).toNatClampNeg x1)) u)))))
set_option maxRecDepth 100000 in
set_option maxHeartbeats 4000000 in
theorem lH_clear_2 {l : Launch} {D : va_G} {cA : Nat → ClassId} {ad : Nat → Nat} {p : Program} {e : Env} {s : State} {m : MethodId} {args : Array Value} {below : List Frame} {meth : Method} {c : Code} {tK tB : Nat} {kS vS : Nat → Nat} {w' : Int32 × Int32 × Int32 × (Nat → Int32) × (Nat → Int32)}  (hI : zInj ad 7) (hC : zC p s m args meth c cX1_clear 2 RX1 zTS D (zTy cA) (zAd ad 7) (zE tK tB kS vS)) (hr : meth.sig.returnType = none) : ∀ (n : Nat) (x1 : Int32) (u : SH), mH_clear_L2 n x1 u = some w' → zG p l e (zRm 0) s m args below meth c 2 D (zAd ad 7) (MQ below (zQv (zBw D (wH cA ad (H_put_late_clauses_stepCount_sounds_swaps w' u))) (zAd ad 7)) args s 0 0 (zAd ad 7)) (wH cA ad u) [(0, .ref (ad 0)), (1, .int x1)] 2 [] := by
  intro n
  induction n with
  | zero => intro x1 u hm; exact z_none hm
  | succ n ih =>
    intro x1 u hm
    rw [mH_clear_L2] at hm
    refine z_iload_n hC dX1_clear_2 rfl 1 rfl ?_
    refine z_bipush hC dX1_clear_3 kB_10 ?_
    refine z_icmp_ge (tgt := 38) hC hm dX1_clear_5 (by decide) (fun hm => ?_) (fun hm => ?_)
    · refine z_aload_n hC dX1_clear_38 rfl 0 rfl ?_
      refine z_iconst hC dX1_clear_39 kI_1 ?_
      refine pH_X1_33_o hC hI (fun _ h => h) dX1_clear_40 ?_
      refine zuH (u2 := (H_put_late_clauses_stepCount_sounds_swaps ((1 : Int32), (H_clauses u), (H_stepCount u), (H_sounds u), (H_swaps u)) u)) rfl ?_
      refine z_aload_n hC dX1_clear_43 rfl 0 rfl ?_
      refine z_iconst hC dX1_clear_44 kI_0 ?_
      refine pH_X1_37_o hC hI (fun _ h => h) dX1_clear_45 ?_
      refine zuH (u2 := (H_put_late_clauses_stepCount_sounds_swaps ((1 : Int32), (0 : Int32), (H_stepCount u), (H_sounds u), (H_swaps u)) u)) rfl ?_
      refine z_aload_n hC dX1_clear_48 rfl 0 rfl ?_
      refine z_iconst hC dX1_clear_49 kI_0 ?_
      refine pH_X1_40_o hC hI (fun _ h => h) dX1_clear_50 ?_
      refine zuH (u2 := (H_put_late_clauses_stepCount_sounds_swaps ((1 : Int32), (0 : Int32), (0 : Int32), (H_sounds u), (H_swaps u)) u)) rfl ?_
      exact rvH (fin := fun z => H_put_late_clauses_stepCount_sounds_swaps z u) hC hr dX1_clear_53 hm rfl
    · refine z_aload_n hC dX1_clear_8 rfl 0 rfl ?_
      refine gH_X1_9_o hC dX1_clear_9 ?_
      refine z_iload_n hC dX1_clear_12 rfl 1 rfl ?_
      refine z_iload_n hC dX1_clear_13 rfl 1 rfl ?_
      refine sH_sounds hC hI (fun _ h => h) hm dX1_clear_14 (fun hm => ?_)
      refine zuH (u2 := (H_put_late_clauses_stepCount_sounds_swaps ((H_late u), (H_clauses u), (H_stepCount u), (upd (H_sounds u) (x1).toNatClampNeg x1), (H_swaps u)) u)) rfl ?_
      refine z_aload_n hC dX1_clear_15 rfl 0 rfl ?_
      refine gH_X1_9_o hC dX1_clear_16 ?_
      refine z_bipush hC dX1_clear_19 kB_10 ?_
      refine z_iload_n hC dX1_clear_21 rfl 1 rfl ?_
      refine z_iadd hC dX1_clear_22 ?_
      refine z_iload_n hC dX1_clear_23 rfl 1 rfl ?_
      refine sH_sounds hC hI (fun _ h => h) hm dX1_clear_24 (fun hm => ?_)
      refine zuH (u2 := (H_put_late_clauses_stepCount_sounds_swaps ((H_late u), (H_clauses u), (H_stepCount u), (upd (upd (H_sounds u) (x1).toNatClampNeg x1) (((10 : Int32) + x1)).toNatClampNeg x1), (H_swaps u)) u)) rfl ?_
      refine z_aload_n hC dX1_clear_25 rfl 0 rfl ?_
      refine gH_X1_15_o hC dX1_clear_26 ?_
      refine z_iload_n hC dX1_clear_29 rfl 1 rfl ?_
      refine z_iload_n hC dX1_clear_30 rfl 1 rfl ?_
      refine sH_swaps hC hI (fun _ h => h) hm dX1_clear_31 (fun hm => ?_)
      refine zuH (u2 := (H_put_late_clauses_stepCount_sounds_swaps ((H_late u), (H_clauses u), (H_stepCount u), (upd (upd (H_sounds u) (x1).toNatClampNeg x1) (((10 : Int32) + x1)).toNatClampNeg x1), (upd (H_swaps u) (x1).toNatClampNeg x1)) u)) rfl ?_
      refine z_iinc (lv' := [(1, .int (x1 + (1 : Int32))), (0, .ref (ad 0))]) (k := 1) (v := (x1 + (1 : Int32))) hC dX1_clear_32 rfl rfl (by decide) rfl ?_
      refine z_goto (tgt := 2) hC dX1_clear_35 (by decide) ?_
      refine z_lv hC [1, 0] rfl ?_
      exact ih _ _ hm
def mH_clear (u : SH) : Option (Int32 × Int32 × Int32 × (Nat → Int32) × (Nat → Int32)) :=
  mH_clear_L2 256 (0 : Int32) u
set_option maxRecDepth 100000 in
set_option maxHeartbeats 4000000 in
theorem cH_clear {l : Launch} {D : va_G} {cA : Nat → ClassId} {ad : Nat → Nat} {tK tB : Nat} {kS vS : Nat → Nat} (hI : zInj ad 7) (u : SH) {w' : Int32 × Int32 × Int32 × (Nat → Int32) × (Nat → Int32)} (hm : mH_clear u = some w') : Met l yX1_clear (zWs yX1_clear cX1_clear 2 none) (zRm 0) (va_Pc [.ref (ad 0)] (zPre D (zTy cA) (zE tK tB kS vS) (zAd ad 7) (wH cA ad u))) (zQv (zBw D (wH cA ad (H_put_late_clauses_stepCount_sounds_swaps w' u))) (zAd ad 7)) 0 0 (zAd ad 7) := by
  refine z_met (lv := [(0, .ref (ad 0))]) plX1 rfl rfl (Nat.le_of_ble_eq_true rfl) rfl ?_
  intro p e s m below meth c hC hr hin
  unfold mH_clear at hm
  refine z_iconst hC dX1_clear_0 kI_0 ?_
  refine z_istore_n (lv' := [(1, .int (0 : Int32)), (0, .ref (ad 0))]) hC dX1_clear_1 rfl (by decide) rfl ?_
  refine z_lv hC [1, 0] rfl ?_
  exact lH_clear_2 hI hC hr _ _ _ hm
theorem aH_sounds {p : Program} {l : Launch} {e : Env} {R : Room} {s : State} {m : MethodId} {args : Array Value} {below : List Frame} {meth : Method} {c : Code} {Q : State → Prop} {D : va_G} {A : Nat → Prop} {cc : ByteArray} {nL : Nat} {lv : List (Nat × Value)} {pc : Nat} {st : List Value} {cA : Nat → ClassId} {ad : Nat → Nat} {E : zEt} {own : String} {u : SH} {i : Int32} {β : Type} {k : Option β} {r : β} (C : zC p s m args meth c cc nL own zTS D (zTy cA) A E) (hm : zgi i 20 k = some r) (hd : decode cc pc = .ok (.iaload, 1)) (g : k = some r → zG p l e R s m args below meth c nL D A Q (wH cA ad u) lv (pc + 1) (.int (H_sounds u i.toNatClampNeg) :: st)) : zG p l e R s m args below meth c nL D A Q (wH cA ad u) lv pc (.int i :: .ref (ad 1) :: st) := fun H locs ls hP hS hL => va_iald C.1.1 C.1.2.1 C.2.1 hP 1 0 (heH_sounds cA ad u) rfl (zgi_some hm).1 hd (g (zgi_some hm).2 H locs ls hP hS hL)
def mH_soundOf (x1 : Int32) (x2 : Int32) (u : SH) : Option Int32 :=
  zgi ((x2 * (10 : Int32)) + x1) 20 (some ((H_sounds u) (((x2 * (10 : Int32)) + x1)).toNatClampNeg))
set_option maxRecDepth 100000 in
set_option maxHeartbeats 4000000 in
theorem cH_soundOf {l : Launch} {D : va_G} {cA : Nat → ClassId} {ad : Nat → Nat} {tK tB : Nat} {kS vS : Nat → Nat} (hI : zInj ad 7) (x1 : Int32) (x2 : Int32) (u : SH) {r : Int32} (hm : mH_soundOf x1 x2 u = some r) : Met l yX1_soundOf (zWs yX1_soundOf cX1_soundOf 3 (some .int)) (zRm 0) (va_Pc [.ref (ad 0), .int x1, .int x2] (zPre D (zTy cA) (zE tK tB kS vS) zA0 (wH cA ad u))) (zQi r zB0 zA0) 0 0 zA0 := by
  refine z_met (lv := [(0, .ref (ad 0)), (1, .int x1), (2, .int x2)]) plX1 rfl rfl (Nat.le_of_ble_eq_true rfl) rfl ?_
  intro p e s m below meth c hC hr hin
  unfold mH_soundOf at hm
  refine z_aload_n hC dX1_soundOf_0 rfl 0 rfl ?_
  refine gH_X1_9_o hC dX1_soundOf_1 ?_
  refine z_iload_n hC dX1_soundOf_4 rfl 2 rfl ?_
  refine z_bipush hC dX1_soundOf_5 kB_10 ?_
  refine z_imul hC dX1_soundOf_7 ?_
  refine z_iload_n hC dX1_soundOf_8 rfl 1 rfl ?_
  refine z_iadd hC dX1_soundOf_9 ?_
  refine aH_sounds hC hm dX1_soundOf_10 (fun hm => ?_)
  exact z_iret hC hr rfl dX1_soundOf_11 (fun _ _ => trivial) (Option.some.inj hm)
theorem aH_swaps {p : Program} {l : Launch} {e : Env} {R : Room} {s : State} {m : MethodId} {args : Array Value} {below : List Frame} {meth : Method} {c : Code} {Q : State → Prop} {D : va_G} {A : Nat → Prop} {cc : ByteArray} {nL : Nat} {lv : List (Nat × Value)} {pc : Nat} {st : List Value} {cA : Nat → ClassId} {ad : Nat → Nat} {E : zEt} {own : String} {u : SH} {i : Int32} {β : Type} {k : Option β} {r : β} (C : zC p s m args meth c cc nL own zTS D (zTy cA) A E) (hm : zgi i 10 k = some r) (hd : decode cc pc = .ok (.iaload, 1)) (g : k = some r → zG p l e R s m args below meth c nL D A Q (wH cA ad u) lv (pc + 1) (.int (H_swaps u i.toNatClampNeg) :: st)) : zG p l e R s m args below meth c nL D A Q (wH cA ad u) lv pc (.int i :: .ref (ad 2) :: st) := fun H locs ls hP hS hL => va_iald C.1.1 C.1.2.1 C.2.1 hP 2 0 (heH_swaps cA ad u) rfl (zgi_some hm).1 hd (g (zgi_some hm).2 H locs ls hP hS hL)
def mH_swapOf (x1 : Int32) (u : SH) : Option Int32 :=
  zgi x1 10 (some ((H_swaps u) (x1).toNatClampNeg))
set_option maxRecDepth 100000 in
set_option maxHeartbeats 4000000 in
theorem cH_swapOf {l : Launch} {D : va_G} {cA : Nat → ClassId} {ad : Nat → Nat} {tK tB : Nat} {kS vS : Nat → Nat} (hI : zInj ad 7) (x1 : Int32) (u : SH) {r : Int32} (hm : mH_swapOf x1 u = some r) : Met l yX1_swapOf (zWs yX1_swapOf cX1_swapOf 2 (some .int)) (zRm 0) (va_Pc [.ref (ad 0), .int x1] (zPre D (zTy cA) (zE tK tB kS vS) zA0 (wH cA ad u))) (zQi r zB0 zA0) 0 0 zA0 := by
  refine z_met (lv := [(0, .ref (ad 0)), (1, .int x1)]) plX1 rfl rfl (Nat.le_of_ble_eq_true rfl) rfl ?_
  intro p e s m below meth c hC hr hin
  unfold mH_swapOf at hm
  refine z_aload_n hC dX1_swapOf_0 rfl 0 rfl ?_
  refine gH_X1_15_o hC dX1_swapOf_1 ?_
  refine z_iload_n hC dX1_swapOf_4 rfl 1 rfl ?_
  refine aH_swaps hC hm dX1_swapOf_5 (fun hm => ?_)
  exact z_iret hC hr rfl dX1_swapOf_6 (fun _ _ => trivial) (Option.some.inj hm)
theorem gH_X1_40_o {p : Program} {l : Launch} {e : Env} {R : Room} {s : State} {m : MethodId} {args : Array Value} {below : List Frame} {meth : Method} {c : Code} {Q : State → Prop} {D : va_G} {A : Nat → Prop} {cc : ByteArray} {nL : Nat} {lv : List (Nat × Value)} {pc : Nat} {st : List Value} {cA : Nat → ClassId} {ad : Nat → Nat} {E : zEt} {u : SH} (C : zC p s m args meth c cc nL RX1 zTS D (zTy cA) A E) (hd : decode cc pc = .ok (.getfield 40, 3)) {v : Int32} (hv : H_stepCount u = v) (g : zG p l e R s m args below meth c nL D A Q (wH cA ad u) lv (pc + 3) (.int v :: st)) : zG p l e R s m args below meth c nL D A Q (wH cA ad u) lv pc (.ref (ad 0) :: st) := by
  subst hv; exact fun H locs ls hP hS hL => va_get (D := D) (ci := 1) (C := RX1) (T := TX1) (N := 9) C.1.1 C.1.2.1 C.1.2.2.2.2 inlX1 C.1.2.2.2.1 C.2.1 hP 0 (heH_o cA ad u) rfl 8 (by decide) (C.1.2.2.2.2 _ mfX1_40) (fun _ h9 => h9) (v := .int (H_stepCount u)) rfl hd (g H locs ls hP hS hL)
theorem gH_X1_27_o {p : Program} {l : Launch} {e : Env} {R : Room} {s : State} {m : MethodId} {args : Array Value} {below : List Frame} {meth : Method} {c : Code} {Q : State → Prop} {D : va_G} {A : Nat → Prop} {cc : ByteArray} {nL : Nat} {lv : List (Nat × Value)} {pc : Nat} {st : List Value} {cA : Nat → ClassId} {ad : Nat → Nat} {E : zEt} {u : SH} (C : zC p s m args meth c cc nL RX1 zTS D (zTy cA) A E) (hd : decode cc pc = .ok (.getfield 27, 3)) (g : zG p l e R s m args below meth c nL D A Q (wH cA ad u) lv (pc + 3) (.ref (ad 6) :: st)) : zG p l e R s m args below meth c nL D A Q (wH cA ad u) lv pc (.ref (ad 0) :: st) := by
  exact fun H locs ls hP hS hL => va_get (D := D) (ci := 1) (C := RX1) (T := TX1) (N := 9) C.1.1 C.1.2.1 C.1.2.2.2.2 inlX1 C.1.2.2.2.1 C.2.1 hP 0 (heH_o cA ad u) rfl 7 (by decide) (C.1.2.2.2.2 _ mfX1_27) (fun _ h9 => h9) (v := .ref (ad 6)) rfl hd (g H locs ls hP hS hL)
theorem nH_steps {p : Program} {l : Launch} {e : Env} {R : Room} {s : State} {m : MethodId} {args : Array Value} {below : List Frame} {meth : Method} {c : Code} {Q : State → Prop} {D : va_G} {A : Nat → Prop} {cc : ByteArray} {nL : Nat} {lv : List (Nat × Value)} {pc : Nat} {st : List Value} {cA : Nat → ClassId} {ad : Nat → Nat} {E : zEt} {own : String} {u : SH} (C : zC p s m args meth c cc nL own zTS D (zTy cA) A E) (hd : decode cc pc = .ok (.arraylength, 1)) (g : zG p l e R s m args below meth c nL D A Q (wH cA ad u) lv (pc + 1) (.int (100 : Int32) :: st)) : zG p l e R s m args below meth c nL D A Q (wH cA ad u) lv pc (.ref (ad 6) :: st) := fun H locs ls hP hS hL => va_alen C.1.1 C.1.2.1 C.2.1 hP 6 0 (heH_steps cA ad u) rfl (show Int32.ofNat 100 = (100 : Int32) by decide) hd (g H locs ls hP hS hL)
def H_put_stepCount_steps (p : Int32 × (Nat → Int32)) (u : SH) : SH := ((u.1.1, (p.1, u.1.2.2)), (u.2.1, (u.2.2.1, (u.2.2.2.1, p.2))))
theorem sH_steps {p : Program} {l : Launch} {e : Env} {R : Room} {s : State} {m : MethodId} {args : Array Value} {below : List Frame} {meth : Method} {c : Code} {Q : State → Prop} {D : va_G} {A : Nat → Prop} {cc : ByteArray} {nL : Nat} {lv : List (Nat × Value)} {pc : Nat} {st : List Value} {cA : Nat → ClassId} {ad : Nat → Nat} {E : zEt} {own : String} {u : SH} {i : Int32} {x : Int32} {β : Type} {k : Option β} {r : β} (C : zC p s m args meth c cc nL own zTS D (zTy cA) A E) (hI : zInj ad 7) (hA : ∀ q, zAd ad 7 q → A q) (hm : zgi i 100 k = some r) (hd : decode cc pc = .ok (.iastore, 1)) (g : k = some r → zG p l e R s m args below meth c nL D A Q (wH cA ad (H_set_steps (upd (H_steps u) i.toNatClampNeg x) u)) lv (pc + 1) st) : zG p l e R s m args below meth c nL D A Q (wH cA ad u) lv pc (.int x :: .int i :: .ref (ad 6) :: st) := fun H locs ls hP hS hL => va_iast C.1.1 C.1.2.1 C.2.1 hP (zD_mono (wH_D hI cA u) hA) hS 6 0 (heH_steps cA ad u) rfl (zgi_some hm).1 hd (fun H1 locs1 hP1 _ hS1 => g (zgi_some hm).2 H1 locs1 ls hP1 hS1 hL)
def mH_addStep (x1 : Int32) (u : SH) : Option (Int32 × (Nat → Int32)) :=
  if (100 : Int32) ≤ (H_stepCount u) then (some ((H_stepCount u), (H_steps u))) else (zgi (H_stepCount u) 100 (some (((H_stepCount u) + (1 : Int32)), (upd (H_steps u) ((H_stepCount u)).toNatClampNeg x1))))
set_option maxRecDepth 100000 in
set_option maxHeartbeats 4000000 in
theorem cH_addStep {l : Launch} {D : va_G} {cA : Nat → ClassId} {ad : Nat → Nat} {tK tB : Nat} {kS vS : Nat → Nat} (hI : zInj ad 7) (x1 : Int32) (u : SH) {w' : Int32 × (Nat → Int32)} (hm : mH_addStep x1 u = some w') : Met l yX1_addStep (zWs yX1_addStep cX1_addStep 2 none) (zRm 0) (va_Pc [.ref (ad 0), .int x1] (zPre D (zTy cA) (zE tK tB kS vS) (zAd ad 7) (wH cA ad u))) (zQv (zBw D (wH cA ad (H_put_stepCount_steps w' u))) (zAd ad 7)) 0 0 (zAd ad 7) := by
  refine z_met (lv := [(0, .ref (ad 0)), (1, .int x1)]) plX1 rfl rfl (Nat.le_of_ble_eq_true rfl) rfl ?_
  intro p e s m below meth c hC hr hin
  unfold mH_addStep at hm
  refine z_aload_n hC dX1_addStep_0 rfl 0 rfl ?_
  refine gH_X1_40_o (v := (H_stepCount u)) hC dX1_addStep_1 rfl ?_
  refine z_aload_n hC dX1_addStep_4 rfl 0 rfl ?_
  refine gH_X1_27_o hC dX1_addStep_5 ?_
  refine nH_steps hC dX1_addStep_8 ?_
  refine z_icmp_ge (tgt := 32) hC hm dX1_addStep_9 (by decide) (fun hm => ?_) (fun hm => ?_)
  · exact rvH (fin := fun z => H_put_stepCount_steps z u) hC hr dX1_addStep_32 hm rfl
  · refine z_aload_n hC dX1_addStep_12 rfl 0 rfl ?_
    refine gH_X1_27_o hC dX1_addStep_13 ?_
    refine z_aload_n hC dX1_addStep_16 rfl 0 rfl ?_
    refine gH_X1_40_o (v := (H_stepCount u)) hC dX1_addStep_17 rfl ?_
    refine z_iload_n hC dX1_addStep_20 rfl 1 rfl ?_
    refine sH_steps hC hI (fun _ h => h) hm dX1_addStep_21 (fun hm => ?_)
    refine zuH (u2 := (H_put_stepCount_steps ((H_stepCount u), (upd (H_steps u) ((H_stepCount u)).toNatClampNeg x1)) u)) rfl ?_
    refine z_aload_n hC dX1_addStep_22 rfl 0 rfl ?_
    refine z_dup hC dX1_addStep_23 rfl ?_
    refine gH_X1_40_o (v := (H_stepCount u)) hC dX1_addStep_24 rfl ?_
    refine z_iconst hC dX1_addStep_27 kI_1 ?_
    refine z_iadd hC dX1_addStep_28 ?_
    refine pH_X1_40_o hC hI (fun _ h => h) dX1_addStep_29 ?_
    refine zuH (u2 := (H_put_stepCount_steps (((H_stepCount u) + (1 : Int32)), (upd (H_steps u) ((H_stepCount u)).toNatClampNeg x1)) u)) rfl ?_
    exact rvH (fin := fun z => H_put_stepCount_steps z u) hC hr dX1_addStep_32 hm rfl
theorem gH_X1_37_o {p : Program} {l : Launch} {e : Env} {R : Room} {s : State} {m : MethodId} {args : Array Value} {below : List Frame} {meth : Method} {c : Code} {Q : State → Prop} {D : va_G} {A : Nat → Prop} {cc : ByteArray} {nL : Nat} {lv : List (Nat × Value)} {pc : Nat} {st : List Value} {cA : Nat → ClassId} {ad : Nat → Nat} {E : zEt} {u : SH} (C : zC p s m args meth c cc nL RX1 zTS D (zTy cA) A E) (hd : decode cc pc = .ok (.getfield 37, 3)) {v : Int32} (hv : H_clauses u = v) (g : zG p l e R s m args below meth c nL D A Q (wH cA ad u) lv (pc + 3) (.int v :: st)) : zG p l e R s m args below meth c nL D A Q (wH cA ad u) lv pc (.ref (ad 0) :: st) := by
  subst hv; exact fun H locs ls hP hS hL => va_get (D := D) (ci := 1) (C := RX1) (T := TX1) (N := 9) C.1.1 C.1.2.1 C.1.2.2.2.2 inlX1 C.1.2.2.2.1 C.2.1 hP 0 (heH_o cA ad u) rfl 6 (by decide) (C.1.2.2.2.2 _ mfX1_37) (fun _ h9 => h9) (v := .int (H_clauses u)) rfl hd (g H locs ls hP hS hL)
def H_put_clauses_senses_amounts_ends (p : Int32 × (Nat → Int32) × (Nat → Int32) × (Nat → Int32)) (u : SH) : SH := (((u.1.1.1, p.1), u.1.2), ((u.2.1.1, p.2.1), (p.2.2.1, (p.2.2.2, u.2.2.2.2))))
theorem gH_X1_18_o {p : Program} {l : Launch} {e : Env} {R : Room} {s : State} {m : MethodId} {args : Array Value} {below : List Frame} {meth : Method} {c : Code} {Q : State → Prop} {D : va_G} {A : Nat → Prop} {cc : ByteArray} {nL : Nat} {lv : List (Nat × Value)} {pc : Nat} {st : List Value} {cA : Nat → ClassId} {ad : Nat → Nat} {E : zEt} {u : SH} (C : zC p s m args meth c cc nL RX1 zTS D (zTy cA) A E) (hd : decode cc pc = .ok (.getfield 18, 3)) (g : zG p l e R s m args below meth c nL D A Q (wH cA ad u) lv (pc + 3) (.ref (ad 3) :: st)) : zG p l e R s m args below meth c nL D A Q (wH cA ad u) lv pc (.ref (ad 0) :: st) := by
  exact fun H locs ls hP hS hL => va_get (D := D) (ci := 1) (C := RX1) (T := TX1) (N := 9) C.1.1 C.1.2.1 C.1.2.2.2.2 inlX1 C.1.2.2.2.1 C.2.1 hP 0 (heH_o cA ad u) rfl 3 (by decide) (C.1.2.2.2.2 _ mfX1_18) (fun _ h9 => h9) (v := .ref (ad 3)) rfl hd (g H locs ls hP hS hL)
theorem sH_senses {p : Program} {l : Launch} {e : Env} {R : Room} {s : State} {m : MethodId} {args : Array Value} {below : List Frame} {meth : Method} {c : Code} {Q : State → Prop} {D : va_G} {A : Nat → Prop} {cc : ByteArray} {nL : Nat} {lv : List (Nat × Value)} {pc : Nat} {st : List Value} {cA : Nat → ClassId} {ad : Nat → Nat} {E : zEt} {own : String} {u : SH} {i : Int32} {x : Int32} {β : Type} {k : Option β} {r : β} (C : zC p s m args meth c cc nL own zTS D (zTy cA) A E) (hI : zInj ad 7) (hA : ∀ q, zAd ad 7 q → A q) (hm : zgi i 10 k = some r) (hd : decode cc pc = .ok (.iastore, 1)) (g : k = some r → zG p l e R s m args below meth c nL D A Q (wH cA ad (H_set_senses (upd (H_senses u) i.toNatClampNeg x) u)) lv (pc + 1) st) : zG p l e R s m args below meth c nL D A Q (wH cA ad u) lv pc (.int x :: .int i :: .ref (ad 3) :: st) := fun H locs ls hP hS hL => va_iast C.1.1 C.1.2.1 C.2.1 hP (zD_mono (wH_D hI cA u) hA) hS 3 0 (heH_senses cA ad u) rfl (zgi_some hm).1 hd (fun H1 locs1 hP1 _ hS1 => g (zgi_some hm).2 H1 locs1 ls hP1 hS1 hL)
theorem gH_X1_21_o {p : Program} {l : Launch} {e : Env} {R : Room} {s : State} {m : MethodId} {args : Array Value} {below : List Frame} {meth : Method} {c : Code} {Q : State → Prop} {D : va_G} {A : Nat → Prop} {cc : ByteArray} {nL : Nat} {lv : List (Nat × Value)} {pc : Nat} {st : List Value} {cA : Nat → ClassId} {ad : Nat → Nat} {E : zEt} {u : SH} (C : zC p s m args meth c cc nL RX1 zTS D (zTy cA) A E) (hd : decode cc pc = .ok (.getfield 21, 3)) (g : zG p l e R s m args below meth c nL D A Q (wH cA ad u) lv (pc + 3) (.ref (ad 4) :: st)) : zG p l e R s m args below meth c nL D A Q (wH cA ad u) lv pc (.ref (ad 0) :: st) := by
  exact fun H locs ls hP hS hL => va_get (D := D) (ci := 1) (C := RX1) (T := TX1) (N := 9) C.1.1 C.1.2.1 C.1.2.2.2.2 inlX1 C.1.2.2.2.1 C.2.1 hP 0 (heH_o cA ad u) rfl 4 (by decide) (C.1.2.2.2.2 _ mfX1_21) (fun _ h9 => h9) (v := .ref (ad 4)) rfl hd (g H locs ls hP hS hL)
theorem sH_amounts {p : Program} {l : Launch} {e : Env} {R : Room} {s : State} {m : MethodId} {args : Array Value} {below : List Frame} {meth : Method} {c : Code} {Q : State → Prop} {D : va_G} {A : Nat → Prop} {cc : ByteArray} {nL : Nat} {lv : List (Nat × Value)} {pc : Nat} {st : List Value} {cA : Nat → ClassId} {ad : Nat → Nat} {E : zEt} {own : String} {u : SH} {i : Int32} {x : Int32} {β : Type} {k : Option β} {r : β} (C : zC p s m args meth c cc nL own zTS D (zTy cA) A E) (hI : zInj ad 7) (hA : ∀ q, zAd ad 7 q → A q) (hm : zgi i 10 k = some r) (hd : decode cc pc = .ok (.iastore, 1)) (g : k = some r → zG p l e R s m args below meth c nL D A Q (wH cA ad (H_set_amounts (upd (H_amounts u) i.toNatClampNeg x) u)) lv (pc + 1) st) : zG p l e R s m args below meth c nL D A Q (wH cA ad u) lv pc (.int x :: .int i :: .ref (ad 4) :: st) := fun H locs ls hP hS hL => va_iast C.1.1 C.1.2.1 C.2.1 hP (zD_mono (wH_D hI cA u) hA) hS 4 0 (heH_amounts cA ad u) rfl (zgi_some hm).1 hd (fun H1 locs1 hP1 _ hS1 => g (zgi_some hm).2 H1 locs1 ls hP1 hS1 hL)
theorem gH_X1_24_o {p : Program} {l : Launch} {e : Env} {R : Room} {s : State} {m : MethodId} {args : Array Value} {below : List Frame} {meth : Method} {c : Code} {Q : State → Prop} {D : va_G} {A : Nat → Prop} {cc : ByteArray} {nL : Nat} {lv : List (Nat × Value)} {pc : Nat} {st : List Value} {cA : Nat → ClassId} {ad : Nat → Nat} {E : zEt} {u : SH} (C : zC p s m args meth c cc nL RX1 zTS D (zTy cA) A E) (hd : decode cc pc = .ok (.getfield 24, 3)) (g : zG p l e R s m args below meth c nL D A Q (wH cA ad u) lv (pc + 3) (.ref (ad 5) :: st)) : zG p l e R s m args below meth c nL D A Q (wH cA ad u) lv pc (.ref (ad 0) :: st) := by
  exact fun H locs ls hP hS hL => va_get (D := D) (ci := 1) (C := RX1) (T := TX1) (N := 9) C.1.1 C.1.2.1 C.1.2.2.2.2 inlX1 C.1.2.2.2.1 C.2.1 hP 0 (heH_o cA ad u) rfl 5 (by decide) (C.1.2.2.2.2 _ mfX1_24) (fun _ h9 => h9) (v := .ref (ad 5)) rfl hd (g H locs ls hP hS hL)
theorem sH_ends {p : Program} {l : Launch} {e : Env} {R : Room} {s : State} {m : MethodId} {args : Array Value} {below : List Frame} {meth : Method} {c : Code} {Q : State → Prop} {D : va_G} {A : Nat → Prop} {cc : ByteArray} {nL : Nat} {lv : List (Nat × Value)} {pc : Nat} {st : List Value} {cA : Nat → ClassId} {ad : Nat → Nat} {E : zEt} {own : String} {u : SH} {i : Int32} {x : Int32} {β : Type} {k : Option β} {r : β} (C : zC p s m args meth c cc nL own zTS D (zTy cA) A E) (hI : zInj ad 7) (hA : ∀ q, zAd ad 7 q → A q) (hm : zgi i 10 k = some r) (hd : decode cc pc = .ok (.iastore, 1)) (g : k = some r → zG p l e R s m args below meth c nL D A Q (wH cA ad (H_set_ends (upd (H_ends u) i.toNatClampNeg x) u)) lv (pc + 1) st) : zG p l e R s m args below meth c nL D A Q (wH cA ad u) lv pc (.int x :: .int i :: .ref (ad 5) :: st) := fun H locs ls hP hS hL => va_iast C.1.1 C.1.2.1 C.2.1 hP (zD_mono (wH_D hI cA u) hA) hS 5 0 (heH_ends cA ad u) rfl (zgi_some hm).1 hd (fun H1 locs1 hP1 _ hS1 => g (zgi_some hm).2 H1 locs1 ls hP1 hS1 hL)
def mH_addClause (x1 : Int32) (x2 : Int32) (u : SH) : Option (Int32 × (Nat → Int32) × (Nat → Int32) × (Nat → Int32)) :=
  if (10 : Int32) ≤ (H_clauses u) then (some ((H_clauses u), (H_senses u), (H_amounts u), (H_ends u))) else (zgi (H_clauses u) 10 (zgi (H_clauses u) 10 (zgi (H_clauses u) 10 (some (((H_clauses u) + (1 : Int32)), (upd (H_senses u) ((H_clauses u)).toNatClampNeg x1), (upd (H_amounts u) ((H_clauses u)).toNatClampNeg x2), (upd (H_ends u) ((H_clauses u)).toNatClampNeg (H_stepCount u)))))))
set_option maxRecDepth 100000 in
set_option maxHeartbeats 4000000 in
theorem cH_addClause {l : Launch} {D : va_G} {cA : Nat → ClassId} {ad : Nat → Nat} {tK tB : Nat} {kS vS : Nat → Nat} (hI : zInj ad 7) (x1 : Int32) (x2 : Int32) (u : SH) {w' : Int32 × (Nat → Int32) × (Nat → Int32) × (Nat → Int32)} (hm : mH_addClause x1 x2 u = some w') : Met l yX1_addClause (zWs yX1_addClause cX1_addClause 3 none) (zRm 0) (va_Pc [.ref (ad 0), .int x1, .int x2] (zPre D (zTy cA) (zE tK tB kS vS) (zAd ad 7) (wH cA ad u))) (zQv (zBw D (wH cA ad (H_put_clauses_senses_amounts_ends w' u))) (zAd ad 7)) 0 0 (zAd ad 7) := by
  refine z_met (lv := [(0, .ref (ad 0)), (1, .int x1), (2, .int x2)]) plX1 rfl rfl (Nat.le_of_ble_eq_true rfl) rfl ?_
  intro p e s m below meth c hC hr hin
  unfold mH_addClause at hm
  refine z_aload_n hC dX1_addClause_0 rfl 0 rfl ?_
  refine gH_X1_37_o (v := (H_clauses u)) hC dX1_addClause_1 rfl ?_
  refine z_bipush hC dX1_addClause_4 kB_10 ?_
  refine z_icmp_ge (tgt := 52) hC hm dX1_addClause_6 (by decide) (fun hm => ?_) (fun hm => ?_)
  · exact rvH (fin := fun z => H_put_clauses_senses_amounts_ends z u) hC hr dX1_addClause_52 hm rfl
  · refine z_aload_n hC dX1_addClause_9 rfl 0 rfl ?_
    refine gH_X1_18_o hC dX1_addClause_10 ?_
    refine z_aload_n hC dX1_addClause_13 rfl 0 rfl ?_
    refine gH_X1_37_o (v := (H_clauses u)) hC dX1_addClause_14 rfl ?_
    refine z_iload_n hC dX1_addClause_17 rfl 1 rfl ?_
    refine sH_senses hC hI (fun _ h => h) hm dX1_addClause_18 (fun hm => ?_)
    refine zuH (u2 := (H_put_clauses_senses_amounts_ends ((H_clauses u), (upd (H_senses u) ((H_clauses u)).toNatClampNeg x1), (H_amounts u), (H_ends u)) u)) rfl ?_
    refine z_aload_n hC dX1_addClause_19 rfl 0 rfl ?_
    refine gH_X1_21_o hC dX1_addClause_20 ?_
    refine z_aload_n hC dX1_addClause_23 rfl 0 rfl ?_
    refine gH_X1_37_o (v := (H_clauses u)) hC dX1_addClause_24 rfl ?_
    refine z_iload_n hC dX1_addClause_27 rfl 2 rfl ?_
    refine sH_amounts hC hI (fun _ h => h) hm dX1_addClause_28 (fun hm => ?_)
    refine zuH (u2 := (H_put_clauses_senses_amounts_ends ((H_clauses u), (upd (H_senses u) ((H_clauses u)).toNatClampNeg x1), (upd (H_amounts u) ((H_clauses u)).toNatClampNeg x2), (H_ends u)) u)) rfl ?_
    refine z_aload_n hC dX1_addClause_29 rfl 0 rfl ?_
    refine gH_X1_24_o hC dX1_addClause_30 ?_
    refine z_aload_n hC dX1_addClause_33 rfl 0 rfl ?_
    refine gH_X1_37_o (v := (H_clauses u)) hC dX1_addClause_34 rfl ?_
    refine z_aload_n hC dX1_addClause_37 rfl 0 rfl ?_
    refine gH_X1_40_o (v := (H_stepCount u)) hC dX1_addClause_38 rfl ?_
    refine sH_ends hC hI (fun _ h => h) hm dX1_addClause_41 (fun hm => ?_)
    refine zuH (u2 := (H_put_clauses_senses_amounts_ends ((H_clauses u), (upd (H_senses u) ((H_clauses u)).toNatClampNeg x1), (upd (H_amounts u) ((H_clauses u)).toNatClampNeg x2), (upd (H_ends u) ((H_clauses u)).toNatClampNeg (H_stepCount u))) u)) rfl ?_
    refine z_aload_n hC dX1_addClause_42 rfl 0 rfl ?_
    refine z_dup hC dX1_addClause_43 rfl ?_
    refine gH_X1_37_o (v := (H_clauses u)) hC dX1_addClause_44 rfl ?_
    refine z_iconst hC dX1_addClause_47 kI_1 ?_
    refine z_iadd hC dX1_addClause_48 ?_
    refine pH_X1_37_o hC hI (fun _ h => h) dX1_addClause_49 ?_
    refine zuH (u2 := (H_put_clauses_senses_amounts_ends (((H_clauses u) + (1 : Int32)), (upd (H_senses u) ((H_clauses u)).toNatClampNeg x1), (upd (H_amounts u) ((H_clauses u)).toNatClampNeg x2), (upd (H_ends u) ((H_clauses u)).toNatClampNeg (H_stepCount u))) u)) rfl ?_
    exact rvH (fin := fun z => H_put_clauses_senses_amounts_ends z u) hC hr dX1_addClause_52 hm rfl
theorem nF_facts {p : Program} {l : Launch} {e : Env} {R : Room} {s : State} {m : MethodId} {args : Array Value} {below : List Frame} {meth : Method} {c : Code} {Q : State → Prop} {D : va_G} {A : Nat → Prop} {cc : ByteArray} {nL : Nat} {lv : List (Nat × Value)} {pc : Nat} {st : List Value} {cA : Nat → ClassId} {ad : Nat → Nat} {E : zEt} {own : String} {u : SF} (C : zC p s m args meth c cc nL own zTS D (zTy cA) A E) (hd : decode cc pc = .ok (.arraylength, 1)) (g : zG p l e R s m args below meth c nL D A Q (wF cA ad u) lv (pc + 1) (.int (5 : Int32) :: st)) : zG p l e R s m args below meth c nL D A Q (wF cA ad u) lv pc (.ref (ad 0) :: st) := fun H locs ls hP hS hL => va_alen C.1.1 C.1.2.1 C.2.1 hP 0 0 (heF_facts cA ad u) rfl (show Int32.ofNat 5 = (5 : Int32) by decide) hd (g H locs ls hP hS hL)
theorem aF_facts {p : Program} {l : Launch} {e : Env} {R : Room} {s : State} {m : MethodId} {args : Array Value} {below : List Frame} {meth : Method} {c : Code} {Q : State → Prop} {D : va_G} {A : Nat → Prop} {cc : ByteArray} {nL : Nat} {lv : List (Nat × Value)} {pc : Nat} {st : List Value} {cA : Nat → ClassId} {ad : Nat → Nat} {E : zEt} {own : String} {u : SF} {i : Int32} {β : Type} {k : Option β} {r : β} (C : zC p s m args meth c cc nL own zTS D (zTy cA) A E) (hm : zgi i 5 k = some r) (hd : decode cc pc = .ok (.iaload, 1)) (g : k = some r → zG p l e R s m args below meth c nL D A Q (wF cA ad u) lv (pc + 1) (.int (F_facts u i.toNatClampNeg) :: st)) : zG p l e R s m args below meth c nL D A Q (wF cA ad u) lv pc (.int i :: .ref (ad 0) :: st) := fun H locs ls hP hS hL => va_iald C.1.1 C.1.2.1 C.2.1 hP 0 0 (heF_facts cA ad u) rfl (zgi_some hm).1 hd (g (zgi_some hm).2 H locs ls hP hS hL)
def mF_passes (x0 : Int32) (u : SF) : Option Int32 :=
  if (x0 / (300 : Int32)) < 0 then (some (0 : Int32)) else (if (x0 / (300 : Int32)) < (5 : Int32) then (if ((x0 / (100 : Int32)) - (x0 / (100 : Int32)) / (3 : Int32) * (3 : Int32)) = (0 : Int32) then (zgi (x0 / (300 : Int32)) 5 (if (x0 - x0 / (100 : Int32) * (100 : Int32)) ≤ ((F_facts u) ((x0 / (300 : Int32))).toNatClampNeg) then (some (0 : Int32)) else (some (1 : Int32)))) else (if ((x0 / (100 : Int32)) - (x0 / (100 : Int32)) / (3 : Int32) * (3 : Int32)) = (1 : Int32) then (zgi (x0 / (300 : Int32)) 5 (if ((F_facts u) ((x0 / (300 : Int32))).toNatClampNeg) = (x0 - x0 / (100 : Int32) * (100 : Int32)) then (some (1 : Int32)) else (some (0 : Int32)))) else (zgi (x0 / (300 : Int32)) 5 (if ((F_facts u) ((x0 / (300 : Int32))).toNatClampNeg) ≤ (x0 - x0 / (100 : Int32) * (100 : Int32)) then (some (0 : Int32)) else (some (1 : Int32)))))) else (some (0 : Int32)))
set_option maxRecDepth 100000 in
set_option maxHeartbeats 4000000 in
theorem cF_passes {l : Launch} {D : va_G} {cA : Nat → ClassId} {ad : Nat → Nat} {tK tB : Nat} {kS vS : Nat → Nat} (hI : zInj ad 1) (x0 : Int32) (u : SF) {r : Int32} (hm : mF_passes x0 u = some r) : Met l yX1_passes (zWs yX1_passes cX1_passes 4 (some .boolean)) (zRm 0) (va_Pc [.int x0, .ref (ad 0)] (zPre D (zTy cA) (zE tK tB kS vS) zA0 (wF cA ad u))) (zQi r zB0 zA0) 0 0 zA0 := by
  refine z_met (lv := [(0, .int x0), (1, .ref (ad 0))]) plX1 rfl rfl (Nat.le_of_ble_eq_true rfl) rfl ?_
  intro p e s m below meth c hC hr hin
  unfold mF_passes at hm
  refine z_iload_n hC dX1_passes_0 rfl 0 rfl ?_
  refine z_sipush hC dX1_passes_1 kS_300 ?_
  refine z_idiv hC dX1_passes_4 (by decide) ?_
  refine z_istore_n (lv' := [(2, .int (x0 / (300 : Int32))), (0, .int x0), (1, .ref (ad 0))]) hC dX1_passes_5 rfl (by decide) rfl ?_
  refine z_iload_n hC dX1_passes_6 rfl 0 rfl ?_
  refine z_if_lt (tgt := 16) hC hm dX1_passes_7 (by decide) (fun hm => ?_) (fun hm => ?_)
  · refine z_iconst hC dX1_passes_16 kI_0 ?_
    exact z_iret hC hr rfl dX1_passes_17 (fun _ _ => trivial) (Option.some.inj hm)
  · refine z_iload_n hC dX1_passes_10 rfl 0 rfl ?_
    refine z_aload_n hC dX1_passes_11 rfl 2 rfl ?_
    refine nF_facts hC dX1_passes_12 ?_
    refine z_icmp_lt (tgt := 18) hC hm dX1_passes_13 (by decide) (fun hm => ?_) (fun hm => ?_)
    · refine z_iload_n hC dX1_passes_18 rfl 1 rfl ?_
      refine z_bipush hC dX1_passes_19 kB_100 ?_
      refine z_irem hC dX1_passes_21 (by decide) ?_
      refine z_istore_n (lv' := [(3, .int (x0 - x0 / (100 : Int32) * (100 : Int32))), (2, .int (x0 / (300 : Int32))), (0, .int x0), (1, .ref (ad 0))]) hC dX1_passes_22 rfl (by decide) rfl ?_
      refine z_iload_n hC dX1_passes_23 rfl 2 rfl ?_
      refine z_bipush hC dX1_passes_24 kB_100 ?_
      refine z_idiv hC dX1_passes_26 (by decide) ?_
      refine z_iconst hC dX1_passes_27 kI_3 ?_
      refine z_irem hC dX1_passes_28 (by decide) ?_
      refine z_ite hm (fun h29_0 hm => ?_) (fun h29_0 hm => ?_)
      · refine z_lin hC dX1_passes_29 h29_0 kc_0 rfl (off := 27) rfl (tgt := 56) (by decide) ?_
        refine z_aload_n hC dX1_passes_56 rfl 3 rfl ?_
        refine z_iload_n hC dX1_passes_57 rfl 1 rfl ?_
        refine aF_facts hC hm dX1_passes_58 (fun hm => ?_)
        refine z_iload_n hC dX1_passes_59 rfl 0 rfl ?_
        refine z_icmp_ge (tgt := 67) hC hm dX1_passes_60 (by decide) (fun hm => ?_) (fun hm => ?_)
        · refine z_iconst hC dX1_passes_67 kI_0 ?_
          exact z_iret hC hr rfl dX1_passes_68 (fun _ _ => trivial) (Option.some.inj hm)
        · refine z_iconst hC dX1_passes_63 kI_1 ?_
          refine z_goto (tgt := 68) hC dX1_passes_64 (by decide) ?_
          exact z_iret hC hr rfl dX1_passes_68 (fun _ _ => trivial) (Option.some.inj hm)
      · refine z_ite hm (fun h29_1 hm => ?_) (fun h29_1 hm => ?_)
        · refine z_lin hC dX1_passes_29 h29_1 kc_1 rfl (off := 40) rfl (tgt := 69) (by decide) ?_
          refine z_aload_n hC dX1_passes_69 rfl 3 rfl ?_
          refine z_iload_n hC dX1_passes_70 rfl 1 rfl ?_
          refine aF_facts hC hm dX1_passes_71 (fun hm => ?_)
          refine z_iload_n hC dX1_passes_72 rfl 0 rfl ?_
          refine z_icmp_ne (tgt := 80) hC hm dX1_passes_73 (by decide) (fun hm => ?_) (fun hm => ?_)
          · refine z_iconst hC dX1_passes_76 kI_1 ?_
            refine z_goto (tgt := 81) hC dX1_passes_77 (by decide) ?_
            exact z_iret hC hr rfl dX1_passes_81 (fun _ _ => trivial) (Option.some.inj hm)
          · refine z_iconst hC dX1_passes_80 kI_0 ?_
            exact z_iret hC hr rfl dX1_passes_81 (fun _ _ => trivial) (Option.some.inj hm)
        · refine z_lookup (off := 53) (tgt := 82) hC dX1_passes_29 rfl ((lv_osw h29_0 kc_0).trans ((lv_osw h29_1 kc_1).trans rfl)) (by decide) ?_
          refine z_aload_n hC dX1_passes_82 rfl 3 rfl ?_
          refine z_iload_n hC dX1_passes_83 rfl 1 rfl ?_
          refine aF_facts hC hm dX1_passes_84 (fun hm => ?_)
          refine z_iload_n hC dX1_passes_85 rfl 0 rfl ?_
          refine z_icmp_le (tgt := 93) hC hm dX1_passes_86 (by decide) (fun hm => ?_) (fun hm => ?_)
          · refine z_iconst hC dX1_passes_93 kI_0 ?_
            exact z_iret hC hr rfl dX1_passes_94 (fun _ _ => trivial) (Option.some.inj hm)
          · refine z_iconst hC dX1_passes_89 kI_1 ?_
            refine z_goto (tgt := 94) hC dX1_passes_90 (by decide) ?_
            exact z_iret hC hr rfl dX1_passes_94 (fun _ _ => trivial) (Option.some.inj hm)
    · refine z_iconst hC dX1_passes_16 kI_0 ?_
      exact z_iret hC hr rfl dX1_passes_17 (fun _ _ => trivial) (Option.some.inj hm)
theorem gHF_X1_24_o {p : Program} {l : Launch} {e : Env} {R : Room} {s : State} {m : MethodId} {args : Array Value} {below : List Frame} {meth : Method} {c : Code} {Q : State → Prop} {D : va_G} {A : Nat → Prop} {cc : ByteArray} {nL : Nat} {lv : List (Nat × Value)} {pc : Nat} {st : List Value} {cA : Nat → ClassId} {ad : Nat → Nat} {E : zEt} {u : SHF} (C : zC p s m args meth c cc nL RX1 zTS D (zTy cA) A E) (hd : decode cc pc = .ok (.getfield 24, 3)) (g : zG p l e R s m args below meth c nL D A Q (wHF cA ad u) lv (pc + 3) (.ref (ad 5) :: st)) : zG p l e R s m args below meth c nL D A Q (wHF cA ad u) lv pc (.ref (ad 0) :: st) := by
  exact fun H locs ls hP hS hL => va_get (D := D) (ci := 1) (C := RX1) (T := TX1) (N := 9) C.1.1 C.1.2.1 C.1.2.2.2.2 inlX1 C.1.2.2.2.1 C.2.1 hP 0 (heHF_o cA ad u) rfl 5 (by decide) (C.1.2.2.2.2 _ mfX1_24) (fun _ h9 => h9) (v := .ref (ad 5)) rfl hd (g H locs ls hP hS hL)
theorem aHF_ends {p : Program} {l : Launch} {e : Env} {R : Room} {s : State} {m : MethodId} {args : Array Value} {below : List Frame} {meth : Method} {c : Code} {Q : State → Prop} {D : va_G} {A : Nat → Prop} {cc : ByteArray} {nL : Nat} {lv : List (Nat × Value)} {pc : Nat} {st : List Value} {cA : Nat → ClassId} {ad : Nat → Nat} {E : zEt} {own : String} {u : SHF} {i : Int32} {β : Type} {k : Option β} {r : β} (C : zC p s m args meth c cc nL own zTS D (zTy cA) A E) (hm : zgi i 10 k = some r) (hd : decode cc pc = .ok (.iaload, 1)) (g : k = some r → zG p l e R s m args below meth c nL D A Q (wHF cA ad u) lv (pc + 1) (.int (HF_ends u i.toNatClampNeg) :: st)) : zG p l e R s m args below meth c nL D A Q (wHF cA ad u) lv pc (.int i :: .ref (ad 5) :: st) := fun H locs ls hP hS hL => va_iald C.1.1 C.1.2.1 C.2.1 hP 5 0 (heHF_ends cA ad u) rfl (zgi_some hm).1 hd (g (zgi_some hm).2 H locs ls hP hS hL)
theorem gHF_X1_27_o {p : Program} {l : Launch} {e : Env} {R : Room} {s : State} {m : MethodId} {args : Array Value} {below : List Frame} {meth : Method} {c : Code} {Q : State → Prop} {D : va_G} {A : Nat → Prop} {cc : ByteArray} {nL : Nat} {lv : List (Nat × Value)} {pc : Nat} {st : List Value} {cA : Nat → ClassId} {ad : Nat → Nat} {E : zEt} {u : SHF} (C : zC p s m args meth c cc nL RX1 zTS D (zTy cA) A E) (hd : decode cc pc = .ok (.getfield 27, 3)) (g : zG p l e R s m args below meth c nL D A Q (wHF cA ad u) lv (pc + 3) (.ref (ad 6) :: st)) : zG p l e R s m args below meth c nL D A Q (wHF cA ad u) lv pc (.ref (ad 0) :: st) := by
  exact fun H locs ls hP hS hL => va_get (D := D) (ci := 1) (C := RX1) (T := TX1) (N := 9) C.1.1 C.1.2.1 C.1.2.2.2.2 inlX1 C.1.2.2.2.1 C.2.1 hP 0 (heHF_o cA ad u) rfl 7 (by decide) (C.1.2.2.2.2 _ mfX1_27) (fun _ h9 => h9) (v := .ref (ad 6)) rfl hd (g H locs ls hP hS hL)
theorem aHF_steps {p : Program} {l : Launch} {e : Env} {R : Room} {s : State} {m : MethodId} {args : Array Value} {below : List Frame} {meth : Method} {c : Code} {Q : State → Prop} {D : va_G} {A : Nat → Prop} {cc : ByteArray} {nL : Nat} {lv : List (Nat × Value)} {pc : Nat} {st : List Value} {cA : Nat → ClassId} {ad : Nat → Nat} {E : zEt} {own : String} {u : SHF} {i : Int32} {β : Type} {k : Option β} {r : β} (C : zC p s m args meth c cc nL own zTS D (zTy cA) A E) (hm : zgi i 100 k = some r) (hd : decode cc pc = .ok (.iaload, 1)) (g : k = some r → zG p l e R s m args below meth c nL D A Q (wHF cA ad u) lv (pc + 1) (.int (HF_steps u i.toNatClampNeg) :: st)) : zG p l e R s m args below meth c nL D A Q (wHF cA ad u) lv pc (.int i :: .ref (ad 6) :: st) := fun H locs ls hP hS hL => va_iald C.1.1 C.1.2.1 C.2.1 hP 6 0 (heHF_steps cA ad u) rfl (zgi_some hm).1 hd (g (zgi_some hm).2 H locs ls hP hS hL)
def HF_toF7 (u : SHF) : SF := HF_facts u
theorem bHF_toF7 (cA : Nat → ClassId) (ad : Nat → Nat) (u : SHF) : (wHF cA ad u) = (wHF cA ad u).take 7 ++ ((wF cA (fun i => ad (7 + i)) (HF_toF7 u)) ++ (wHF cA ad u).drop (7 + 1)) := rfl
theorem xHF_X1_53_7 {p : Program} {l : Launch} {e : Env} {s : State} {m : MethodId} {args : Array Value} {below : List Frame} {meth : Method} {c : Code} {Q : State → Prop} {D : va_G} {A : Nat → Prop} {cc : ByteArray} {nL : Nat} {lv : List (Nat × Value)} {pc : Nat} {st : List Value} {cA : Nat → ClassId} {ad : Nat → Nat} {tK tB : Nat} {kS vS : Nat → Nat} {d : Nat} {x0 : Int32} {u : SHF} (hI : zInj ad 8) (C : zC p s m args meth c cc nL RX1 zTS D (zTy cA) A (zE tK tB kS vS)) (hdm : 0 + 1 ≤ d) {β : Type} {f : Int32 → Option β} {o : β} (hm : (mF_passes x0 (HF_toF7 u)).bind f = some o) (hd : decode cc pc = .ok (.invokestatic 53, 3)) (h8 : (st.map fun v => v.category).sum ≤ 8) (g : ∀ q, f q = some o → zG p l e (zRm d) s m args below meth c nL D A Q (wHF cA ad u) lv (pc + 3) (.int q :: st)) : zG p l e (zRm d) s m args below meth c nL D A Q (wHF cA ad u) lv pc (.ref (ad 7) :: .int x0 :: st) := by
  obtain ⟨q, h1, h2⟩ := zb_some hm
  exact z_calliS C (cF_passes (ad := (fun i => ad (7 + i))) (cA := cA) (zInj_sh (k := 7) (n := 1) hI (by decide)) x0 (HF_toF7 u) h1) (cwX1_53 C.1.2.2.2.2 rfl rfl ⟨hdm, by have := hdm; simp only [zRm]; omega⟩) hd rfl rfl h8 (z_blk_mem (bHF_toF7 cA ad u)) (fun _ h => h.elim) zJ_ro (g q h2)
def mHF_isTrue_L20 (x1 : Int32) (u : SHF) : Nat → Int32 → Int32 → Option Int32
  | 0, _, _ => none
  | n + 1, x3, x4 => zgi x1 10 (if ((HF_ends u) (x1).toNatClampNeg) ≤ x4 then (if (x3 &&& (1 : Int32)) = 0 then (some (0 : Int32)) else (some (1 : Int32))) else (zgi x4 100 (if ((HF_steps u) (x4).toNatClampNeg) = (0 : Int32) then (mHF_isTrue_L20 x1 u n (x3 ^^^ (1 : Int32)) (x4 + (1 : Int32))) else (if ((HF_steps u) (x4).toNatClampNeg) = (1 : Int32) then (mHF_isTrue_L20 x1 u n ((x3 >>> ((1 : Int32) &&& 31)) &&& ((x3 &&& (1 : Int32)) ||| (-2 : Int32))) (x4 + (1 : Int32))) else (if ((HF_steps u) (x4).toNatClampNeg) = (2 : Int32) then (mHF_isTrue_L20 x1 u n ((x3 >>> ((1 : Int32) &&& 31)) ||| (x3 &&& (1 : Int32))) (x4 + (1 : Int32))) else (zgi x4 100 ((mF_passes (((HF_steps u) (x4).toNatClampNeg) - (3 : Int32)) (HF_toF7 u)).bind fun q1 => (if q1 = 0 then (mHF_isTrue_L20 x1 u n ((x3 <<< ((1 : Int32) &&& 31)) ||| (0 : Int32)) (x4 + (1 : Int32))) else (mHF_isTrue_L20 x1 u n ((x3 <<< ((1 : Int32) &&& 31)) ||| (1 : Int32)) (x4 + (1 : Int32)))))))))))
set_option maxRecDepth 100000 in
set_option maxHeartbeats 4000000 in
theorem lHF_isTrue_20 {l : Launch} {D : va_G} {cA : Nat → ClassId} {ad : Nat → Nat} {p : Program} {e : Env} {s : State} {m : MethodId} {args : Array Value} {below : List Frame} {meth : Method} {c : Code} {tK tB : Nat} {kS vS : Nat → Nat} {r : Int32}  {x1 : Int32} {u : SHF} (hI : zInj ad 8) (hC : zC p s m args meth c cX1_isTrue 6 RX1 zTS D (zTy cA) zA0 (zE tK tB kS vS)) (hr : meth.sig.returnType = (some .boolean)) : ∀ (n : Nat) (x3 : Int32) (x4 : Int32), mHF_isTrue_L20 x1 u n x3 x4 = some r → zG p l e (zRm 1) s m args below meth c 6 D zA0 (MQ below (zQi r zB0 zA0) args s 0 0 zA0) (wHF cA ad u) [(0, .ref (ad 0)), (1, .int x1), (2, .ref (ad 7)), (3, .int x3), (4, .int x4)] 20 [] := by
  intro n
  induction n with
  | zero => intro x3 x4 hm; exact z_none hm
  | succ n ih =>
    intro x3 x4 hm
    rw [mHF_isTrue_L20] at hm
    refine z_iload hC dX1_isTrue_20 4 rfl ?_
    refine z_aload_n hC dX1_isTrue_22 rfl 0 rfl ?_
    refine gHF_X1_24_o hC dX1_isTrue_23 ?_
    refine z_iload_n hC dX1_isTrue_26 rfl 1 rfl ?_
    refine aHF_ends hC hm dX1_isTrue_27 (fun hm => ?_)
    refine z_icmp_ge (tgt := 130) hC hm dX1_isTrue_28 (by decide) (fun hm => ?_) (fun hm => ?_)
    · refine z_iload_n hC dX1_isTrue_130 rfl 3 rfl ?_
      refine z_iconst hC dX1_isTrue_131 kI_1 ?_
      refine z_iand hC dX1_isTrue_132 ?_
      refine z_if_eq (tgt := 140) hC hm dX1_isTrue_133 (by decide) (fun hm => ?_) (fun hm => ?_)
      · refine z_iconst hC dX1_isTrue_140 kI_0 ?_
        exact z_iret hC hr rfl dX1_isTrue_141 (fun _ _ => trivial) (Option.some.inj hm)
      · refine z_iconst hC dX1_isTrue_136 kI_1 ?_
        refine z_goto (tgt := 141) hC dX1_isTrue_137 (by decide) ?_
        exact z_iret hC hr rfl dX1_isTrue_141 (fun _ _ => trivial) (Option.some.inj hm)
    · refine z_iload_n hC dX1_isTrue_31 rfl 3 rfl ?_
      refine z_iconst hC dX1_isTrue_32 kI_1 ?_
      refine z_iand hC dX1_isTrue_33 ?_
      refine z_istore (lv' := [(5, .int (x3 &&& (1 : Int32))), (0, .ref (ad 0)), (1, .int x1), (2, .ref (ad 7)), (3, .int x3), (4, .int x4)]) hC dX1_isTrue_34 (by decide) rfl ?_
      refine z_aload_n hC dX1_isTrue_36 rfl 1 rfl ?_
      refine gHF_X1_27_o hC dX1_isTrue_37 ?_
      refine z_iload hC dX1_isTrue_40 5 rfl ?_
      refine aHF_steps hC hm dX1_isTrue_42 (fun hm => ?_)
      refine z_ite hm (fun h43_0 hm => ?_) (fun h43_0 hm => ?_)
      · refine z_tin hC dX1_isTrue_43 h43_0 kc_0 (by decide) (by decide) (off := 25) rfl (tgt := 68) (by decide) ?_
        refine z_iload_n hC dX1_isTrue_68 rfl 4 rfl ?_
        refine z_iconst hC dX1_isTrue_69 kI_1 ?_
        refine z_ixor hC dX1_isTrue_70 ?_
        refine z_istore_n (lv' := [(3, .int (x3 ^^^ (1 : Int32))), (5, .int (x3 &&& (1 : Int32))), (0, .ref (ad 0)), (1, .int x1), (2, .ref (ad 7)), (4, .int x4)]) hC dX1_isTrue_71 rfl (by decide) rfl ?_
        refine z_goto (tgt := 124) hC dX1_isTrue_72 (by decide) ?_
        refine z_iinc (lv' := [(4, .int (x4 + (1 : Int32))), (3, .int (x3 ^^^ (1 : Int32))), (5, .int (x3 &&& (1 : Int32))), (0, .ref (ad 0)), (1, .int x1), (2, .ref (ad 7))]) (k := 5) (v := (x4 + (1 : Int32))) hC dX1_isTrue_124 rfl rfl (by decide) rfl ?_
        refine z_goto (tgt := 20) hC dX1_isTrue_127 (by decide) ?_
        refine z_lv hC [3, 4, 5, 1, 0] rfl ?_
        exact ih _ _ hm
      · refine z_ite hm (fun h43_1 hm => ?_) (fun h43_1 hm => ?_)
        · refine z_tin hC dX1_isTrue_43 h43_1 kc_1 (by decide) (by decide) (off := 32) rfl (tgt := 75) (by decide) ?_
          refine z_iload_n hC dX1_isTrue_75 rfl 4 rfl ?_
          refine z_iconst hC dX1_isTrue_76 kI_1 ?_
          refine z_ishr hC dX1_isTrue_77 ?_
          refine z_iload hC dX1_isTrue_78 0 rfl ?_
          refine z_bipush hC dX1_isTrue_80 kB_m2 ?_
          refine z_ior hC dX1_isTrue_82 ?_
          refine z_iand hC dX1_isTrue_83 ?_
          refine z_istore_n (lv' := [(3, .int ((x3 >>> ((1 : Int32) &&& 31)) &&& ((x3 &&& (1 : Int32)) ||| (-2 : Int32)))), (5, .int (x3 &&& (1 : Int32))), (0, .ref (ad 0)), (1, .int x1), (2, .ref (ad 7)), (4, .int x4)]) hC dX1_isTrue_84 rfl (by decide) rfl ?_
          refine z_goto (tgt := 124) hC dX1_isTrue_85 (by decide) ?_
          refine z_iinc (lv' := [(4, .int (x4 + (1 : Int32))), (3, .int ((x3 >>> ((1 : Int32) &&& 31)) &&& ((x3 &&& (1 : Int32)) ||| (-2 : Int32)))), (5, .int (x3 &&& (1 : Int32))), (0, .ref (ad 0)), (1, .int x1), (2, .ref (ad 7))]) (k := 5) (v := (x4 + (1 : Int32))) hC dX1_isTrue_124 rfl rfl (by decide) rfl ?_
          refine z_goto (tgt := 20) hC dX1_isTrue_127 (by decide) ?_
          refine z_lv hC [3, 4, 5, 1, 0] rfl ?_
          exact ih _ _ hm
        · refine z_ite hm (fun h43_2 hm => ?_) (fun h43_2 hm => ?_)
          · refine z_tin hC dX1_isTrue_43 h43_2 kc_2 (by decide) (by decide) (off := 45) rfl (tgt := 88) (by decide) ?_
            refine z_iload_n hC dX1_isTrue_88 rfl 4 rfl ?_
            refine z_iconst hC dX1_isTrue_89 kI_1 ?_
            refine z_ishr hC dX1_isTrue_90 ?_
            refine z_iload hC dX1_isTrue_91 0 rfl ?_
            refine z_ior hC dX1_isTrue_93 ?_
            refine z_istore_n (lv' := [(3, .int ((x3 >>> ((1 : Int32) &&& 31)) ||| (x3 &&& (1 : Int32)))), (5, .int (x3 &&& (1 : Int32))), (0, .ref (ad 0)), (1, .int x1), (2, .ref (ad 7)), (4, .int x4)]) hC dX1_isTrue_94 rfl (by decide) rfl ?_
            refine z_goto (tgt := 124) hC dX1_isTrue_95 (by decide) ?_
            refine z_iinc (lv' := [(4, .int (x4 + (1 : Int32))), (3, .int ((x3 >>> ((1 : Int32) &&& 31)) ||| (x3 &&& (1 : Int32)))), (5, .int (x3 &&& (1 : Int32))), (0, .ref (ad 0)), (1, .int x1), (2, .ref (ad 7))]) (k := 5) (v := (x4 + (1 : Int32))) hC dX1_isTrue_124 rfl rfl (by decide) rfl ?_
            refine z_goto (tgt := 20) hC dX1_isTrue_127 (by decide) ?_
            refine z_lv hC [3, 4, 5, 1, 0] rfl ?_
            exact ih _ _ hm
          · refine z_tout (n := 3) hC dX1_isTrue_43 (z_allc (z_tneq kc_0 h43_0) (z_allc (z_tneq kc_1 h43_1) (z_allc (z_tneq kc_2 h43_2) z_all0))) (by decide) (tgt := 98) (by decide) ?_
            refine z_iload_n hC dX1_isTrue_98 rfl 4 rfl ?_
            refine z_iconst hC dX1_isTrue_99 kI_1 ?_
            refine z_ishl hC dX1_isTrue_100 ?_
            refine z_aload_n hC dX1_isTrue_101 rfl 1 rfl ?_
            refine gHF_X1_27_o hC dX1_isTrue_102 ?_
            refine z_iload hC dX1_isTrue_105 5 rfl ?_
            refine aHF_steps hC hm dX1_isTrue_107 (fun hm => ?_)
            refine z_iconst hC dX1_isTrue_108 kI_3 ?_
            refine z_isub hC dX1_isTrue_109 ?_
            refine z_aload_n hC dX1_isTrue_110 rfl 3 rfl ?_
            refine xHF_X1_53_7 hI hC (Nat.le_of_ble_eq_true rfl) hm dX1_isTrue_111 (Nat.le_of_ble_eq_true rfl) (fun q1 hm => ?_)
            refine z_if_eq (tgt := 121) hC hm dX1_isTrue_114 (by decide) (fun hm => ?_) (fun hm => ?_)
            · refine z_iconst hC dX1_isTrue_121 kI_0 ?_
              refine z_ior hC dX1_isTrue_122 ?_
              refine z_istore_n (lv' := [(3, .int ((x3 <<< ((1 : Int32) &&& 31)) ||| (0 : Int32))), (5, .int (x3 &&& (1 : Int32))), (0, .ref (ad 0)), (1, .int x1), (2, .ref (ad 7)), (4, .int x4)]) hC dX1_isTrue_123 rfl (by decide) rfl ?_
              refine z_iinc (lv' := [(4, .int (x4 + (1 : Int32))), (3, .int ((x3 <<< ((1 : Int32) &&& 31)) ||| (0 : Int32))), (5, .int (x3 &&& (1 : Int32))), (0, .ref (ad 0)), (1, .int x1), (2, .ref (ad 7))]) (k := 5) (v := (x4 + (1 : Int32))) hC dX1_isTrue_124 rfl rfl (by decide) rfl ?_
              refine z_goto (tgt := 20) hC dX1_isTrue_127 (by decide) ?_
              refine z_lv hC [3, 4, 5, 1, 0] rfl ?_
              exact ih _ _ hm
            · refine z_iconst hC dX1_isTrue_117 kI_1 ?_
              refine z_goto (tgt := 122) hC dX1_isTrue_118 (by decide) ?_
              refine z_ior hC dX1_isTrue_122 ?_
              refine z_istore_n (lv' := [(3, .int ((x3 <<< ((1 : Int32) &&& 31)) ||| (1 : Int32))), (5, .int (x3 &&& (1 : Int32))), (0, .ref (ad 0)), (1, .int x1), (2, .ref (ad 7)), (4, .int x4)]) hC dX1_isTrue_123 rfl (by decide) rfl ?_
              refine z_iinc (lv' := [(4, .int (x4 + (1 : Int32))), (3, .int ((x3 <<< ((1 : Int32) &&& 31)) ||| (1 : Int32))), (5, .int (x3 &&& (1 : Int32))), (0, .ref (ad 0)), (1, .int x1), (2, .ref (ad 7))]) (k := 5) (v := (x4 + (1 : Int32))) hC dX1_isTrue_124 rfl rfl (by decide) rfl ?_
              refine z_goto (tgt := 20) hC dX1_isTrue_127 (by decide) ?_
              refine z_lv hC [3, 4, 5, 1, 0] rfl ?_
              exact ih _ _ hm
def mHF_isTrue (x1 : Int32) (u : SHF) : Option Int32 :=
  if x1 = 0 then (mHF_isTrue_L20 x1 u 256 (0 : Int32) (0 : Int32)) else (zgi (x1 - (1 : Int32)) 10 (mHF_isTrue_L20 x1 u 256 (0 : Int32) ((HF_ends u) ((x1 - (1 : Int32))).toNatClampNeg)))
set_option maxRecDepth 100000 in
set_option maxHeartbeats 4000000 in
theorem cHF_isTrue {l : Launch} {D : va_G} {cA : Nat → ClassId} {ad : Nat → Nat} {tK tB : Nat} {kS vS : Nat → Nat} (hI : zInj ad 8) (x1 : Int32) (u : SHF) {r : Int32} (hm : mHF_isTrue x1 u = some r) : Met l yX1_isTrue (zWs yX1_isTrue cX1_isTrue 6 (some .boolean)) (zRm 1) (va_Pc [.ref (ad 0), .int x1, .ref (ad 7)] (zPre D (zTy cA) (zE tK tB kS vS) zA0 (wHF cA ad u))) (zQi r zB0 zA0) 0 0 zA0 := by
  refine z_met (lv := [(0, .ref (ad 0)), (1, .int x1), (2, .ref (ad 7))]) plX1 rfl rfl (Nat.le_of_ble_eq_true rfl) rfl ?_
  intro p e s m below meth c hC hr hin
  unfold mHF_isTrue at hm
  refine z_iconst hC dX1_isTrue_0 kI_0 ?_
  refine z_istore_n (lv' := [(3, .int (0 : Int32)), (0, .ref (ad 0)), (1, .int x1), (2, .ref (ad 7))]) hC dX1_isTrue_1 rfl (by decide) rfl ?_
  refine z_iload_n hC dX1_isTrue_2 rfl 2 rfl ?_
  refine z_if_ne (tgt := 10) hC hm dX1_isTrue_3 (by decide) (fun hm => ?_) (fun hm => ?_)
  · refine z_iconst hC dX1_isTrue_6 kI_0 ?_
    refine z_goto (tgt := 18) hC dX1_isTrue_7 (by decide) ?_
    refine z_istore (lv' := [(4, .int (0 : Int32)), (3, .int (0 : Int32)), (0, .ref (ad 0)), (1, .int x1), (2, .ref (ad 7))]) hC dX1_isTrue_18 (by decide) rfl ?_
    refine z_lv hC [2, 3, 4, 1, 0] rfl ?_
    exact lHF_isTrue_20 hI hC hr _ _ _ hm
  · refine z_aload_n hC dX1_isTrue_10 rfl 1 rfl ?_
    refine gHF_X1_24_o hC dX1_isTrue_11 ?_
    refine z_iload_n hC dX1_isTrue_14 rfl 2 rfl ?_
    refine z_iconst hC dX1_isTrue_15 kI_1 ?_
    refine z_isub hC dX1_isTrue_16 ?_
    refine aHF_ends hC hm dX1_isTrue_17 (fun hm => ?_)
    refine z_istore (lv' := [(4, .int ((HF_ends u) ((x1 - (1 : Int32))).toNatClampNeg)), (3, .int (0 : Int32)), (0, .ref (ad 0)), (1, .int x1), (2, .ref (ad 7))]) hC dX1_isTrue_18 (by decide) rfl ?_
    refine z_lv hC [2, 3, 4, 1, 0] rfl ?_
    exact lHF_isTrue_20 hI hC hr _ _ _ hm
theorem gHF_X1_37_o {p : Program} {l : Launch} {e : Env} {R : Room} {s : State} {m : MethodId} {args : Array Value} {below : List Frame} {meth : Method} {c : Code} {Q : State → Prop} {D : va_G} {A : Nat → Prop} {cc : ByteArray} {nL : Nat} {lv : List (Nat × Value)} {pc : Nat} {st : List Value} {cA : Nat → ClassId} {ad : Nat → Nat} {E : zEt} {u : SHF} (C : zC p s m args meth c cc nL RX1 zTS D (zTy cA) A E) (hd : decode cc pc = .ok (.getfield 37, 3)) {v : Int32} (hv : HF_clauses u = v) (g : zG p l e R s m args below meth c nL D A Q (wHF cA ad u) lv (pc + 3) (.int v :: st)) : zG p l e R s m args below meth c nL D A Q (wHF cA ad u) lv pc (.ref (ad 0) :: st) := by
  subst hv; exact fun H locs ls hP hS hL => va_get (D := D) (ci := 1) (C := RX1) (T := TX1) (N := 9) C.1.1 C.1.2.1 C.1.2.2.2.2 inlX1 C.1.2.2.2.1 C.2.1 hP 0 (heHF_o cA ad u) rfl 6 (by decide) (C.1.2.2.2.2 _ mfX1_37) (fun _ h9 => h9) (v := .int (HF_clauses u)) rfl hd (g H locs ls hP hS hL)
theorem gHF_X1_18_o {p : Program} {l : Launch} {e : Env} {R : Room} {s : State} {m : MethodId} {args : Array Value} {below : List Frame} {meth : Method} {c : Code} {Q : State → Prop} {D : va_G} {A : Nat → Prop} {cc : ByteArray} {nL : Nat} {lv : List (Nat × Value)} {pc : Nat} {st : List Value} {cA : Nat → ClassId} {ad : Nat → Nat} {E : zEt} {u : SHF} (C : zC p s m args meth c cc nL RX1 zTS D (zTy cA) A E) (hd : decode cc pc = .ok (.getfield 18, 3)) (g : zG p l e R s m args below meth c nL D A Q (wHF cA ad u) lv (pc + 3) (.ref (ad 3) :: st)) : zG p l e R s m args below meth c nL D A Q (wHF cA ad u) lv pc (.ref (ad 0) :: st) := by
  exact fun H locs ls hP hS hL => va_get (D := D) (ci := 1) (C := RX1) (T := TX1) (N := 9) C.1.1 C.1.2.1 C.1.2.2.2.2 inlX1 C.1.2.2.2.1 C.2.1 hP 0 (heHF_o cA ad u) rfl 3 (by decide) (C.1.2.2.2.2 _ mfX1_18) (fun _ h9 => h9) (v := .ref (ad 3)) rfl hd (g H locs ls hP hS hL)
theorem aHF_senses {p : Program} {l : Launch} {e : Env} {R : Room} {s : State} {m : MethodId} {args : Array Value} {below : List Frame} {meth : Method} {c : Code} {Q : State → Prop} {D : va_G} {A : Nat → Prop} {cc : ByteArray} {nL : Nat} {lv : List (Nat × Value)} {pc : Nat} {st : List Value} {cA : Nat → ClassId} {ad : Nat → Nat} {E : zEt} {own : String} {u : SHF} {i : Int32} {β : Type} {k : Option β} {r : β} (C : zC p s m args meth c cc nL own zTS D (zTy cA) A E) (hm : zgi i 10 k = some r) (hd : decode cc pc = .ok (.iaload, 1)) (g : k = some r → zG p l e R s m args below meth c nL D A Q (wHF cA ad u) lv (pc + 1) (.int (HF_senses u i.toNatClampNeg) :: st)) : zG p l e R s m args below meth c nL D A Q (wHF cA ad u) lv pc (.int i :: .ref (ad 3) :: st) := fun H locs ls hP hS hL => va_iald C.1.1 C.1.2.1 C.2.1 hP 3 0 (heHF_senses cA ad u) rfl (zgi_some hm).1 hd (g (zgi_some hm).2 H locs ls hP hS hL)
theorem xHF_X1_43 {p : Program} {l : Launch} {e : Env} {s : State} {m : MethodId} {args : Array Value} {below : List Frame} {meth : Method} {c : Code} {Q : State → Prop} {D : va_G} {A : Nat → Prop} {cc : ByteArray} {nL : Nat} {lv : List (Nat × Value)} {pc : Nat} {st : List Value} {cA : Nat → ClassId} {ad : Nat → Nat} {tK tB : Nat} {kS vS : Nat → Nat} {d : Nat} {x1 : Int32} {u : SHF} (hI : zInj ad 8) (C : zC p s m args meth c cc nL RX1 zTS D (zTy cA) A (zE tK tB kS vS)) (hdm : 1 + 1 ≤ d) {β : Type} {f : Int32 → Option β} {o : β} (hm : (mHF_isTrue x1 u).bind f = some o) (hd : decode cc pc = .ok (.invokevirtual 43, 3)) (h8 : (st.map fun v => v.category).sum ≤ 8) (g : ∀ q, f q = some o → zG p l e (zRm d) s m args below meth c nL D A Q (wHF cA ad u) lv (pc + 3) (.int q :: st)) : zG p l e (zRm d) s m args below meth c nL D A Q (wHF cA ad u) lv pc (.ref (ad 7) :: .int x1 :: .ref (ad 0) :: st) := by
  obtain ⟨q, h1, h2⟩ := zb_some hm
  exact z_calliV C (cHF_isTrue (ad := ad) (cA := cA) hI x1 u h1) (cwX1_43 C.1.2.2.2.2 rfl rfl ⟨hdm, by have := hdm; simp only [zRm]; omega⟩) hd rfl rfl h8 ⟨_, rfl, rfl⟩ (List.mem_of_getElem? (heHF_o cA ad u)) (fun _ h => h) (fun _ h => h.elim) zJ_ro (g q h2)
theorem gHF_X1_21_o {p : Program} {l : Launch} {e : Env} {R : Room} {s : State} {m : MethodId} {args : Array Value} {below : List Frame} {meth : Method} {c : Code} {Q : State → Prop} {D : va_G} {A : Nat → Prop} {cc : ByteArray} {nL : Nat} {lv : List (Nat × Value)} {pc : Nat} {st : List Value} {cA : Nat → ClassId} {ad : Nat → Nat} {E : zEt} {u : SHF} (C : zC p s m args meth c cc nL RX1 zTS D (zTy cA) A E) (hd : decode cc pc = .ok (.getfield 21, 3)) (g : zG p l e R s m args below meth c nL D A Q (wHF cA ad u) lv (pc + 3) (.ref (ad 4) :: st)) : zG p l e R s m args below meth c nL D A Q (wHF cA ad u) lv pc (.ref (ad 0) :: st) := by
  exact fun H locs ls hP hS hL => va_get (D := D) (ci := 1) (C := RX1) (T := TX1) (N := 9) C.1.1 C.1.2.1 C.1.2.2.2.2 inlX1 C.1.2.2.2.1 C.2.1 hP 0 (heHF_o cA ad u) rfl 4 (by decide) (C.1.2.2.2.2 _ mfX1_21) (fun _ h9 => h9) (v := .ref (ad 4)) rfl hd (g H locs ls hP hS hL)
theorem aHF_amounts {p : Program} {l : Launch} {e : Env} {R : Room} {s : State} {m : MethodId} {args : Array Value} {below : List Frame} {meth : Method} {c : Code} {Q : State → Prop} {D : va_G} {A : Nat → Prop} {cc : ByteArray} {nL : Nat} {lv : List (Nat × Value)} {pc : Nat} {st : List Value} {cA : Nat → ClassId} {ad : Nat → Nat} {E : zEt} {own : String} {u : SHF} {i : Int32} {β : Type} {k : Option β} {r : β} (C : zC p s m args meth c cc nL own zTS D (zTy cA) A E) (hm : zgi i 10 k = some r) (hd : decode cc pc = .ok (.iaload, 1)) (g : k = some r → zG p l e R s m args below meth c nL D A Q (wHF cA ad u) lv (pc + 1) (.int (HF_amounts u i.toNatClampNeg) :: st)) : zG p l e R s m args below meth c nL D A Q (wHF cA ad u) lv pc (.int i :: .ref (ad 4) :: st) := fun H locs ls hP hS hL => va_iald C.1.1 C.1.2.1 C.2.1 hP 4 0 (heHF_amounts cA ad u) rfl (zgi_some hm).1 hd (g (zgi_some hm).2 H locs ls hP hS hL)
def mHF_unsure_L5 (x1 : Int32) (u : SHF) : Nat → Int32 → Int32 → Option Int32
  | 0, _, _ => none
  | n + 1, x3, x4 => if (HF_clauses u) ≤ x4 then (some (zmin (60 : Int32) x3)) else (zgi x4 10 (if ((HF_senses u) (x4).toNatClampNeg) = x1 then ((mHF_isTrue x4 u).bind fun q1 => (if q1 = 0 then (mHF_unsure_L5 x1 u n x3 (x4 + (1 : Int32))) else (zgi x4 10 (mHF_unsure_L5 x1 u n (x3 + ((HF_amounts u) (x4).toNatClampNeg)) (x4 + (1 : Int32)))))) else (mHF_unsure_L5 x1 u n x3 (x4 + (1 : Int32)))))
set_option maxRecDepth 100000 in
set_option maxHeartbeats 4000000 in
theorem lHF_unsure_5 {l : Launch} {D : va_G} {cA : Nat → ClassId} {ad : Nat → Nat} {p : Program} {e : Env} {s : State} {m : MethodId} {args : Array Value} {below : List Frame} {meth : Method} {c : Code} {tK tB : Nat} {kS vS : Nat → Nat} {r : Int32}  {x1 : Int32} {u : SHF} (hI : zInj ad 8) (hC : zC p s m args meth c cX1_unsure 5 RX1 zTS D (zTy cA) zA0 (zE tK tB kS vS)) (hr : meth.sig.returnType = (some .int)) : ∀ (n : Nat) (x3 : Int32) (x4 : Int32), mHF_unsure_L5 x1 u n x3 x4 = some r → zG p l e (zRm 2) s m args below meth c 5 D zA0 (MQ below (zQi r zB0 zA0) args s 0 0 zA0) (wHF cA ad u) [(0, .ref (ad 0)), (1, .int x1), (2, .ref (ad 7)), (3, .int x3), (4, .int x4)] 5 [] := by
  intro n
  induction n with
  | zero => intro x3 x4 hm; exact z_none hm
  | succ n ih =>
    intro x3 x4 hm
    rw [mHF_unsure_L5] at hm
    refine z_iload hC dX1_unsure_5 4 rfl ?_
    refine z_aload_n hC dX1_unsure_7 rfl 0 rfl ?_
    refine gHF_X1_37_o (v := (HF_clauses u)) hC dX1_unsure_8 rfl ?_
    refine z_icmp_ge (tgt := 51) hC hm dX1_unsure_11 (by decide) (fun hm => ?_) (fun hm => ?_)
    · refine z_bipush hC dX1_unsure_51 kB_60 ?_
      refine z_iload_n hC dX1_unsure_53 rfl 3 rfl ?_
      refine z_min hC mmX1_47 (Nat.le_of_ble_eq_true rfl) (Nat.le_of_ble_eq_true rfl) dX1_unsure_54 ?_
      exact z_iret hC hr rfl dX1_unsure_57 (fun _ _ => trivial) (Option.some.inj hm)
    · refine z_aload_n hC dX1_unsure_14 rfl 0 rfl ?_
      refine gHF_X1_18_o hC dX1_unsure_15 ?_
      refine z_iload hC dX1_unsure_18 4 rfl ?_
      refine aHF_senses hC hm dX1_unsure_20 (fun hm => ?_)
      refine z_iload_n hC dX1_unsure_21 rfl 1 rfl ?_
      refine z_icmp_ne (tgt := 45) hC hm dX1_unsure_22 (by decide) (fun hm => ?_) (fun hm => ?_)
      · refine z_aload_n hC dX1_unsure_25 rfl 0 rfl ?_
        refine z_iload hC dX1_unsure_26 4 rfl ?_
        refine z_aload_n hC dX1_unsure_28 rfl 2 rfl ?_
        refine xHF_X1_43 hI hC (Nat.le_of_ble_eq_true rfl) hm dX1_unsure_29 (Nat.le_of_ble_eq_true rfl) (fun q1 hm => ?_)
        refine z_if_eq (tgt := 45) hC hm dX1_unsure_32 (by decide) (fun hm => ?_) (fun hm => ?_)
        · refine z_iinc (lv' := [(4, .int (x4 + (1 : Int32))), (0, .ref (ad 0)), (1, .int x1), (2, .ref (ad 7)), (3, .int x3)]) (k := 4) (v := (x4 + (1 : Int32))) hC dX1_unsure_45 rfl rfl (by decide) rfl ?_
          refine z_goto (tgt := 5) hC dX1_unsure_48 (by decide) ?_
          refine z_lv hC [1, 2, 3, 4, 0] rfl ?_
          exact ih _ _ hm
        · refine z_iload_n hC dX1_unsure_35 rfl 3 rfl ?_
          refine z_aload_n hC dX1_unsure_36 rfl 0 rfl ?_
          refine gHF_X1_21_o hC dX1_unsure_37 ?_
          refine z_iload hC dX1_unsure_40 4 rfl ?_
          refine aHF_amounts hC hm dX1_unsure_42 (fun hm => ?_)
          refine z_iadd hC dX1_unsure_43 ?_
          refine z_istore_n (lv' := [(3, .int (x3 + ((HF_amounts u) (x4).toNatClampNeg))), (0, .ref (ad 0)), (1, .int x1), (2, .ref (ad 7)), (4, .int x4)]) hC dX1_unsure_44 rfl (by decide) rfl ?_
          refine z_iinc (lv' := [(4, .int (x4 + (1 : Int32))), (3, .int (x3 + ((HF_amounts u) (x4).toNatClampNeg))), (0, .ref (ad 0)), (1, .int x1), (2, .ref (ad 7))]) (k := 4) (v := (x4 + (1 : Int32))) hC dX1_unsure_45 rfl rfl (by decide) rfl ?_
          refine z_goto (tgt := 5) hC dX1_unsure_48 (by decide) ?_
          refine z_lv hC [2, 3, 4, 1, 0] rfl ?_
          exact ih _ _ hm
      · refine z_iinc (lv' := [(4, .int (x4 + (1 : Int32))), (0, .ref (ad 0)), (1, .int x1), (2, .ref (ad 7)), (3, .int x3)]) (k := 4) (v := (x4 + (1 : Int32))) hC dX1_unsure_45 rfl rfl (by decide) rfl ?_
        refine z_goto (tgt := 5) hC dX1_unsure_48 (by decide) ?_
        refine z_lv hC [1, 2, 3, 4, 0] rfl ?_
        exact ih _ _ hm
def mHF_unsure (x1 : Int32) (u : SHF) : Option Int32 :=
  mHF_unsure_L5 x1 u 256 (1 : Int32) (0 : Int32)
set_option maxRecDepth 100000 in
set_option maxHeartbeats 4000000 in
theorem cHF_unsure {l : Launch} {D : va_G} {cA : Nat → ClassId} {ad : Nat → Nat} {tK tB : Nat} {kS vS : Nat → Nat} (hI : zInj ad 8) (x1 : Int32) (u : SHF) {r : Int32} (hm : mHF_unsure x1 u = some r) : Met l yX1_unsure (zWs yX1_unsure cX1_unsure 5 (some .int)) (zRm 2) (va_Pc [.ref (ad 0), .int x1, .ref (ad 7)] (zPre D (zTy cA) (zE tK tB kS vS) zA0 (wHF cA ad u))) (zQi r zB0 zA0) 0 0 zA0 := by
  refine z_met (lv := [(0, .ref (ad 0)), (1, .int x1), (2, .ref (ad 7))]) plX1 rfl rfl (Nat.le_of_ble_eq_true rfl) rfl ?_
  intro p e s m below meth c hC hr hin
  unfold mHF_unsure at hm
  refine z_iconst hC dX1_unsure_0 kI_1 ?_
  refine z_istore_n (lv' := [(3, .int (1 : Int32)), (0, .ref (ad 0)), (1, .int x1), (2, .ref (ad 7))]) hC dX1_unsure_1 rfl (by decide) rfl ?_
  refine z_iconst hC dX1_unsure_2 kI_0 ?_
  refine z_istore (lv' := [(4, .int (0 : Int32)), (3, .int (1 : Int32)), (0, .ref (ad 0)), (1, .int x1), (2, .ref (ad 7))]) hC dX1_unsure_3 (by decide) rfl ?_
  refine z_lv hC [2, 3, 4, 1, 0] rfl ?_
  exact lHF_unsure_5 hI hC hr _ _ _ hm
def mN_testStep (x0 : Int32) (x1 : Int32) (x2 : Int32) : Int32 :=
  (((3 : Int32) + (((x0 * (3 : Int32)) + x1) * (100 : Int32))) + x2)
set_option maxRecDepth 100000 in
set_option maxHeartbeats 4000000 in
theorem cN_testStep {l : Launch} {D : va_G} {cA : Nat → ClassId} {ad : Nat → Nat} {tK tB : Nat} {kS vS : Nat → Nat} (hI : zInj ad 0) (x0 : Int32) (x1 : Int32) (x2 : Int32) (u : SN) {r : Int32} (hm : mN_testStep x0 x1 x2 = r) : Met l yX1_testStep (zWs yX1_testStep cX1_testStep 3 (some .int)) (zRm 0) (va_Pc [.int x0, .int x1, .int x2] (zPre D (zTy cA) (zE tK tB kS vS) zA0 (wN cA ad u))) (zQi r zB0 zA0) 0 0 zA0 := by
  refine z_met (lv := [(0, .int x0), (1, .int x1), (2, .int x2)]) plX1 rfl rfl (Nat.le_of_ble_eq_true rfl) rfl ?_
  intro p e s m below meth c hC hr hin
  unfold mN_testStep at hm
  refine z_iconst hC dX1_testStep_0 kI_3 ?_
  refine z_iload_n hC dX1_testStep_1 rfl 0 rfl ?_
  refine z_iconst hC dX1_testStep_2 kI_3 ?_
  refine z_imul hC dX1_testStep_3 ?_
  refine z_iload_n hC dX1_testStep_4 rfl 1 rfl ?_
  refine z_iadd hC dX1_testStep_5 ?_
  refine z_bipush hC dX1_testStep_6 kB_100 ?_
  refine z_imul hC dX1_testStep_8 ?_
  refine z_iadd hC dX1_testStep_9 ?_
  refine z_iload_n hC dX1_testStep_10 rfl 2 rfl ?_
  refine z_iadd hC dX1_testStep_11 ?_
  exact z_iret hC hr rfl dX1_testStep_12 (fun _ _ => trivial) hm
theorem gK_X2_7_o {p : Program} {l : Launch} {e : Env} {R : Room} {s : State} {m : MethodId} {args : Array Value} {below : List Frame} {meth : Method} {c : Code} {Q : State → Prop} {D : va_G} {A : Nat → Prop} {cc : ByteArray} {nL : Nat} {lv : List (Nat × Value)} {pc : Nat} {st : List Value} {cA : Nat → ClassId} {ad : Nat → Nat} {E : zEt} {u : SK} (C : zC p s m args meth c cc nL RX2 zTS D (zTy cA) A E) (hd : decode cc pc = .ok (.getfield 7, 3)) (g : zG p l e R s m args below meth c nL D A Q (wK cA ad u) lv (pc + 3) (.ref (ad 1) :: st)) : zG p l e R s m args below meth c nL D A Q (wK cA ad u) lv pc (.ref (ad 0) :: st) := by
  exact fun H locs ls hP hS hL => va_get (D := D) (ci := 2) (C := RX2) (T := TX2) (N := 8) C.1.1 C.1.2.1 C.1.2.2.2.2 inlX2 C.1.2.2.2.1 C.2.1 hP 0 (heK_o cA ad u) rfl 0 (by decide) (C.1.2.2.2.2 _ mfX2_7) (fun _ h9 => h9) (v := .ref (ad 1)) rfl hd (g H locs ls hP hS hL)
theorem sK_facts {p : Program} {l : Launch} {e : Env} {R : Room} {s : State} {m : MethodId} {args : Array Value} {below : List Frame} {meth : Method} {c : Code} {Q : State → Prop} {D : va_G} {A : Nat → Prop} {cc : ByteArray} {nL : Nat} {lv : List (Nat × Value)} {pc : Nat} {st : List Value} {cA : Nat → ClassId} {ad : Nat → Nat} {E : zEt} {own : String} {u : SK} {i : Int32} {x : Int32} {β : Type} {k : Option β} {r : β} (C : zC p s m args meth c cc nL own zTS D (zTy cA) A E) (hI : zInj ad 2) (hA : ∀ q, zAd ad 2 q → A q) (hm : zgi i 5 k = some r) (hd : decode cc pc = .ok (.iastore, 1)) (g : k = some r → zG p l e R s m args below meth c nL D A Q (wK cA ad (K_set_facts (upd (K_facts u) i.toNatClampNeg x) u)) lv (pc + 1) st) : zG p l e R s m args below meth c nL D A Q (wK cA ad u) lv pc (.int x :: .int i :: .ref (ad 1) :: st) := fun H locs ls hP hS hL => va_iast C.1.1 C.1.2.1 C.2.1 hP (zD_mono (wK_D hI cA u) hA) hS 1 0 (heK_facts cA ad u) rfl (zgi_some hm).1 hd (fun H1 locs1 hP1 _ hS1 => g (zgi_some hm).2 H1 locs1 ls hP1 hS1 hL)
def K_put_facts (p : (Nat → Int32)) (u : SK) : SK := (u.1, (u.2.1, (u.2.2.1, p)))
def mK_ask (x1 : Int32) (x2 : Int32) (x3 : Int32) (x4 : Int32) (x5 : Int32) (u : SK) : Option ((Nat → Int32)) :=
  zgi (0 : Int32) 5 (zgi (1 : Int32) 5 (zgi (2 : Int32) 5 (zgi (3 : Int32) 5 (zgi (4 : Int32) 5 (some ((upd (upd (upd (upd (upd (K_facts u) ((0 : Int32)).toNatClampNeg x1) ((1 : Int32)).toNatClampNeg x2) ((2 : Int32)).toNatClampNeg x3) ((3 : Int32)).toNatClampNeg x4) ((4 : Int32)).toNatClampNeg x5)))))))
set_option maxRecDepth 100000 in
set_option maxHeartbeats 4000000 in
theorem cK_ask {l : Launch} {D : va_G} {cA : Nat → ClassId} {ad : Nat → Nat} {tK tB : Nat} {kS vS : Nat → Nat} (hI : zInj ad 2) (x1 : Int32) (x2 : Int32) (x3 : Int32) (x4 : Int32) (x5 : Int32) (u : SK) {w' : (Nat → Int32)} (hm : mK_ask x1 x2 x3 x4 x5 u = some w') : Met l yX2_ask (zWs yX2_ask cX2_ask 6 none) (zRm 0) (va_Pc [.ref (ad 0), .int x1, .int x2, .int x3, .int x4, .int x5] (zPre D (zTy cA) (zE tK tB kS vS) (zAd ad 2) (wK cA ad u))) (zQv (zBw D (wK cA ad (K_put_facts w' u))) (zAd ad 2)) 0 0 (zAd ad 2) := by
  refine z_met (lv := [(0, .ref (ad 0)), (1, .int x1), (2, .int x2), (3, .int x3), (4, .int x4), (5, .int x5)]) plX2 rfl rfl (Nat.le_of_ble_eq_true rfl) rfl ?_
  intro p e s m below meth c hC hr hin
  unfold mK_ask at hm
  refine z_aload_n hC dX2_ask_0 rfl 0 rfl ?_
  refine gK_X2_7_o hC dX2_ask_1 ?_
  refine z_iconst hC dX2_ask_4 kI_0 ?_
  refine z_iload_n hC dX2_ask_5 rfl 1 rfl ?_
  refine sK_facts hC hI (fun _ h => h) hm dX2_ask_6 (fun hm => ?_)
  refine zuK (u2 := (K_put_facts ((upd (K_facts u) ((0 : Int32)).toNatClampNeg x1)) u)) rfl ?_
  refine z_aload_n hC dX2_ask_7 rfl 0 rfl ?_
  refine gK_X2_7_o hC dX2_ask_8 ?_
  refine z_iconst hC dX2_ask_11 kI_1 ?_
  refine z_iload_n hC dX2_ask_12 rfl 2 rfl ?_
  refine sK_facts hC hI (fun _ h => h) hm dX2_ask_13 (fun hm => ?_)
  refine zuK (u2 := (K_put_facts ((upd (upd (K_facts u) ((0 : Int32)).toNatClampNeg x1) ((1 : Int32)).toNatClampNeg x2)) u)) rfl ?_
  refine z_aload_n hC dX2_ask_14 rfl 0 rfl ?_
  refine gK_X2_7_o hC dX2_ask_15 ?_
  refine z_iconst hC dX2_ask_18 kI_2 ?_
  refine z_iload_n hC dX2_ask_19 rfl 3 rfl ?_
  refine sK_facts hC hI (fun _ h => h) hm dX2_ask_20 (fun hm => ?_)
  refine zuK (u2 := (K_put_facts ((upd (upd (upd (K_facts u) ((0 : Int32)).toNatClampNeg x1) ((1 : Int32)).toNatClampNeg x2) ((2 : Int32)).toNatClampNeg x3)) u)) rfl ?_
  refine z_aload_n hC dX2_ask_21 rfl 0 rfl ?_
  refine gK_X2_7_o hC dX2_ask_22 ?_
  refine z_iconst hC dX2_ask_25 kI_3 ?_
  refine z_iload hC dX2_ask_26 4 rfl ?_
  refine sK_facts hC hI (fun _ h => h) hm dX2_ask_28 (fun hm => ?_)
  refine zuK (u2 := (K_put_facts ((upd (upd (upd (upd (K_facts u) ((0 : Int32)).toNatClampNeg x1) ((1 : Int32)).toNatClampNeg x2) ((2 : Int32)).toNatClampNeg x3) ((3 : Int32)).toNatClampNeg x4)) u)) rfl ?_
  refine z_aload_n hC dX2_ask_29 rfl 0 rfl ?_
  refine gK_X2_7_o hC dX2_ask_30 ?_
  refine z_iconst hC dX2_ask_33 kI_4 ?_
  refine z_iload hC dX2_ask_34 5 rfl ?_
  refine sK_facts hC hI (fun _ h => h) hm dX2_ask_36 (fun hm => ?_)
  refine zuK (u2 := (K_put_facts ((upd (upd (upd (upd (upd (K_facts u) ((0 : Int32)).toNatClampNeg x1) ((1 : Int32)).toNatClampNeg x2) ((2 : Int32)).toNatClampNeg x3) ((3 : Int32)).toNatClampNeg x4) ((4 : Int32)).toNatClampNeg x5)) u)) rfl ?_
  exact rvK (fin := fun z => K_put_facts z u) hC hr dX2_ask_37 hm rfl
theorem gK_X2_13_o {p : Program} {l : Launch} {e : Env} {R : Room} {s : State} {m : MethodId} {args : Array Value} {below : List Frame} {meth : Method} {c : Code} {Q : State → Prop} {D : va_G} {A : Nat → Prop} {cc : ByteArray} {nL : Nat} {lv : List (Nat × Value)} {pc : Nat} {st : List Value} {cA : Nat → ClassId} {ad : Nat → Nat} {E : zEt} {u : SK} (C : zC p s m args meth c cc nL RX2 zTS D (zTy cA) A E) (hd : decode cc pc = .ok (.getfield 13, 3)) {v : Int32} (hv : K_ear u = v) (g : zG p l e R s m args below meth c nL D A Q (wK cA ad u) lv (pc + 3) (.int v :: st)) : zG p l e R s m args below meth c nL D A Q (wK cA ad u) lv pc (.ref (ad 0) :: st) := by
  subst hv; exact fun H locs ls hP hS hL => va_get (D := D) (ci := 2) (C := RX2) (T := TX2) (N := 8) C.1.1 C.1.2.1 C.1.2.2.2.2 inlX2 C.1.2.2.2.1 C.2.1 hP 0 (heK_o cA ad u) rfl 1 (by decide) (C.1.2.2.2.2 _ mfX2_13) (fun _ h9 => h9) (v := .int (K_ear u)) rfl hd (g H locs ls hP hS hL)
theorem gK_X2_17_o {p : Program} {l : Launch} {e : Env} {R : Room} {s : State} {m : MethodId} {args : Array Value} {below : List Frame} {meth : Method} {c : Code} {Q : State → Prop} {D : va_G} {A : Nat → Prop} {cc : ByteArray} {nL : Nat} {lv : List (Nat × Value)} {pc : Nat} {st : List Value} {cA : Nat → ClassId} {ad : Nat → Nat} {E : zEt} {u : SK} (C : zC p s m args meth c cc nL RX2 zTS D (zTy cA) A E) (hd : decode cc pc = .ok (.getfield 17, 3)) {v : Int32} (hv : K_eye u = v) (g : zG p l e R s m args below meth c nL D A Q (wK cA ad u) lv (pc + 3) (.int v :: st)) : zG p l e R s m args below meth c nL D A Q (wK cA ad u) lv pc (.ref (ad 0) :: st) := by
  subst hv; exact fun H locs ls hP hS hL => va_get (D := D) (ci := 2) (C := RX2) (T := TX2) (N := 8) C.1.1 C.1.2.1 C.1.2.2.2.2 inlX2 C.1.2.2.2.1 C.2.1 hP 0 (heK_o cA ad u) rfl 2 (by decide) (C.1.2.2.2.2 _ mfX2_17) (fun _ h9 => h9) (v := .int (K_eye u)) rfl hd (g H locs ls hP hS hL)
def mK_reach (u : SK) : Int32 :=
  ((K_ear u) + (K_eye u))
set_option maxRecDepth 100000 in
set_option maxHeartbeats 4000000 in
theorem cK_reach {l : Launch} {D : va_G} {cA : Nat → ClassId} {ad : Nat → Nat} {tK tB : Nat} {kS vS : Nat → Nat} (hI : zInj ad 2) (u : SK) {r : Int32} (hm : mK_reach u = r) : Met l yX2_reach (zWs yX2_reach cX2_reach 1 (some .int)) (zRm 0) (va_Pc [.ref (ad 0)] (zPre D (zTy cA) (zE tK tB kS vS) zA0 (wK cA ad u))) (zQi r zB0 zA0) 0 0 zA0 := by
  refine z_met (lv := [(0, .ref (ad 0))]) plX2 rfl rfl (Nat.le_of_ble_eq_true rfl) rfl ?_
  intro p e s m below meth c hC hr hin
  unfold mK_reach at hm
  refine z_aload_n hC dX2_reach_0 rfl 0 rfl ?_
  refine gK_X2_13_o (v := (K_ear u)) hC dX2_reach_1 rfl ?_
  refine z_aload_n hC dX2_reach_4 rfl 0 rfl ?_
  refine gK_X2_17_o (v := (K_eye u)) hC dX2_reach_5 rfl ?_
  refine z_iadd hC dX2_reach_8 ?_
  exact z_iret hC hr rfl dX2_reach_9 (fun _ _ => trivial) hm
theorem xK_X2_20 {p : Program} {l : Launch} {e : Env} {s : State} {m : MethodId} {args : Array Value} {below : List Frame} {meth : Method} {c : Code} {Q : State → Prop} {D : va_G} {A : Nat → Prop} {cc : ByteArray} {nL : Nat} {lv : List (Nat × Value)} {pc : Nat} {st : List Value} {cA : Nat → ClassId} {ad : Nat → Nat} {tK tB : Nat} {kS vS : Nat → Nat} {d : Nat} {u : SK} (hI : zInj ad 2) (C : zC p s m args meth c cc nL RX2 zTS D (zTy cA) A (zE tK tB kS vS)) (hdm : 0 + 1 ≤ d) (hd : decode cc pc = .ok (.invokevirtual 20, 3)) (h8 : (st.map fun v => v.category).sum ≤ 8) (g : zG p l e (zRm d) s m args below meth c nL D A Q (wK cA ad u) lv (pc + 3) (.int (mK_reach u) :: st)) : zG p l e (zRm d) s m args below meth c nL D A Q (wK cA ad u) lv pc (.ref (ad 0) :: st) :=
  z_calliV C (cK_reach (ad := ad) (cA := cA) hI  u rfl) (cwX2_20 C.1.2.2.2.2 rfl rfl ⟨hdm, by have := hdm; simp only [zRm]; omega⟩) hd rfl rfl h8 ⟨_, rfl, rfl⟩ (List.mem_of_getElem? (heK_o cA ad u)) (fun _ h => h) (fun _ h => h.elim) zJ_ro g
theorem gK_X2_24_o {p : Program} {l : Launch} {e : Env} {R : Room} {s : State} {m : MethodId} {args : Array Value} {below : List Frame} {meth : Method} {c : Code} {Q : State → Prop} {D : va_G} {A : Nat → Prop} {cc : ByteArray} {nL : Nat} {lv : List (Nat × Value)} {pc : Nat} {st : List Value} {cA : Nat → ClassId} {ad : Nat → Nat} {E : zEt} {u : SK} (C : zC p s m args meth c cc nL RX2 zTS D (zTy cA) A E) (hd : decode cc pc = .ok (.getfield 24, 3)) {v : Int32} (hv : K_joined u = v) (g : zG p l e R s m args below meth c nL D A Q (wK cA ad u) lv (pc + 3) (.int v :: st)) : zG p l e R s m args below meth c nL D A Q (wK cA ad u) lv pc (.ref (ad 0) :: st) := by
  subst hv; exact fun H locs ls hP hS hL => va_get (D := D) (ci := 2) (C := RX2) (T := TX2) (N := 8) C.1.1 C.1.2.1 C.1.2.2.2.2 inlX2 C.1.2.2.2.1 C.2.1 hP 0 (heK_o cA ad u) rfl 5 (by decide) (C.1.2.2.2.2 _ mfX2_24) (fun _ h9 => h9) (v := .int (K_joined u)) rfl hd (g H locs ls hP hS hL)
theorem gK_X2_28_o {p : Program} {l : Launch} {e : Env} {R : Room} {s : State} {m : MethodId} {args : Array Value} {below : List Frame} {meth : Method} {c : Code} {Q : State → Prop} {D : va_G} {A : Nat → Prop} {cc : ByteArray} {nL : Nat} {lv : List (Nat × Value)} {pc : Nat} {st : List Value} {cA : Nat → ClassId} {ad : Nat → Nat} {E : zEt} {u : SK} (C : zC p s m args meth c cc nL RX2 zTS D (zTy cA) A E) (hd : decode cc pc = .ok (.getfield 28, 3)) {v : Int32} (hv : K_sounds u = v) (g : zG p l e R s m args below meth c nL D A Q (wK cA ad u) lv (pc + 3) (.int v :: st)) : zG p l e R s m args below meth c nL D A Q (wK cA ad u) lv pc (.ref (ad 0) :: st) := by
  subst hv; exact fun H locs ls hP hS hL => va_get (D := D) (ci := 2) (C := RX2) (T := TX2) (N := 8) C.1.1 C.1.2.1 C.1.2.2.2.2 inlX2 C.1.2.2.2.1 C.2.1 hP 0 (heK_o cA ad u) rfl 3 (by decide) (C.1.2.2.2.2 _ mfX2_28) (fun _ h9 => h9) (v := .int (K_sounds u)) rfl hd (g H locs ls hP hS hL)
theorem pK_X2_31_o {p : Program} {l : Launch} {e : Env} {R : Room} {s : State} {m : MethodId} {args : Array Value} {below : List Frame} {meth : Method} {c : Code} {Q : State → Prop} {D : va_G} {A : Nat → Prop} {cc : ByteArray} {nL : Nat} {lv : List (Nat × Value)} {pc : Nat} {st : List Value} {cA : Nat → ClassId} {ad : Nat → Nat} {E : zEt} {u : SK} {v : Int32} (C : zC p s m args meth c cc nL RX2 zTS D (zTy cA) A E) (hI : zInj ad 2) (hA : ∀ q, zAd ad 2 q → A q) (hd : decode cc pc = .ok (.putfield 31, 3)) (g : zG p l e R s m args below meth c nL D A Q (wK cA ad (K_set_held v u)) lv (pc + 3) st) : zG p l e R s m args below meth c nL D A Q (wK cA ad u) lv pc (.int v :: .ref (ad 0) :: st) := fun H locs ls hP hS hL => va_put (D := D) (ci := 2) (C := RX2) (T := TX2) (N := 8) C.1.1 C.1.2.1 C.1.2.2.2.2 inlX2 tyX2 tyX2_ok nmX2 C.1.2.2.2.1 C.2.1 hP (zD_mono (wK_D hI cA u) hA) hS 0 (heK_o cA ad u) rfl 6 (by decide) (C.1.2.2.2.2 _ mfX2_31) (fun _ h9 => h9) rfl (ty := .int) (by decide +kernel) rfl rfl (Nat.le_of_ble_eq_true rfl) hd (fun H1 locs1 hP1 _ hS1 => g H1 locs1 ls hP1 hS1 hL)
def K_put_held_caught (p : Int32 × Int32) (u : SK) : SK := (u.1, ((u.2.1.1, p.1), (p.2, u.2.2.2)))
theorem gK_X2_31_o {p : Program} {l : Launch} {e : Env} {R : Room} {s : State} {m : MethodId} {args : Array Value} {below : List Frame} {meth : Method} {c : Code} {Q : State → Prop} {D : va_G} {A : Nat → Prop} {cc : ByteArray} {nL : Nat} {lv : List (Nat × Value)} {pc : Nat} {st : List Value} {cA : Nat → ClassId} {ad : Nat → Nat} {E : zEt} {u : SK} (C : zC p s m args meth c cc nL RX2 zTS D (zTy cA) A E) (hd : decode cc pc = .ok (.getfield 31, 3)) {v : Int32} (hv : K_held u = v) (g : zG p l e R s m args below meth c nL D A Q (wK cA ad u) lv (pc + 3) (.int v :: st)) : zG p l e R s m args below meth c nL D A Q (wK cA ad u) lv pc (.ref (ad 0) :: st) := by
  subst hv; exact fun H locs ls hP hS hL => va_get (D := D) (ci := 2) (C := RX2) (T := TX2) (N := 8) C.1.1 C.1.2.1 C.1.2.2.2.2 inlX2 C.1.2.2.2.1 C.2.1 hP 0 (heK_o cA ad u) rfl 6 (by decide) (C.1.2.2.2.2 _ mfX2_31) (fun _ h9 => h9) (v := .int (K_held u)) rfl hd (g H locs ls hP hS hL)
theorem pK_X2_40_o {p : Program} {l : Launch} {e : Env} {R : Room} {s : State} {m : MethodId} {args : Array Value} {below : List Frame} {meth : Method} {c : Code} {Q : State → Prop} {D : va_G} {A : Nat → Prop} {cc : ByteArray} {nL : Nat} {lv : List (Nat × Value)} {pc : Nat} {st : List Value} {cA : Nat → ClassId} {ad : Nat → Nat} {E : zEt} {u : SK} {v : Int32} (C : zC p s m args meth c cc nL RX2 zTS D (zTy cA) A E) (hI : zInj ad 2) (hA : ∀ q, zAd ad 2 q → A q) (hb : v = 0 ∨ v = 1) (hd : decode cc pc = .ok (.putfield 40, 3)) (g : zG p l e R s m args below meth c nL D A Q (wK cA ad (K_set_caught v u)) lv (pc + 3) st) : zG p l e R s m args below meth c nL D A Q (wK cA ad u) lv pc (.int v :: .ref (ad 0) :: st) := fun H locs ls hP hS hL => va_put (D := D) (ci := 2) (C := RX2) (T := TX2) (N := 8) C.1.1 C.1.2.1 C.1.2.2.2.2 inlX2 tyX2 tyX2_ok nmX2 C.1.2.2.2.1 C.2.1 hP (zD_mono (wK_D hI cA u) hA) hS 0 (heK_o cA ad u) rfl 7 (by decide) (C.1.2.2.2.2 _ mfX2_40) (fun _ h9 => h9) rfl (ty := .boolean) (by decide +kernel) (zb_nar hb) (zb_fit hb) (Nat.le_of_ble_eq_true rfl) hd (fun H1 locs1 hP1 _ hS1 => g H1 locs1 ls hP1 hS1 hL)
def mK_holdBetween_J42 (x1 : Int32) (x2 : Int32) (s1 : Int32) (u : SK) : Option (Int32 × Int32) :=
  if (zabs (s1 - x1)) ≤ (zabs (s1 - x2)) then (some (s1, (0 : Int32))) else (some (s1, (1 : Int32)))
set_option maxRecDepth 100000 in
set_option maxHeartbeats 4000000 in
theorem jK_holdBetween_42 {l : Launch} {D : va_G} {cA : Nat → ClassId} {ad : Nat → Nat} {p : Program} {e : Env} {s : State} {m : MethodId} {args : Array Value} {below : List Frame} {meth : Method} {c : Code} {tK tB : Nat} {kS vS : Nat → Nat} {w' : Int32 × Int32}  {x1 : Int32} {x2 : Int32} {s1 : Int32} {u : SK} (hI : zInj ad 2) (hC : zC p s m args meth c cX2_holdBetween 4 RX2 zTS D (zTy cA) (zAd ad 2) (zE tK tB kS vS)) (hr : meth.sig.returnType = none) (hm : mK_holdBetween_J42 x1 x2 s1 u = some w') : zG p l e (zRm 1) s m args below meth c 4 D (zAd ad 2) (MQ below (zQv (zBw D (wK cA ad (K_put_held_caught w' u))) (zAd ad 2)) args s 0 0 (zAd ad 2)) (wK cA ad u) [(0, .ref (ad 0)), (1, .int x1), (2, .int x2)] 42 [.int s1, .ref (ad 0)] := by
  unfold mK_holdBetween_J42 at hm
  refine pK_X2_31_o hC hI (fun _ h => h) dX2_holdBetween_42 ?_
  refine zuK (u2 := (K_put_held_caught (s1, (K_caught u)) u)) rfl ?_
  refine z_aload_n hC dX2_holdBetween_45 rfl 0 rfl ?_
  refine z_aload_n hC dX2_holdBetween_46 rfl 0 rfl ?_
  refine gK_X2_31_o (v := s1) hC dX2_holdBetween_47 rfl ?_
  refine z_iload_n hC dX2_holdBetween_50 rfl 2 rfl ?_
  refine z_isub hC dX2_holdBetween_51 ?_
  refine z_abs hC mmX2_34 (Nat.le_of_ble_eq_true rfl) (Nat.le_of_ble_eq_true rfl) dX2_holdBetween_52 ?_
  refine z_aload_n hC dX2_holdBetween_55 rfl 0 rfl ?_
  refine gK_X2_31_o (v := s1) hC dX2_holdBetween_56 rfl ?_
  refine z_iload_n hC dX2_holdBetween_59 rfl 1 rfl ?_
  refine z_isub hC dX2_holdBetween_60 ?_
  refine z_abs hC mmX2_34 (Nat.le_of_ble_eq_true rfl) (Nat.le_of_ble_eq_true rfl) dX2_holdBetween_61 ?_
  refine z_icmp_ge (tgt := 71) hC hm dX2_holdBetween_64 (by decide) (fun hm => ?_) (fun hm => ?_)
  · refine z_iconst hC dX2_holdBetween_71 kI_0 ?_
    refine pK_X2_40_o hC hI (fun _ h => h) (Or.inl rfl) dX2_holdBetween_72 ?_
    refine zuK (u2 := (K_put_held_caught (s1, (0 : Int32)) u)) rfl ?_
    exact rvK (fin := fun z => K_put_held_caught z u) hC hr dX2_holdBetween_75 hm rfl
  · refine z_iconst hC dX2_holdBetween_67 kI_1 ?_
    refine z_goto (tgt := 72) hC dX2_holdBetween_68 (by decide) ?_
    refine pK_X2_40_o hC hI (fun _ h => h) (Or.inr rfl) dX2_holdBetween_72 ?_
    refine zuK (u2 := (K_put_held_caught (s1, (1 : Int32)) u)) rfl ?_
    exact rvK (fin := fun z => K_put_held_caught z u) hC hr dX2_holdBetween_75 hm rfl
def mK_holdBetween_J38 (x1 : Int32) (x2 : Int32) (u : SK) : Option (Int32 × Int32) :=
  mK_holdBetween_J42 x1 x2 (K_sounds u) u
set_option maxRecDepth 100000 in
set_option maxHeartbeats 4000000 in
theorem jK_holdBetween_38 {l : Launch} {D : va_G} {cA : Nat → ClassId} {ad : Nat → Nat} {p : Program} {e : Env} {s : State} {m : MethodId} {args : Array Value} {below : List Frame} {meth : Method} {c : Code} {tK tB : Nat} {kS vS : Nat → Nat} {w' : Int32 × Int32}  {x1 : Int32} {x2 : Int32} {u : SK} (hI : zInj ad 2) (hC : zC p s m args meth c cX2_holdBetween 4 RX2 zTS D (zTy cA) (zAd ad 2) (zE tK tB kS vS)) (hr : meth.sig.returnType = none) (hm : mK_holdBetween_J38 x1 x2 u = some w') : zG p l e (zRm 1) s m args below meth c 4 D (zAd ad 2) (MQ below (zQv (zBw D (wK cA ad (K_put_held_caught w' u))) (zAd ad 2)) args s 0 0 (zAd ad 2)) (wK cA ad u) [(0, .ref (ad 0)), (1, .int x1), (2, .int x2)] 38 [.ref (ad 0)] := by
  unfold mK_holdBetween_J38 at hm
  refine z_aload_n hC dX2_holdBetween_38 rfl 0 rfl ?_
  refine gK_X2_28_o (v := (K_sounds u)) hC dX2_holdBetween_39 rfl ?_
  refine z_lv hC [0, 1, 2] rfl ?_
  exact jK_holdBetween_42 hI hC hr hm
def mK_holdBetween (x1 : Int32) (x2 : Int32) (u : SK) : Option (Int32 × Int32) :=
  if (K_joined u) = 0 then (mK_holdBetween_J38 x1 x2 u) else (if (mK_reach u) ≤ 0 then (mK_holdBetween_J38 x1 x2 u) else (zgz (mK_reach u) (mK_holdBetween_J42 x1 x2 ((((K_sounds u) * (K_eye u)) + (x2 * (K_ear u))) / (mK_reach u)) u)))
set_option maxRecDepth 100000 in
set_option maxHeartbeats 4000000 in
theorem cK_holdBetween {l : Launch} {D : va_G} {cA : Nat → ClassId} {ad : Nat → Nat} {tK tB : Nat} {kS vS : Nat → Nat} (hI : zInj ad 2) (x1 : Int32) (x2 : Int32) (u : SK) {w' : Int32 × Int32} (hm : mK_holdBetween x1 x2 u = some w') : Met l yX2_holdBetween (zWs yX2_holdBetween cX2_holdBetween 4 none) (zRm 1) (va_Pc [.ref (ad 0), .int x1, .int x2] (zPre D (zTy cA) (zE tK tB kS vS) (zAd ad 2) (wK cA ad u))) (zQv (zBw D (wK cA ad (K_put_held_caught w' u))) (zAd ad 2)) 0 0 (zAd ad 2) := by
  refine z_met (lv := [(0, .ref (ad 0)), (1, .int x1), (2, .int x2)]) plX2 rfl rfl (Nat.le_of_ble_eq_true rfl) rfl ?_
  intro p e s m below meth c hC hr hin
  unfold mK_holdBetween at hm
  refine z_aload_n hC dX2_holdBetween_0 rfl 0 rfl ?_
  refine xK_X2_20 hI hC (Nat.le_of_ble_eq_true rfl) dX2_holdBetween_1 (Nat.le_of_ble_eq_true rfl) ?_
  refine z_istore_n (lv' := [(3, .int (mK_reach u)), (0, .ref (ad 0)), (1, .int x1), (2, .int x2)]) hC dX2_holdBetween_4 rfl (by decide) rfl ?_
  refine z_aload_n hC dX2_holdBetween_5 rfl 1 rfl ?_
  refine z_aload_n hC dX2_holdBetween_6 rfl 1 rfl ?_
  refine gK_X2_24_o (v := (K_joined u)) hC dX2_holdBetween_7 rfl ?_
  refine z_if_eq (tgt := 38) hC hm dX2_holdBetween_10 (by decide) (fun hm => ?_) (fun hm => ?_)
  · refine z_lv hC [1, 2, 3] rfl ?_
    exact jK_holdBetween_38 hI hC hr hm
  · refine z_iload_n hC dX2_holdBetween_13 rfl 0 rfl ?_
    refine z_if_le (tgt := 38) hC hm dX2_holdBetween_14 (by decide) (fun hm => ?_) (fun hm => ?_)
    · refine z_lv hC [1, 2, 3] rfl ?_
      exact jK_holdBetween_38 hI hC hr hm
    · refine z_aload_n hC dX2_holdBetween_17 rfl 1 rfl ?_
      refine gK_X2_28_o (v := (K_sounds u)) hC dX2_holdBetween_18 rfl ?_
      refine z_aload_n hC dX2_holdBetween_21 rfl 1 rfl ?_
      refine gK_X2_17_o (v := (K_eye u)) hC dX2_holdBetween_22 rfl ?_
      refine z_imul hC dX2_holdBetween_25 ?_
      refine z_iload_n hC dX2_holdBetween_26 rfl 3 rfl ?_
      refine z_aload_n hC dX2_holdBetween_27 rfl 1 rfl ?_
      refine gK_X2_13_o (v := (K_ear u)) hC dX2_holdBetween_28 rfl ?_
      refine z_imul hC dX2_holdBetween_31 ?_
      refine z_iadd hC dX2_holdBetween_32 ?_
      refine z_iload_n hC dX2_holdBetween_33 rfl 0 rfl ?_
      refine z_g (zgz_some hm) (fun hne hm => ?_)
      refine z_idiv hC dX2_holdBetween_34 hne ?_
      refine z_goto (tgt := 42) hC dX2_holdBetween_35 (by decide) ?_
      refine z_lv hC [1, 2, 3] rfl ?_
      exact jK_holdBetween_42 hI hC hr hm
theorem gSS_X4_9_other {p : Program} {l : Launch} {e : Env} {R : Room} {s : State} {m : MethodId} {args : Array Value} {below : List Frame} {meth : Method} {c : Code} {Q : State → Prop} {D : va_G} {A : Nat → Prop} {cc : ByteArray} {nL : Nat} {lv : List (Nat × Value)} {pc : Nat} {st : List Value} {cA : Nat → ClassId} {ad : Nat → Nat} {E : zEt} {u : SSS} (C : zC p s m args meth c cc nL RX4 zTS D (zTy cA) A E) (hd : decode cc pc = .ok (.getfield 9, 3)) {v : Int32} (hv : SS_o_mouth u = v) (g : zG p l e R s m args below meth c nL D A Q (wSS cA ad u) lv (pc + 3) (.int v :: st)) : zG p l e R s m args below meth c nL D A Q (wSS cA ad u) lv pc (.ref (ad 2) :: st) := by
  subst hv; exact fun H locs ls hP hS hL => va_get (D := D) (ci := 4) (C := RX4) (T := TX4) (N := 7) C.1.1 C.1.2.1 C.1.2.2.2.2 inlX4 C.1.2.2.2.1 C.2.1 hP 2 (heSS_other cA ad u) rfl 0 (by decide) (C.1.2.2.2.2 _ mfX4_9) (fun _ h9 => h9) (v := .int (SS_o_mouth u)) rfl hd (g H locs ls hP hS hL)
theorem pSS_X4_9_o {p : Program} {l : Launch} {e : Env} {R : Room} {s : State} {m : MethodId} {args : Array Value} {below : List Frame} {meth : Method} {c : Code} {Q : State → Prop} {D : va_G} {A : Nat → Prop} {cc : ByteArray} {nL : Nat} {lv : List (Nat × Value)} {pc : Nat} {st : List Value} {cA : Nat → ClassId} {ad : Nat → Nat} {E : zEt} {u : SSS} {v : Int32} (C : zC p s m args meth c cc nL RX4 zTS D (zTy cA) A E) (hI : zInj ad 4) (hA : ∀ q, zAd ad 4 q → A q) (hd : decode cc pc = .ok (.putfield 9, 3)) (g : zG p l e R s m args below meth c nL D A Q (wSS cA ad (SS_set_mouth v u)) lv (pc + 3) st) : zG p l e R s m args below meth c nL D A Q (wSS cA ad u) lv pc (.int v :: .ref (ad 0) :: st) := fun H locs ls hP hS hL => va_put (D := D) (ci := 4) (C := RX4) (T := TX4) (N := 7) C.1.1 C.1.2.1 C.1.2.2.2.2 inlX4 tyX4 tyX4_ok nmX4 C.1.2.2.2.1 C.2.1 hP (zD_mono (wSS_D hI cA u) hA) hS 0 (heSS_o cA ad u) rfl 0 (by decide) (C.1.2.2.2.2 _ mfX4_9) (fun _ h9 => h9) rfl (ty := .int) (by decide +kernel) rfl rfl (Nat.le_of_ble_eq_true rfl) hd (fun H1 locs1 hP1 _ hS1 => g H1 locs1 ls hP1 hS1 hL)
def SS_put_mouth_jaw_moving_letters_slips_house_words (p : Int32 × Int32 × Int64 × Int32 × Int32 × Int32 × (Nat → Int32)) (u : SSS) : SSS := (((p.1, (p.2.1, p.2.2.1)), ((p.2.2.2.1, p.2.2.2.2.1), (p.2.2.2.2.2.1, u.1.2.2.2))), (u.2.1, (u.2.2.1, (p.2.2.2.2.2.2, u.2.2.2.2))))
theorem gSS_X4_15_other {p : Program} {l : Launch} {e : Env} {R : Room} {s : State} {m : MethodId} {args : Array Value} {below : List Frame} {meth : Method} {c : Code} {Q : State → Prop} {D : va_G} {A : Nat → Prop} {cc : ByteArray} {nL : Nat} {lv : List (Nat × Value)} {pc : Nat} {st : List Value} {cA : Nat → ClassId} {ad : Nat → Nat} {E : zEt} {u : SSS} (C : zC p s m args meth c cc nL RX4 zTS D (zTy cA) A E) (hd : decode cc pc = .ok (.getfield 15, 3)) {v : Int32} (hv : SS_o_jaw u = v) (g : zG p l e R s m args below meth c nL D A Q (wSS cA ad u) lv (pc + 3) (.int v :: st)) : zG p l e R s m args below meth c nL D A Q (wSS cA ad u) lv pc (.ref (ad 2) :: st) := by
  subst hv; exact fun H locs ls hP hS hL => va_get (D := D) (ci := 4) (C := RX4) (T := TX4) (N := 7) C.1.1 C.1.2.1 C.1.2.2.2.2 inlX4 C.1.2.2.2.1 C.2.1 hP 2 (heSS_other cA ad u) rfl 1 (by decide) (C.1.2.2.2.2 _ mfX4_15) (fun _ h9 => h9) (v := .int (SS_o_jaw u)) rfl hd (g H locs ls hP hS hL)
theorem pSS_X4_15_o {p : Program} {l : Launch} {e : Env} {R : Room} {s : State} {m : MethodId} {args : Array Value} {below : List Frame} {meth : Method} {c : Code} {Q : State → Prop} {D : va_G} {A : Nat → Prop} {cc : ByteArray} {nL : Nat} {lv : List (Nat × Value)} {pc : Nat} {st : List Value} {cA : Nat → ClassId} {ad : Nat → Nat} {E : zEt} {u : SSS} {v : Int32} (C : zC p s m args meth c cc nL RX4 zTS D (zTy cA) A E) (hI : zInj ad 4) (hA : ∀ q, zAd ad 4 q → A q) (hd : decode cc pc = .ok (.putfield 15, 3)) (g : zG p l e R s m args below meth c nL D A Q (wSS cA ad (SS_set_jaw v u)) lv (pc + 3) st) : zG p l e R s m args below meth c nL D A Q (wSS cA ad u) lv pc (.int v :: .ref (ad 0) :: st) := fun H locs ls hP hS hL => va_put (D := D) (ci := 4) (C := RX4) (T := TX4) (N := 7) C.1.1 C.1.2.1 C.1.2.2.2.2 inlX4 tyX4 tyX4_ok nmX4 C.1.2.2.2.1 C.2.1 hP (zD_mono (wSS_D hI cA u) hA) hS 0 (heSS_o cA ad u) rfl 1 (by decide) (C.1.2.2.2.2 _ mfX4_15) (fun _ h9 => h9) rfl (ty := .int) (by decide +kernel) rfl rfl (Nat.le_of_ble_eq_true rfl) hd (fun H1 locs1 hP1 _ hS1 => g H1 locs1 ls hP1 hS1 hL)
theorem gSS_X4_22_other {p : Program} {l : Launch} {e : Env} {R : Room} {s : State} {m : MethodId} {args : Array Value} {below : List Frame} {meth : Method} {c : Code} {Q : State → Prop} {D : va_G} {A : Nat → Prop} {cc : ByteArray} {nL : Nat} {lv : List (Nat × Value)} {pc : Nat} {st : List Value} {cA : Nat → ClassId} {ad : Nat → Nat} {E : zEt} {u : SSS} (C : zC p s m args meth c cc nL RX4 zTS D (zTy cA) A E) (hd : decode cc pc = .ok (.getfield 22, 3)) {v : Int64} (hv : SS_o_moving u = v) (g : zG p l e R s m args below meth c nL D A Q (wSS cA ad u) lv (pc + 3) (.long v :: st)) : zG p l e R s m args below meth c nL D A Q (wSS cA ad u) lv pc (.ref (ad 2) :: st) := by
  subst hv; exact fun H locs ls hP hS hL => va_get (D := D) (ci := 4) (C := RX4) (T := TX4) (N := 7) C.1.1 C.1.2.1 C.1.2.2.2.2 inlX4 C.1.2.2.2.1 C.2.1 hP 2 (heSS_other cA ad u) rfl 2 (by decide) (C.1.2.2.2.2 _ mfX4_22) (fun _ h9 => h9) (v := .long (SS_o_moving u)) rfl hd (g H locs ls hP hS hL)
theorem pSS_X4_22_o {p : Program} {l : Launch} {e : Env} {R : Room} {s : State} {m : MethodId} {args : Array Value} {below : List Frame} {meth : Method} {c : Code} {Q : State → Prop} {D : va_G} {A : Nat → Prop} {cc : ByteArray} {nL : Nat} {lv : List (Nat × Value)} {pc : Nat} {st : List Value} {cA : Nat → ClassId} {ad : Nat → Nat} {E : zEt} {u : SSS} {v : Int64} (C : zC p s m args meth c cc nL RX4 zTS D (zTy cA) A E) (hI : zInj ad 4) (hA : ∀ q, zAd ad 4 q → A q) (hd : decode cc pc = .ok (.putfield 22, 3)) (g : zG p l e R s m args below meth c nL D A Q (wSS cA ad (SS_set_moving v u)) lv (pc + 3) st) : zG p l e R s m args below meth c nL D A Q (wSS cA ad u) lv pc (.long v :: .ref (ad 0) :: st) := fun H locs ls hP hS hL => va_put (D := D) (ci := 4) (C := RX4) (T := TX4) (N := 7) C.1.1 C.1.2.1 C.1.2.2.2.2 inlX4 tyX4 tyX4_ok nmX4 C.1.2.2.2.1 C.2.1 hP (zD_mono (wSS_D hI cA u) hA) hS 0 (heSS_o cA ad u) rfl 2 (by decide) (C.1.2.2.2.2 _ mfX4_22) (fun _ h9 => h9) rfl (ty := .long) (by decide +kernel) rfl rfl (Nat.le_of_ble_eq_true rfl) hd (fun H1 locs1 hP1 _ hS1 => g H1 locs1 ls hP1 hS1 hL)
theorem gSS_X4_18_other {p : Program} {l : Launch} {e : Env} {R : Room} {s : State} {m : MethodId} {args : Array Value} {below : List Frame} {meth : Method} {c : Code} {Q : State → Prop} {D : va_G} {A : Nat → Prop} {cc : ByteArray} {nL : Nat} {lv : List (Nat × Value)} {pc : Nat} {st : List Value} {cA : Nat → ClassId} {ad : Nat → Nat} {E : zEt} {u : SSS} (C : zC p s m args meth c cc nL RX4 zTS D (zTy cA) A E) (hd : decode cc pc = .ok (.getfield 18, 3)) (g : zG p l e R s m args below meth c nL D A Q (wSS cA ad u) lv (pc + 3) (.ref (ad 3) :: st)) : zG p l e R s m args below meth c nL D A Q (wSS cA ad u) lv pc (.ref (ad 2) :: st) := by
  exact fun H locs ls hP hS hL => va_get (D := D) (ci := 4) (C := RX4) (T := TX4) (N := 7) C.1.1 C.1.2.1 C.1.2.2.2.2 inlX4 C.1.2.2.2.1 C.2.1 hP 2 (heSS_other cA ad u) rfl 3 (by decide) (C.1.2.2.2.2 _ mfX4_18) (fun _ h9 => h9) (v := .ref (ad 3)) rfl hd (g H locs ls hP hS hL)
theorem gSS_X4_18_o {p : Program} {l : Launch} {e : Env} {R : Room} {s : State} {m : MethodId} {args : Array Value} {below : List Frame} {meth : Method} {c : Code} {Q : State → Prop} {D : va_G} {A : Nat → Prop} {cc : ByteArray} {nL : Nat} {lv : List (Nat × Value)} {pc : Nat} {st : List Value} {cA : Nat → ClassId} {ad : Nat → Nat} {E : zEt} {u : SSS} (C : zC p s m args meth c cc nL RX4 zTS D (zTy cA) A E) (hd : decode cc pc = .ok (.getfield 18, 3)) (g : zG p l e R s m args below meth c nL D A Q (wSS cA ad u) lv (pc + 3) (.ref (ad 1) :: st)) : zG p l e R s m args below meth c nL D A Q (wSS cA ad u) lv pc (.ref (ad 0) :: st) := by
  exact fun H locs ls hP hS hL => va_get (D := D) (ci := 4) (C := RX4) (T := TX4) (N := 7) C.1.1 C.1.2.1 C.1.2.2.2.2 inlX4 C.1.2.2.2.1 C.2.1 hP 0 (heSS_o cA ad u) rfl 3 (by decide) (C.1.2.2.2.2 _ mfX4_18) (fun _ h9 => h9) (v := .ref (ad 1)) rfl hd (g H locs ls hP hS hL)
theorem gSS_X4_32_other {p : Program} {l : Launch} {e : Env} {R : Room} {s : State} {m : MethodId} {args : Array Value} {below : List Frame} {meth : Method} {c : Code} {Q : State → Prop} {D : va_G} {A : Nat → Prop} {cc : ByteArray} {nL : Nat} {lv : List (Nat × Value)} {pc : Nat} {st : List Value} {cA : Nat → ClassId} {ad : Nat → Nat} {E : zEt} {u : SSS} (C : zC p s m args meth c cc nL RX4 zTS D (zTy cA) A E) (hd : decode cc pc = .ok (.getfield 32, 3)) {v : Int32} (hv : SS_o_letters u = v) (g : zG p l e R s m args below meth c nL D A Q (wSS cA ad u) lv (pc + 3) (.int v :: st)) : zG p l e R s m args below meth c nL D A Q (wSS cA ad u) lv pc (.ref (ad 2) :: st) := by
  subst hv; exact fun H locs ls hP hS hL => va_get (D := D) (ci := 4) (C := RX4) (T := TX4) (N := 7) C.1.1 C.1.2.1 C.1.2.2.2.2 inlX4 C.1.2.2.2.1 C.2.1 hP 2 (heSS_other cA ad u) rfl 4 (by decide) (C.1.2.2.2.2 _ mfX4_32) (fun _ h9 => h9) (v := .int (SS_o_letters u)) rfl hd (g H locs ls hP hS hL)
theorem pSS_X4_32_o {p : Program} {l : Launch} {e : Env} {R : Room} {s : State} {m : MethodId} {args : Array Value} {below : List Frame} {meth : Method} {c : Code} {Q : State → Prop} {D : va_G} {A : Nat → Prop} {cc : ByteArray} {nL : Nat} {lv : List (Nat × Value)} {pc : Nat} {st : List Value} {cA : Nat → ClassId} {ad : Nat → Nat} {E : zEt} {u : SSS} {v : Int32} (C : zC p s m args meth c cc nL RX4 zTS D (zTy cA) A E) (hI : zInj ad 4) (hA : ∀ q, zAd ad 4 q → A q) (hd : decode cc pc = .ok (.putfield 32, 3)) (g : zG p l e R s m args below meth c nL D A Q (wSS cA ad (SS_set_letters v u)) lv (pc + 3) st) : zG p l e R s m args below meth c nL D A Q (wSS cA ad u) lv pc (.int v :: .ref (ad 0) :: st) := fun H locs ls hP hS hL => va_put (D := D) (ci := 4) (C := RX4) (T := TX4) (N := 7) C.1.1 C.1.2.1 C.1.2.2.2.2 inlX4 tyX4 tyX4_ok nmX4 C.1.2.2.2.1 C.2.1 hP (zD_mono (wSS_D hI cA u) hA) hS 0 (heSS_o cA ad u) rfl 4 (by decide) (C.1.2.2.2.2 _ mfX4_32) (fun _ h9 => h9) rfl (ty := .int) (by decide +kernel) rfl rfl (Nat.le_of_ble_eq_true rfl) hd (fun H1 locs1 hP1 _ hS1 => g H1 locs1 ls hP1 hS1 hL)
theorem gSS_X4_35_other {p : Program} {l : Launch} {e : Env} {R : Room} {s : State} {m : MethodId} {args : Array Value} {below : List Frame} {meth : Method} {c : Code} {Q : State → Prop} {D : va_G} {A : Nat → Prop} {cc : ByteArray} {nL : Nat} {lv : List (Nat × Value)} {pc : Nat} {st : List Value} {cA : Nat → ClassId} {ad : Nat → Nat} {E : zEt} {u : SSS} (C : zC p s m args meth c cc nL RX4 zTS D (zTy cA) A E) (hd : decode cc pc = .ok (.getfield 35, 3)) {v : Int32} (hv : SS_o_slips u = v) (g : zG p l e R s m args below meth c nL D A Q (wSS cA ad u) lv (pc + 3) (.int v :: st)) : zG p l e R s m args below meth c nL D A Q (wSS cA ad u) lv pc (.ref (ad 2) :: st) := by
  subst hv; exact fun H locs ls hP hS hL => va_get (D := D) (ci := 4) (C := RX4) (T := TX4) (N := 7) C.1.1 C.1.2.1 C.1.2.2.2.2 inlX4 C.1.2.2.2.1 C.2.1 hP 2 (heSS_other cA ad u) rfl 5 (by decide) (C.1.2.2.2.2 _ mfX4_35) (fun _ h9 => h9) (v := .int (SS_o_slips u)) rfl hd (g H locs ls hP hS hL)
theorem pSS_X4_35_o {p : Program} {l : Launch} {e : Env} {R : Room} {s : State} {m : MethodId} {args : Array Value} {below : List Frame} {meth : Method} {c : Code} {Q : State → Prop} {D : va_G} {A : Nat → Prop} {cc : ByteArray} {nL : Nat} {lv : List (Nat × Value)} {pc : Nat} {st : List Value} {cA : Nat → ClassId} {ad : Nat → Nat} {E : zEt} {u : SSS} {v : Int32} (C : zC p s m args meth c cc nL RX4 zTS D (zTy cA) A E) (hI : zInj ad 4) (hA : ∀ q, zAd ad 4 q → A q) (hd : decode cc pc = .ok (.putfield 35, 3)) (g : zG p l e R s m args below meth c nL D A Q (wSS cA ad (SS_set_slips v u)) lv (pc + 3) st) : zG p l e R s m args below meth c nL D A Q (wSS cA ad u) lv pc (.int v :: .ref (ad 0) :: st) := fun H locs ls hP hS hL => va_put (D := D) (ci := 4) (C := RX4) (T := TX4) (N := 7) C.1.1 C.1.2.1 C.1.2.2.2.2 inlX4 tyX4 tyX4_ok nmX4 C.1.2.2.2.1 C.2.1 hP (zD_mono (wSS_D hI cA u) hA) hS 0 (heSS_o cA ad u) rfl 5 (by decide) (C.1.2.2.2.2 _ mfX4_35) (fun _ h9 => h9) rfl (ty := .int) (by decide +kernel) rfl rfl (Nat.le_of_ble_eq_true rfl) hd (fun H1 locs1 hP1 _ hS1 => g H1 locs1 ls hP1 hS1 hL)
theorem gSS_X4_38_other {p : Program} {l : Launch} {e : Env} {R : Room} {s : State} {m : MethodId} {args : Array Value} {below : List Frame} {meth : Method} {c : Code} {Q : State → Prop} {D : va_G} {A : Nat → Prop} {cc : ByteArray} {nL : Nat} {lv : List (Nat × Value)} {pc : Nat} {st : List Value} {cA : Nat → ClassId} {ad : Nat → Nat} {E : zEt} {u : SSS} (C : zC p s m args meth c cc nL RX4 zTS D (zTy cA) A E) (hd : decode cc pc = .ok (.getfield 38, 3)) {v : Int32} (hv : SS_o_house u = v) (g : zG p l e R s m args below meth c nL D A Q (wSS cA ad u) lv (pc + 3) (.int v :: st)) : zG p l e R s m args below meth c nL D A Q (wSS cA ad u) lv pc (.ref (ad 2) :: st) := by
  subst hv; exact fun H locs ls hP hS hL => va_get (D := D) (ci := 4) (C := RX4) (T := TX4) (N := 7) C.1.1 C.1.2.1 C.1.2.2.2.2 inlX4 C.1.2.2.2.1 C.2.1 hP 2 (heSS_other cA ad u) rfl 6 (by decide) (C.1.2.2.2.2 _ mfX4_38) (fun _ h9 => h9) (v := .int (SS_o_house u)) rfl hd (g H locs ls hP hS hL)
theorem pSS_X4_38_o {p : Program} {l : Launch} {e : Env} {R : Room} {s : State} {m : MethodId} {args : Array Value} {below : List Frame} {meth : Method} {c : Code} {Q : State → Prop} {D : va_G} {A : Nat → Prop} {cc : ByteArray} {nL : Nat} {lv : List (Nat × Value)} {pc : Nat} {st : List Value} {cA : Nat → ClassId} {ad : Nat → Nat} {E : zEt} {u : SSS} {v : Int32} (C : zC p s m args meth c cc nL RX4 zTS D (zTy cA) A E) (hI : zInj ad 4) (hA : ∀ q, zAd ad 4 q → A q) (hd : decode cc pc = .ok (.putfield 38, 3)) (g : zG p l e R s m args below meth c nL D A Q (wSS cA ad (SS_set_house v u)) lv (pc + 3) st) : zG p l e R s m args below meth c nL D A Q (wSS cA ad u) lv pc (.int v :: .ref (ad 0) :: st) := fun H locs ls hP hS hL => va_put (D := D) (ci := 4) (C := RX4) (T := TX4) (N := 7) C.1.1 C.1.2.1 C.1.2.2.2.2 inlX4 tyX4 tyX4_ok nmX4 C.1.2.2.2.1 C.2.1 hP (zD_mono (wSS_D hI cA u) hA) hS 0 (heSS_o cA ad u) rfl 6 (by decide) (C.1.2.2.2.2 _ mfX4_38) (fun _ h9 => h9) rfl (ty := .int) (by decide +kernel) rfl rfl (Nat.le_of_ble_eq_true rfl) hd (fun H1 locs1 hP1 _ hS1 => g H1 locs1 ls hP1 hS1 hL)
def mSS_become (u : SSS) : Option (Int32 × Int32 × Int64 × Int32 × Int32 × Int32 × (Nat → Int32)) :=
  some ((SS_o_mouth u), (SS_o_jaw u), (SS_o_moving u), (SS_o_letters u), (SS_o_slips u), (SS_o_house u), (va_cpy (SS_o_words u) (SS_words u) (0 : Int32).toNatClampNeg (0 : Int32).toNatClampNeg (20 : Int32).toNatClampNeg))
set_option maxRecDepth 100000 in
set_option maxHeartbeats 4000000 in
theorem cSS_become {l : Launch} {D : va_G} {cA : Nat → ClassId} {ad : Nat → Nat} {tK tB : Nat} {kS vS : Nat → Nat} (hI : zInj ad 4) (u : SSS) {w' : Int32 × Int32 × Int64 × Int32 × Int32 × Int32 × (Nat → Int32)} (hm : mSS_become u = some w') : Met l yX4_become (zWs yX4_become cX4_become 2 none) (zRm 1) (va_Pc [.ref (ad 0), .ref (ad 2)] (zPre D (zTy cA) (zE tK tB kS vS) (zAd ad 4) (wSS cA ad u))) (zQv (zBw D (wSS cA ad (SS_put_mouth_jaw_moving_letters_slips_house_words w' u))) (zAd ad 4)) 0 0 (zAd ad 4) := by
  refine z_met (lv := [(0, .ref (ad 0)), (1, .ref (ad 2))]) plX4 rfl rfl (Nat.le_of_ble_eq_true rfl) rfl ?_
  intro p e s m below meth c hC hr hin
  unfold mSS_become at hm
  refine z_aload_n hC dX4_become_0 rfl 0 rfl ?_
  refine z_aload_n hC dX4_become_1 rfl 1 rfl ?_
  refine gSS_X4_9_other (v := (SS_o_mouth u)) hC dX4_become_2 rfl ?_
  refine pSS_X4_9_o hC hI (fun _ h => h) dX4_become_5 ?_
  refine zuSS (u2 := (SS_put_mouth_jaw_moving_letters_slips_house_words ((SS_o_mouth u), (SS_jaw u), (SS_moving u), (SS_letters u), (SS_slips u), (SS_house u), (SS_words u)) u)) rfl ?_
  refine z_aload_n hC dX4_become_8 rfl 0 rfl ?_
  refine z_aload_n hC dX4_become_9 rfl 1 rfl ?_
  refine gSS_X4_15_other (v := (SS_o_jaw u)) hC dX4_become_10 rfl ?_
  refine pSS_X4_15_o hC hI (fun _ h => h) dX4_become_13 ?_
  refine zuSS (u2 := (SS_put_mouth_jaw_moving_letters_slips_house_words ((SS_o_mouth u), (SS_o_jaw u), (SS_moving u), (SS_letters u), (SS_slips u), (SS_house u), (SS_words u)) u)) rfl ?_
  refine z_aload_n hC dX4_become_16 rfl 0 rfl ?_
  refine z_aload_n hC dX4_become_17 rfl 1 rfl ?_
  refine gSS_X4_22_other (v := (SS_o_moving u)) hC dX4_become_18 rfl ?_
  refine pSS_X4_22_o hC hI (fun _ h => h) dX4_become_21 ?_
  refine zuSS (u2 := (SS_put_mouth_jaw_moving_letters_slips_house_words ((SS_o_mouth u), (SS_o_jaw u), (SS_o_moving u), (SS_letters u), (SS_slips u), (SS_house u), (SS_words u)) u)) rfl ?_
  refine z_aload_n hC dX4_become_24 rfl 1 rfl ?_
  refine gSS_X4_18_other hC dX4_become_25 ?_
  refine z_iconst hC dX4_become_28 kI_0 ?_
  refine z_aload_n hC dX4_become_29 rfl 0 rfl ?_
  refine gSS_X4_18_o hC dX4_become_30 ?_
  refine z_iconst hC dX4_become_33 kI_0 ?_
  refine z_bipush hC dX4_become_34 kB_20 ?_
  refine z_copySS hC hI (fun _ h => h) (Nat.le_of_ble_eq_true rfl) (Nat.le_of_ble_eq_true rfl) dX4_become_36 ?_
  refine zuSS (u2 := (SS_put_mouth_jaw_moving_letters_slips_house_words ((SS_o_mouth u), (SS_o_jaw u), (SS_o_moving u), (SS_letters u), (SS_slips u), (SS_house u), (va_cpy (SS_o_words u) (SS_words u) (0 : Int32).toNatClampNeg (0 : Int32).toNatClampNeg (20 : Int32).toNatClampNeg)) u)) rfl ?_
  refine z_aload_n hC dX4_become_39 rfl 0 rfl ?_
  refine z_aload_n hC dX4_become_40 rfl 1 rfl ?_
  refine gSS_X4_32_other (v := (SS_o_letters u)) hC dX4_become_41 rfl ?_
  refine pSS_X4_32_o hC hI (fun _ h => h) dX4_become_44 ?_
  refine zuSS (u2 := (SS_put_mouth_jaw_moving_letters_slips_house_words ((SS_o_mouth u), (SS_o_jaw u), (SS_o_moving u), (SS_o_letters u), (SS_slips u), (SS_house u), (va_cpy (SS_o_words u) (SS_words u) (0 : Int32).toNatClampNeg (0 : Int32).toNatClampNeg (20 : Int32).toNatClampNeg)) u)) rfl ?_
  refine z_aload_n hC dX4_become_47 rfl 0 rfl ?_
  refine z_aload_n hC dX4_become_48 rfl 1 rfl ?_
  refine gSS_X4_35_other (v := (SS_o_slips u)) hC dX4_become_49 rfl ?_
  refine pSS_X4_35_o hC hI (fun _ h => h) dX4_become_52 ?_
  refine zuSS (u2 := (SS_put_mouth_jaw_moving_letters_slips_house_words ((SS_o_mouth u), (SS_o_jaw u), (SS_o_moving u), (SS_o_letters u), (SS_o_slips u), (SS_house u), (va_cpy (SS_o_words u) (SS_words u) (0 : Int32).toNatClampNeg (0 : Int32).toNatClampNeg (20 : Int32).toNatClampNeg)) u)) rfl ?_
  refine z_aload_n hC dX4_become_55 rfl 0 rfl ?_
  refine z_aload_n hC dX4_become_56 rfl 1 rfl ?_
  refine gSS_X4_38_other (v := (SS_o_house u)) hC dX4_become_57 rfl ?_
  refine pSS_X4_38_o hC hI (fun _ h => h) dX4_become_60 ?_
  refine zuSS (u2 := (SS_put_mouth_jaw_moving_letters_slips_house_words ((SS_o_mouth u), (SS_o_jaw u), (SS_o_moving u), (SS_o_letters u), (SS_o_slips u), (SS_o_house u), (va_cpy (SS_o_words u) (SS_words u) (0 : Int32).toNatClampNeg (0 : Int32).toNatClampNeg (20 : Int32).toNatClampNeg)) u)) rfl ?_
  exact rvSS (fin := fun z => SS_put_mouth_jaw_moving_letters_slips_house_words z u) hC hr dX4_become_63 hm rfl
theorem gS_X4_32_o {p : Program} {l : Launch} {e : Env} {R : Room} {s : State} {m : MethodId} {args : Array Value} {below : List Frame} {meth : Method} {c : Code} {Q : State → Prop} {D : va_G} {A : Nat → Prop} {cc : ByteArray} {nL : Nat} {lv : List (Nat × Value)} {pc : Nat} {st : List Value} {cA : Nat → ClassId} {ad : Nat → Nat} {E : zEt} {u : SS} (C : zC p s m args meth c cc nL RX4 zTS D (zTy cA) A E) (hd : decode cc pc = .ok (.getfield 32, 3)) {v : Int32} (hv : S_letters u = v) (g : zG p l e R s m args below meth c nL D A Q (wS cA ad u) lv (pc + 3) (.int v :: st)) : zG p l e R s m args below meth c nL D A Q (wS cA ad u) lv pc (.ref (ad 0) :: st) := by
  subst hv; exact fun H locs ls hP hS hL => va_get (D := D) (ci := 4) (C := RX4) (T := TX4) (N := 7) C.1.1 C.1.2.1 C.1.2.2.2.2 inlX4 C.1.2.2.2.1 C.2.1 hP 0 (heS_o cA ad u) rfl 4 (by decide) (C.1.2.2.2.2 _ mfX4_32) (fun _ h9 => h9) (v := .int (S_letters u)) rfl hd (g H locs ls hP hS hL)
def mS_tenthsSaidIn (u : SS) : Int32 :=
  ((2 : Int32) * (S_letters u))
set_option maxRecDepth 100000 in
set_option maxHeartbeats 4000000 in
theorem cS_tenthsSaidIn {l : Launch} {D : va_G} {cA : Nat → ClassId} {ad : Nat → Nat} {tK tB : Nat} {kS vS : Nat → Nat} (hI : zInj ad 2) (u : SS) {r : Int32} (hm : mS_tenthsSaidIn u = r) : Met l yX4_tenthsSaidIn (zWs yX4_tenthsSaidIn cX4_tenthsSaidIn 1 (some .int)) (zRm 0) (va_Pc [.ref (ad 0)] (zPre D (zTy cA) (zE tK tB kS vS) zA0 (wS cA ad u))) (zQi r zB0 zA0) 0 0 zA0 := by
  refine z_met (lv := [(0, .ref (ad 0))]) plX4 rfl rfl (Nat.le_of_ble_eq_true rfl) rfl ?_
  intro p e s m below meth c hC hr hin
  unfold mS_tenthsSaidIn at hm
  refine z_iconst hC dX4_tenthsSaidIn_0 kI_2 ?_
  refine z_aload_n hC dX4_tenthsSaidIn_1 rfl 0 rfl ?_
  refine gS_X4_32_o (v := (S_letters u)) hC dX4_tenthsSaidIn_2 rfl ?_
  refine z_imul hC dX4_tenthsSaidIn_5 ?_
  exact z_iret hC hr rfl dX4_tenthsSaidIn_6 (fun _ _ => trivial) hm
theorem xS_X4_41 {p : Program} {l : Launch} {e : Env} {s : State} {m : MethodId} {args : Array Value} {below : List Frame} {meth : Method} {c : Code} {Q : State → Prop} {D : va_G} {A : Nat → Prop} {cc : ByteArray} {nL : Nat} {lv : List (Nat × Value)} {pc : Nat} {st : List Value} {cA : Nat → ClassId} {ad : Nat → Nat} {tK tB : Nat} {kS vS : Nat → Nat} {d : Nat} {u : SS} (hI : zInj ad 2) (C : zC p s m args meth c cc nL RX4 zTS D (zTy cA) A (zE tK tB kS vS)) (hdm : 0 + 1 ≤ d) (hd : decode cc pc = .ok (.invokevirtual 41, 3)) (h8 : (st.map fun v => v.category).sum ≤ 8) (g : zG p l e (zRm d) s m args below meth c nL D A Q (wS cA ad u) lv (pc + 3) (.int (mS_tenthsSaidIn u) :: st)) : zG p l e (zRm d) s m args below meth c nL D A Q (wS cA ad u) lv pc (.ref (ad 0) :: st) :=
  z_calliV C (cS_tenthsSaidIn (ad := ad) (cA := cA) hI  u rfl) (cwX4_41 C.1.2.2.2.2 rfl rfl ⟨hdm, by have := hdm; simp only [zRm]; omega⟩) hd rfl rfl h8 ⟨_, rfl, rfl⟩ (List.mem_of_getElem? (heS_o cA ad u)) (fun _ h => h) (fun _ h => h.elim) zJ_ro g
theorem gS_X4_18_o {p : Program} {l : Launch} {e : Env} {R : Room} {s : State} {m : MethodId} {args : Array Value} {below : List Frame} {meth : Method} {c : Code} {Q : State → Prop} {D : va_G} {A : Nat → Prop} {cc : ByteArray} {nL : Nat} {lv : List (Nat × Value)} {pc : Nat} {st : List Value} {cA : Nat → ClassId} {ad : Nat → Nat} {E : zEt} {u : SS} (C : zC p s m args meth c cc nL RX4 zTS D (zTy cA) A E) (hd : decode cc pc = .ok (.getfield 18, 3)) (g : zG p l e R s m args below meth c nL D A Q (wS cA ad u) lv (pc + 3) (.ref (ad 1) :: st)) : zG p l e R s m args below meth c nL D A Q (wS cA ad u) lv pc (.ref (ad 0) :: st) := by
  exact fun H locs ls hP hS hL => va_get (D := D) (ci := 4) (C := RX4) (T := TX4) (N := 7) C.1.1 C.1.2.1 C.1.2.2.2.2 inlX4 C.1.2.2.2.1 C.2.1 hP 0 (heS_o cA ad u) rfl 3 (by decide) (C.1.2.2.2.2 _ mfX4_18) (fun _ h9 => h9) (v := .ref (ad 1)) rfl hd (g H locs ls hP hS hL)
theorem aS_words {p : Program} {l : Launch} {e : Env} {R : Room} {s : State} {m : MethodId} {args : Array Value} {below : List Frame} {meth : Method} {c : Code} {Q : State → Prop} {D : va_G} {A : Nat → Prop} {cc : ByteArray} {nL : Nat} {lv : List (Nat × Value)} {pc : Nat} {st : List Value} {cA : Nat → ClassId} {ad : Nat → Nat} {E : zEt} {own : String} {u : SS} {i : Int32} {β : Type} {k : Option β} {r : β} (C : zC p s m args meth c cc nL own zTS D (zTy cA) A E) (hm : zgi i 20 k = some r) (hd : decode cc pc = .ok (.iaload, 1)) (g : k = some r → zG p l e R s m args below meth c nL D A Q (wS cA ad u) lv (pc + 1) (.int (S_words u i.toNatClampNeg) :: st)) : zG p l e R s m args below meth c nL D A Q (wS cA ad u) lv pc (.int i :: .ref (ad 1) :: st) := fun H locs ls hP hS hL => va_iald C.1.1 C.1.2.1 C.2.1 hP 1 0 (heS_words cA ad u) rfl (zgi_some hm).1 hd (g (zgi_some hm).2 H locs ls hP hS hL)
def mS_letterIn (x1 : Int32) (u : SS) : Option Int32 :=
  if (mS_tenthsSaidIn u) ≤ x1 then (some (99 : Int32)) else (zgi (x1 / (2 : Int32)) 20 (some ((S_words u) ((x1 / (2 : Int32))).toNatClampNeg)))
set_option maxRecDepth 100000 in
set_option maxHeartbeats 4000000 in
theorem cS_letterIn {l : Launch} {D : va_G} {cA : Nat → ClassId} {ad : Nat → Nat} {tK tB : Nat} {kS vS : Nat → Nat} (hI : zInj ad 2) (x1 : Int32) (u : SS) {r : Int32} (hm : mS_letterIn x1 u = some r) : Met l yX4_letterIn (zWs yX4_letterIn cX4_letterIn 2 (some .int)) (zRm 1) (va_Pc [.ref (ad 0), .int x1] (zPre D (zTy cA) (zE tK tB kS vS) zA0 (wS cA ad u))) (zQi r zB0 zA0) 0 0 zA0 := by
  refine z_met (lv := [(0, .ref (ad 0)), (1, .int x1)]) plX4 rfl rfl (Nat.le_of_ble_eq_true rfl) rfl ?_
  intro p e s m below meth c hC hr hin
  unfold mS_letterIn at hm
  refine z_iload_n hC dX4_letterIn_0 rfl 1 rfl ?_
  refine z_aload_n hC dX4_letterIn_1 rfl 0 rfl ?_
  refine xS_X4_41 hI hC (Nat.le_of_ble_eq_true rfl) dX4_letterIn_2 (Nat.le_of_ble_eq_true rfl) ?_
  refine z_icmp_ge (tgt := 19) hC hm dX4_letterIn_5 (by decide) (fun hm => ?_) (fun hm => ?_)
  · refine z_bipush hC dX4_letterIn_19 kB_99 ?_
    exact z_iret hC hr rfl dX4_letterIn_21 (fun _ _ => trivial) (Option.some.inj hm)
  · refine z_aload_n hC dX4_letterIn_8 rfl 0 rfl ?_
    refine gS_X4_18_o hC dX4_letterIn_9 ?_
    refine z_iload_n hC dX4_letterIn_12 rfl 1 rfl ?_
    refine z_iconst hC dX4_letterIn_13 kI_2 ?_
    refine z_idiv hC dX4_letterIn_14 (by decide) ?_
    refine aS_words hC hm dX4_letterIn_15 (fun hm => ?_)
    refine z_goto (tgt := 21) hC dX4_letterIn_16 (by decide) ?_
    exact z_iret hC hr rfl dX4_letterIn_21 (fun _ _ => trivial) (Option.some.inj hm)
theorem pT_X5_11_o {p : Program} {l : Launch} {e : Env} {R : Room} {s : State} {m : MethodId} {args : Array Value} {below : List Frame} {meth : Method} {c : Code} {Q : State → Prop} {D : va_G} {A : Nat → Prop} {cc : ByteArray} {nL : Nat} {lv : List (Nat × Value)} {pc : Nat} {st : List Value} {cA : Nat → ClassId} {ad : Nat → Nat} {E : zEt} {u : ST} {v : Int32} (C : zC p s m args meth c cc nL RX5 zTS D (zTy cA) A E) (hI : zInj ad 2) (hA : ∀ q, zAd ad 2 q → A q) (hd : decode cc pc = .ok (.putfield 11, 3)) (g : zG p l e R s m args below meth c nL D A Q (wT cA ad (T_set_sort v u)) lv (pc + 3) st) : zG p l e R s m args below meth c nL D A Q (wT cA ad u) lv pc (.int v :: .ref (ad 0) :: st) := fun H locs ls hP hS hL => va_put (D := D) (ci := 5) (C := RX5) (T := TX5) (N := 3) C.1.1 C.1.2.1 C.1.2.2.2.2 inlX5 tyX5 tyX5_ok nmX5 C.1.2.2.2.1 C.2.1 hP (zD_mono (wT_D hI cA u) hA) hS 0 (heT_o cA ad u) rfl 0 (by decide) (C.1.2.2.2.2 _ mfX5_11) (fun _ h9 => h9) rfl (ty := .int) (by decide +kernel) rfl rfl (Nat.le_of_ble_eq_true rfl) hd (fun H1 locs1 hP1 _ hS1 => g H1 locs1 ls hP1 hS1 hL)
def T_put_sort_length_items (p : Int32 × Int32 × (Nat → Int64)) (u : ST) : ST := (p.1, (p.2.1, p.2.2))
theorem pT_X5_19_o {p : Program} {l : Launch} {e : Env} {R : Room} {s : State} {m : MethodId} {args : Array Value} {below : List Frame} {meth : Method} {c : Code} {Q : State → Prop} {D : va_G} {A : Nat → Prop} {cc : ByteArray} {nL : Nat} {lv : List (Nat × Value)} {pc : Nat} {st : List Value} {cA : Nat → ClassId} {ad : Nat → Nat} {E : zEt} {u : ST} {v : Int32} (C : zC p s m args meth c cc nL RX5 zTS D (zTy cA) A E) (hI : zInj ad 2) (hA : ∀ q, zAd ad 2 q → A q) (hd : decode cc pc = .ok (.putfield 19, 3)) (g : zG p l e R s m args below meth c nL D A Q (wT cA ad (T_set_length v u)) lv (pc + 3) st) : zG p l e R s m args below meth c nL D A Q (wT cA ad u) lv pc (.int v :: .ref (ad 0) :: st) := fun H locs ls hP hS hL => va_put (D := D) (ci := 5) (C := RX5) (T := TX5) (N := 3) C.1.1 C.1.2.1 C.1.2.2.2.2 inlX5 tyX5 tyX5_ok nmX5 C.1.2.2.2.1 C.2.1 hP (zD_mono (wT_D hI cA u) hA) hS 0 (heT_o cA ad u) rfl 1 (by decide) (C.1.2.2.2.2 _ mfX5_19) (fun _ h9 => h9) rfl (ty := .int) (by decide +kernel) rfl rfl (Nat.le_of_ble_eq_true rfl) hd (fun H1 locs1 hP1 _ hS1 => g H1 locs1 ls hP1 hS1 hL)
theorem gT_X5_15_o {p : Program} {l : Launch} {e : Env} {R : Room} {s : State} {m : MethodId} {args : Array Value} {below : List Frame} {meth : Method} {c : Code} {Q : State → Prop} {D : va_G} {A : Nat → Prop} {cc : ByteArray} {nL : Nat} {lv : List (Nat × Value)} {pc : Nat} {st : List Value} {cA : Nat → ClassId} {ad : Nat → Nat} {E : zEt} {u : ST} (C : zC p s m args meth c cc nL RX5 zTS D (zTy cA) A E) (hd : decode cc pc = .ok (.getfield 15, 3)) (g : zG p l e R s m args below meth c nL D A Q (wT cA ad u) lv (pc + 3) (.ref (ad 1) :: st)) : zG p l e R s m args below meth c nL D A Q (wT cA ad u) lv pc (.ref (ad 0) :: st) := by
  exact fun H locs ls hP hS hL => va_get (D := D) (ci := 5) (C := RX5) (T := TX5) (N := 3) C.1.1 C.1.2.1 C.1.2.2.2.2 inlX5 C.1.2.2.2.1 C.2.1 hP 0 (heT_o cA ad u) rfl 2 (by decide) (C.1.2.2.2.2 _ mfX5_15) (fun _ h9 => h9) (v := .ref (ad 1)) rfl hd (g H locs ls hP hS hL)
theorem sT_items {p : Program} {l : Launch} {e : Env} {R : Room} {s : State} {m : MethodId} {args : Array Value} {below : List Frame} {meth : Method} {c : Code} {Q : State → Prop} {D : va_G} {A : Nat → Prop} {cc : ByteArray} {nL : Nat} {lv : List (Nat × Value)} {pc : Nat} {st : List Value} {cA : Nat → ClassId} {ad : Nat → Nat} {E : zEt} {own : String} {u : ST} {i : Int32} {x : Int64} {β : Type} {k : Option β} {r : β} (C : zC p s m args meth c cc nL own zTS D (zTy cA) A E) (hI : zInj ad 2) (hA : ∀ q, zAd ad 2 q → A q) (hm : zgi i 60 k = some r) (hd : decode cc pc = .ok (.lastore, 1)) (g : k = some r → zG p l e R s m args below meth c nL D A Q (wT cA ad (T_set_items (vp_updL (T_items u) i.toNatClampNeg x) u)) lv (pc + 1) st) : zG p l e R s m args below meth c nL D A Q (wT cA ad u) lv pc (.long x :: .int i :: .ref (ad 1) :: st) := fun H locs ls hP hS hL => va_last C.1.1 C.1.2.1 C.2.1 hP (zD_mono (wT_D hI cA u) hA) hS 1 1 (heT_items cA ad u) rfl (zgi_some hm).1 hd (fun H1 locs1 hP1 _ hS1 => g (zgi_some hm).2 H1 locs1 ls hP1 hS1 hL)
def mT_lay_L12 : Nat → Int32 → ST → Option (Int32 × Int32 × (Nat → Int64))
  | 0, _, _ => none
  | n + 1, x3, u => if (60 : Int32) ≤ x3 then (some ((T_sort u), (T_length u), (T_items u))) else (zgi x3 60 (mT_lay_L12 n (x3 + (1 : Int32)) (T_put_sort_length_items ((T_sort u), (T_length u), (vp_updL (T_items u) (x3).toNatClampNeg (0 : Int64))) u)))
set_option maxRecDepth 100000 in
set_option maxHeartbeats 4000000 in
theorem lT_lay_12 {l : Launch} {D : va_G} {cA : Nat → ClassId} {ad : Nat → Nat} {p : Program} {e : Env} {s : State} {m : MethodId} {args : Array Value} {below : List Frame} {meth : Method} {c : Code} {tK tB : Nat} {kS vS : Nat → Nat} {w' : Int32 × Int32 × (Nat → Int64)}  (hI : zInj ad 2) (hC : zC p s m args meth c cX5_lay 4 RX5 zTS D (zTy cA) (zAd ad 2) (zE tK tB kS vS)) (hr : meth.sig.returnType = none) : ∀ (n : Nat) (x3 : Int32) (u : ST), mT_lay_L12 n x3 u = some w' → zG p l e (zRm 0) s m args below meth c 4 D (zAd ad 2) (MQ below (zQv (zBw D (wT cA ad (T_put_sort_length_items w' u))) (zAd ad 2)) args s 0 0 (zAd ad 2)) (wT cA ad u) [(0, .ref (ad 0)), (3, .int x3)] 12 [] := by
  intro n
  induction n with
  | zero => intro x3 u hm; exact z_none hm
  | succ n ih =>
    intro x3 u hm
    rw [mT_lay_L12] at hm
    refine z_iload_n hC dX5_lay_12 rfl 1 rfl ?_
    refine z_bipush hC dX5_lay_13 kB_60 ?_
    refine z_icmp_ge (tgt := 31) hC hm dX5_lay_15 (by decide) (fun hm => ?_) (fun hm => ?_)
    · exact rvT (fin := fun z => T_put_sort_length_items z u) hC hr dX5_lay_31 hm rfl
    · refine z_aload_n hC dX5_lay_18 rfl 0 rfl ?_
      refine gT_X5_15_o hC dX5_lay_19 ?_
      refine z_iload_n hC dX5_lay_22 rfl 1 rfl ?_
      refine z_lconst hC dX5_lay_23 kL_0 ?_
      refine sT_items hC hI (fun _ h => h) hm dX5_lay_24 (fun hm => ?_)
      refine zuT (u2 := (T_put_sort_length_items ((T_sort u), (T_length u), (vp_updL (T_items u) (x3).toNatClampNeg (0 : Int64))) u)) rfl ?_
      refine z_iinc (lv' := [(3, .int (x3 + (1 : Int32))), (0, .ref (ad 0))]) (k := 1) (v := (x3 + (1 : Int32))) hC dX5_lay_25 rfl rfl (by decide) rfl ?_
      refine z_goto (tgt := 12) hC dX5_lay_28 (by decide) ?_
      refine z_lv hC [1, 0] rfl ?_
      exact ih _ _ hm
def mT_lay (x1 : Int32) (x2 : Int32) (u : ST) : Option (Int32 × Int32 × (Nat → Int64)) :=
  mT_lay_L12 256 (0 : Int32) (T_put_sort_length_items (x1, x2, (T_items u)) u)
set_option maxRecDepth 100000 in
set_option maxHeartbeats 4000000 in
theorem cT_lay {l : Launch} {D : va_G} {cA : Nat → ClassId} {ad : Nat → Nat} {tK tB : Nat} {kS vS : Nat → Nat} (hI : zInj ad 2) (x1 : Int32) (x2 : Int32) (u : ST) {w' : Int32 × Int32 × (Nat → Int64)} (hm : mT_lay x1 x2 u = some w') : Met l yX5_lay (zWs yX5_lay cX5_lay 4 none) (zRm 0) (va_Pc [.ref (ad 0), .int x1, .int x2] (zPre D (zTy cA) (zE tK tB kS vS) (zAd ad 2) (wT cA ad u))) (zQv (zBw D (wT cA ad (T_put_sort_length_items w' u))) (zAd ad 2)) 0 0 (zAd ad 2) := by
  refine z_met (lv := [(0, .ref (ad 0)), (1, .int x1), (2, .int x2)]) plX5 rfl rfl (Nat.le_of_ble_eq_true rfl) rfl ?_
  intro p e s m below meth c hC hr hin
  unfold mT_lay at hm
  refine z_aload_n hC dX5_lay_0 rfl 0 rfl ?_
  refine z_iload_n hC dX5_lay_1 rfl 1 rfl ?_
  refine pT_X5_11_o hC hI (fun _ h => h) dX5_lay_2 ?_
  refine zuT (u2 := (T_put_sort_length_items (x1, (T_length u), (T_items u)) u)) rfl ?_
  refine z_aload_n hC dX5_lay_5 rfl 0 rfl ?_
  refine z_iload_n hC dX5_lay_6 rfl 2 rfl ?_
  refine pT_X5_19_o hC hI (fun _ h => h) dX5_lay_7 ?_
  refine zuT (u2 := (T_put_sort_length_items (x1, x2, (T_items u)) u)) rfl ?_
  refine z_iconst hC dX5_lay_10 kI_0 ?_
  refine z_istore_n (lv' := [(3, .int (0 : Int32)), (0, .ref (ad 0)), (1, .int x1), (2, .int x2)]) hC dX5_lay_11 rfl (by decide) rfl ?_
  refine z_lv hC [1, 0] rfl ?_
  exact lT_lay_12 hI hC hr _ _ _ hm
theorem gT_X5_11_o {p : Program} {l : Launch} {e : Env} {R : Room} {s : State} {m : MethodId} {args : Array Value} {below : List Frame} {meth : Method} {c : Code} {Q : State → Prop} {D : va_G} {A : Nat → Prop} {cc : ByteArray} {nL : Nat} {lv : List (Nat × Value)} {pc : Nat} {st : List Value} {cA : Nat → ClassId} {ad : Nat → Nat} {E : zEt} {u : ST} (C : zC p s m args meth c cc nL RX5 zTS D (zTy cA) A E) (hd : decode cc pc = .ok (.getfield 11, 3)) {v : Int32} (hv : T_sort u = v) (g : zG p l e R s m args below meth c nL D A Q (wT cA ad u) lv (pc + 3) (.int v :: st)) : zG p l e R s m args below meth c nL D A Q (wT cA ad u) lv pc (.ref (ad 0) :: st) := by
  subst hv; exact fun H locs ls hP hS hL => va_get (D := D) (ci := 5) (C := RX5) (T := TX5) (N := 3) C.1.1 C.1.2.1 C.1.2.2.2.2 inlX5 C.1.2.2.2.1 C.2.1 hP 0 (heT_o cA ad u) rfl 0 (by decide) (C.1.2.2.2.2 _ mfX5_11) (fun _ h9 => h9) (v := .int (T_sort u)) rfl hd (g H locs ls hP hS hL)
def mT_isRow (u : ST) : Int32 :=
  if (T_sort u) = (-1 : Int32) then ((0 : Int32)) else ((1 : Int32))
theorem bT_isRow (u : ST) : mT_isRow u = 0 ∨ mT_isRow u = 1 := by
  unfold mT_isRow
  (repeat' split) <;> first | exact Or.inl rfl | exact Or.inr rfl
set_option maxRecDepth 100000 in
set_option maxHeartbeats 4000000 in
theorem cT_isRow {l : Launch} {D : va_G} {cA : Nat → ClassId} {ad : Nat → Nat} {tK tB : Nat} {kS vS : Nat → Nat} (hI : zInj ad 2) (u : ST) {r : Int32} (hm : mT_isRow u = r) : Met l yX5_isRow (zWs yX5_isRow cX5_isRow 1 (some .boolean)) (zRm 0) (va_Pc [.ref (ad 0)] (zPre D (zTy cA) (zE tK tB kS vS) zA0 (wT cA ad u))) (zQi r zB0 zA0) 0 0 zA0 := by
  refine z_met (lv := [(0, .ref (ad 0))]) plX5 rfl rfl (Nat.le_of_ble_eq_true rfl) rfl ?_
  intro p e s m below meth c hC hr hin
  unfold mT_isRow at hm
  refine z_aload_n hC dX5_isRow_0 rfl 0 rfl ?_
  refine gT_X5_11_o (v := (T_sort u)) hC dX5_isRow_1 rfl ?_
  refine z_iconst hC dX5_isRow_4 kI_m1 ?_
  refine z_icmp_eq (tgt := 12) hC hm dX5_isRow_5 (by decide) (fun hm => ?_) (fun hm => ?_)
  · refine z_iconst hC dX5_isRow_12 kI_0 ?_
    exact z_iret hC hr rfl dX5_isRow_13 (fun _ _ => trivial) hm
  · refine z_iconst hC dX5_isRow_8 kI_1 ?_
    refine z_goto (tgt := 13) hC dX5_isRow_9 (by decide) ?_
    exact z_iret hC hr rfl dX5_isRow_13 (fun _ _ => trivial) hm
theorem gT_X5_19_o {p : Program} {l : Launch} {e : Env} {R : Room} {s : State} {m : MethodId} {args : Array Value} {below : List Frame} {meth : Method} {c : Code} {Q : State → Prop} {D : va_G} {A : Nat → Prop} {cc : ByteArray} {nL : Nat} {lv : List (Nat × Value)} {pc : Nat} {st : List Value} {cA : Nat → ClassId} {ad : Nat → Nat} {E : zEt} {u : ST} (C : zC p s m args meth c cc nL RX5 zTS D (zTy cA) A E) (hd : decode cc pc = .ok (.getfield 19, 3)) {v : Int32} (hv : T_length u = v) (g : zG p l e R s m args below meth c nL D A Q (wT cA ad u) lv (pc + 3) (.int v :: st)) : zG p l e R s m args below meth c nL D A Q (wT cA ad u) lv pc (.ref (ad 0) :: st) := by
  subst hv; exact fun H locs ls hP hS hL => va_get (D := D) (ci := 5) (C := RX5) (T := TX5) (N := 3) C.1.1 C.1.2.1 C.1.2.2.2.2 inlX5 C.1.2.2.2.1 C.2.1 hP 0 (heT_o cA ad u) rfl 1 (by decide) (C.1.2.2.2.2 _ mfX5_19) (fun _ h9 => h9) (v := .int (T_length u)) rfl hd (g H locs ls hP hS hL)
def mT_has (x1 : Int32) (u : ST) : Int32 :=
  if x1 < 0 then ((0 : Int32)) else (if (T_length u) ≤ x1 then ((0 : Int32)) else ((1 : Int32)))
theorem bT_has (x1 : Int32) (u : ST) : mT_has x1 u = 0 ∨ mT_has x1 u = 1 := by
  unfold mT_has
  (repeat' split) <;> first | exact Or.inl rfl | exact Or.inr rfl
set_option maxRecDepth 100000 in
set_option maxHeartbeats 4000000 in
theorem cT_has {l : Launch} {D : va_G} {cA : Nat → ClassId} {ad : Nat → Nat} {tK tB : Nat} {kS vS : Nat → Nat} (hI : zInj ad 2) (x1 : Int32) (u : ST) {r : Int32} (hm : mT_has x1 u = r) : Met l yX5_has (zWs yX5_has cX5_has 2 (some .boolean)) (zRm 0) (va_Pc [.ref (ad 0), .int x1] (zPre D (zTy cA) (zE tK tB kS vS) zA0 (wT cA ad u))) (zQi r zB0 zA0) 0 0 zA0 := by
  refine z_met (lv := [(0, .ref (ad 0)), (1, .int x1)]) plX5 rfl rfl (Nat.le_of_ble_eq_true rfl) rfl ?_
  intro p e s m below meth c hC hr hin
  unfold mT_has at hm
  refine z_iload_n hC dX5_has_0 rfl 1 rfl ?_
  refine z_if_lt (tgt := 16) hC hm dX5_has_1 (by decide) (fun hm => ?_) (fun hm => ?_)
  · refine z_iconst hC dX5_has_16 kI_0 ?_
    exact z_iret hC hr rfl dX5_has_17 (fun _ _ => trivial) hm
  · refine z_iload_n hC dX5_has_4 rfl 1 rfl ?_
    refine z_aload_n hC dX5_has_5 rfl 0 rfl ?_
    refine gT_X5_19_o (v := (T_length u)) hC dX5_has_6 rfl ?_
    refine z_icmp_ge (tgt := 16) hC hm dX5_has_9 (by decide) (fun hm => ?_) (fun hm => ?_)
    · refine z_iconst hC dX5_has_16 kI_0 ?_
      exact z_iret hC hr rfl dX5_has_17 (fun _ _ => trivial) hm
    · refine z_iconst hC dX5_has_12 kI_1 ?_
      refine z_goto (tgt := 17) hC dX5_has_13 (by decide) ?_
      exact z_iret hC hr rfl dX5_has_17 (fun _ _ => trivial) hm
def mT_hasRun (x1 : Int32) (x2 : Int32) (u : ST) : Int32 :=
  if x1 < 0 then ((0 : Int32)) else (if x2 < 0 then ((0 : Int32)) else (if ((T_length u) - x1) < x2 then ((0 : Int32)) else ((1 : Int32))))
theorem bT_hasRun (x1 : Int32) (x2 : Int32) (u : ST) : mT_hasRun x1 x2 u = 0 ∨ mT_hasRun x1 x2 u = 1 := by
  unfold mT_hasRun
  (repeat' split) <;> first | exact Or.inl rfl | exact Or.inr rfl
set_option maxRecDepth 100000 in
set_option maxHeartbeats 4000000 in
theorem cT_hasRun {l : Launch} {D : va_G} {cA : Nat → ClassId} {ad : Nat → Nat} {tK tB : Nat} {kS vS : Nat → Nat} (hI : zInj ad 2) (x1 : Int32) (x2 : Int32) (u : ST) {r : Int32} (hm : mT_hasRun x1 x2 u = r) : Met l yX5_hasRun (zWs yX5_hasRun cX5_hasRun 3 (some .boolean)) (zRm 0) (va_Pc [.ref (ad 0), .int x1, .int x2] (zPre D (zTy cA) (zE tK tB kS vS) zA0 (wT cA ad u))) (zQi r zB0 zA0) 0 0 zA0 := by
  refine z_met (lv := [(0, .ref (ad 0)), (1, .int x1), (2, .int x2)]) plX5 rfl rfl (Nat.le_of_ble_eq_true rfl) rfl ?_
  intro p e s m below meth c hC hr hin
  unfold mT_hasRun at hm
  refine z_iload_n hC dX5_hasRun_0 rfl 1 rfl ?_
  refine z_if_lt (tgt := 22) hC hm dX5_hasRun_1 (by decide) (fun hm => ?_) (fun hm => ?_)
  · refine z_iconst hC dX5_hasRun_22 kI_0 ?_
    exact z_iret hC hr rfl dX5_hasRun_23 (fun _ _ => trivial) hm
  · refine z_iload_n hC dX5_hasRun_4 rfl 2 rfl ?_
    refine z_if_lt (tgt := 22) hC hm dX5_hasRun_5 (by decide) (fun hm => ?_) (fun hm => ?_)
    · refine z_iconst hC dX5_hasRun_22 kI_0 ?_
      exact z_iret hC hr rfl dX5_hasRun_23 (fun _ _ => trivial) hm
    · refine z_iload_n hC dX5_hasRun_8 rfl 2 rfl ?_
      refine z_aload_n hC dX5_hasRun_9 rfl 0 rfl ?_
      refine gT_X5_19_o (v := (T_length u)) hC dX5_hasRun_10 rfl ?_
      refine z_iload_n hC dX5_hasRun_13 rfl 1 rfl ?_
      refine z_isub hC dX5_hasRun_14 ?_
      refine z_icmp_gt (tgt := 22) hC hm dX5_hasRun_15 (by decide) (fun hm => ?_) (fun hm => ?_)
      · refine z_iconst hC dX5_hasRun_22 kI_0 ?_
        exact z_iret hC hr rfl dX5_hasRun_23 (fun _ _ => trivial) hm
      · refine z_iconst hC dX5_hasRun_18 kI_1 ?_
        refine z_goto (tgt := 23) hC dX5_hasRun_19 (by decide) ?_
        exact z_iret hC hr rfl dX5_hasRun_23 (fun _ _ => trivial) hm
def T_put_items (p : (Nat → Int64)) (u : ST) : ST := (u.1, (u.2.1, p))
def mT_put (x1 : Int32) (x2 : Int64) (u : ST) : Option ((Nat → Int64)) :=
  if (T_sort u) = (0 : Int32) then (zgi x1 60 (some ((vp_updL (T_items u) (x1).toNatClampNeg ((((((x2).toInt32)).toInt8.toInt32)).toInt64))))) else (if (T_sort u) = (1 : Int32) then (zgi x1 60 (some ((vp_updL (T_items u) (x1).toNatClampNeg ((((((x2).toInt32)).toInt16.toInt32)).toInt64))))) else (if (T_sort u) = (2 : Int32) then (zgi x1 60 (some ((vp_updL (T_items u) (x1).toNatClampNeg ((((x2).toInt32)).toInt64))))) else (if (T_sort u) = (3 : Int32) then (zgi x1 60 (some ((vp_updL (T_items u) (x1).toNatClampNeg x2)))) else (if (lg_cmp x2 (0 : Int64)) = 0 then (zgi x1 60 (some ((vp_updL (T_items u) (x1).toNatClampNeg (0 : Int64))))) else (zgi x1 60 (some ((vp_updL (T_items u) (x1).toNatClampNeg (1 : Int64)))))))))
set_option maxRecDepth 100000 in
set_option maxHeartbeats 4000000 in
theorem cT_put {l : Launch} {D : va_G} {cA : Nat → ClassId} {ad : Nat → Nat} {tK tB : Nat} {kS vS : Nat → Nat} (hI : zInj ad 2) (x1 : Int32) (x2 : Int64) (u : ST) {w' : (Nat → Int64)} (hm : mT_put x1 x2 u = some w') : Met l yX5_put (zWs yX5_put cX5_put 4 none) (zRm 0) (va_Pc [.ref (ad 0), .int x1, .long x2] (zPre D (zTy cA) (zE tK tB kS vS) (zAd ad 2) (wT cA ad u))) (zQv (zBw D (wT cA ad (T_put_items w' u))) (zAd ad 2)) 0 0 (zAd ad 2) := by
  refine z_met (lv := [(0, .ref (ad 0)), (1, .int x1), (2, .long x2)]) plX5 rfl rfl (Nat.le_of_ble_eq_true rfl) rfl ?_
  intro p e s m below meth c hC hr hin
  unfold mT_put at hm
  refine z_aload_n hC dX5_put_0 rfl 0 rfl ?_
  refine gT_X5_11_o (v := (T_sort u)) hC dX5_put_1 rfl ?_
  refine z_ite hm (fun h4_0 hm => ?_) (fun h4_0 hm => ?_)
  · refine z_tin hC dX5_put_4 h4_0 kc_0 (by decide) (by decide) (off := 32) rfl (tgt := 36) (by decide) ?_
    refine z_aload_n hC dX5_put_36 rfl 0 rfl ?_
    refine gT_X5_15_o hC dX5_put_37 ?_
    refine z_iload_n hC dX5_put_40 rfl 1 rfl ?_
    refine z_lload_n hC dX5_put_41 rfl 2 rfl ?_
    refine z_l2i hC dX5_put_42 ?_
    refine z_i2b hC dX5_put_43 ?_
    refine z_i2l hC dX5_put_44 ?_
    refine sT_items hC hI (fun _ h => h) hm dX5_put_45 (fun hm => ?_)
    refine zuT (u2 := (T_put_items ((vp_updL (T_items u) (x1).toNatClampNeg ((((((x2).toInt32)).toInt8.toInt32)).toInt64))) u)) rfl ?_
    refine z_goto (tgt := 101) hC dX5_put_46 (by decide) ?_
    exact rvT (fin := fun z => T_put_items z u) hC hr dX5_put_101 hm rfl
  · refine z_ite hm (fun h4_1 hm => ?_) (fun h4_1 hm => ?_)
    · refine z_tin hC dX5_put_4 h4_1 kc_1 (by decide) (by decide) (off := 45) rfl (tgt := 49) (by decide) ?_
      refine z_aload_n hC dX5_put_49 rfl 0 rfl ?_
      refine gT_X5_15_o hC dX5_put_50 ?_
      refine z_iload_n hC dX5_put_53 rfl 1 rfl ?_
      refine z_lload_n hC dX5_put_54 rfl 2 rfl ?_
      refine z_l2i hC dX5_put_55 ?_
      refine z_i2s hC dX5_put_56 ?_
      refine z_i2l hC dX5_put_57 ?_
      refine sT_items hC hI (fun _ h => h) hm dX5_put_58 (fun hm => ?_)
      refine zuT (u2 := (T_put_items ((vp_updL (T_items u) (x1).toNatClampNeg ((((((x2).toInt32)).toInt16.toInt32)).toInt64))) u)) rfl ?_
      refine z_goto (tgt := 101) hC dX5_put_59 (by decide) ?_
      exact rvT (fin := fun z => T_put_items z u) hC hr dX5_put_101 hm rfl
    · refine z_ite hm (fun h4_2 hm => ?_) (fun h4_2 hm => ?_)
      · refine z_tin hC dX5_put_4 h4_2 kc_2 (by decide) (by decide) (off := 58) rfl (tgt := 62) (by decide) ?_
        refine z_aload_n hC dX5_put_62 rfl 0 rfl ?_
        refine gT_X5_15_o hC dX5_put_63 ?_
        refine z_iload_n hC dX5_put_66 rfl 1 rfl ?_
        refine z_lload_n hC dX5_put_67 rfl 2 rfl ?_
        refine z_l2i hC dX5_put_68 ?_
        refine z_i2l hC dX5_put_69 ?_
        refine sT_items hC hI (fun _ h => h) hm dX5_put_70 (fun hm => ?_)
        refine zuT (u2 := (T_put_items ((vp_updL (T_items u) (x1).toNatClampNeg ((((x2).toInt32)).toInt64))) u)) rfl ?_
        refine z_goto (tgt := 101) hC dX5_put_71 (by decide) ?_
        exact rvT (fin := fun z => T_put_items z u) hC hr dX5_put_101 hm rfl
      · refine z_ite hm (fun h4_3 hm => ?_) (fun h4_3 hm => ?_)
        · refine z_tin hC dX5_put_4 h4_3 kc_3 (by decide) (by decide) (off := 70) rfl (tgt := 74) (by decide) ?_
          refine z_aload_n hC dX5_put_74 rfl 0 rfl ?_
          refine gT_X5_15_o hC dX5_put_75 ?_
          refine z_iload_n hC dX5_put_78 rfl 1 rfl ?_
          refine z_lload_n hC dX5_put_79 rfl 2 rfl ?_
          refine sT_items hC hI (fun _ h => h) hm dX5_put_80 (fun hm => ?_)
          refine zuT (u2 := (T_put_items ((vp_updL (T_items u) (x1).toNatClampNeg x2)) u)) rfl ?_
          refine z_goto (tgt := 101) hC dX5_put_81 (by decide) ?_
          exact rvT (fin := fun z => T_put_items z u) hC hr dX5_put_101 hm rfl
        · refine z_tout (n := 4) hC dX5_put_4 (z_allc (z_tneq kc_0 h4_0) (z_allc (z_tneq kc_1 h4_1) (z_allc (z_tneq kc_2 h4_2) (z_allc (z_tneq kc_3 h4_3) z_all0)))) (by decide) (tgt := 84) (by decide) ?_
          refine z_aload_n hC dX5_put_84 rfl 0 rfl ?_
          refine gT_X5_15_o hC dX5_put_85 ?_
          refine z_iload_n hC dX5_put_88 rfl 1 rfl ?_
          refine z_lload_n hC dX5_put_89 rfl 2 rfl ?_
          refine z_lconst hC dX5_put_90 kL_0 ?_
          refine z_lcmp hC dX5_put_91 ?_
          refine z_if_eq (tgt := 99) hC hm dX5_put_92 (by decide) (fun hm => ?_) (fun hm => ?_)
          · refine z_lconst hC dX5_put_99 kL_0 ?_
            refine sT_items hC hI (fun _ h => h) hm dX5_put_100 (fun hm => ?_)
            refine zuT (u2 := (T_put_items ((vp_updL (T_items u) (x1).toNatClampNeg (0 : Int64))) u)) rfl ?_
            exact rvT (fin := fun z => T_put_items z u) hC hr dX5_put_101 hm rfl
          · refine z_lconst hC dX5_put_95 kL_1 ?_
            refine z_goto (tgt := 100) hC dX5_put_96 (by decide) ?_
            refine sT_items hC hI (fun _ h => h) hm dX5_put_100 (fun hm => ?_)
            refine zuT (u2 := (T_put_items ((vp_updL (T_items u) (x1).toNatClampNeg (1 : Int64))) u)) rfl ?_
            exact rvT (fin := fun z => T_put_items z u) hC hr dX5_put_101 hm rfl
theorem gO_X6_15_o {p : Program} {l : Launch} {e : Env} {R : Room} {s : State} {m : MethodId} {args : Array Value} {below : List Frame} {meth : Method} {c : Code} {Q : State → Prop} {D : va_G} {A : Nat → Prop} {cc : ByteArray} {nL : Nat} {lv : List (Nat × Value)} {pc : Nat} {st : List Value} {cA : Nat → ClassId} {ad : Nat → Nat} {E : zEt} {u : SO} (C : zC p s m args meth c cc nL RX6 zTS D (zTy cA) A E) (hd : decode cc pc = .ok (.getfield 15, 3)) {v : Int32} (hv : O_kind u = v) (g : zG p l e R s m args below meth c nL D A Q (wO cA ad u) lv (pc + 3) (.int v :: st)) : zG p l e R s m args below meth c nL D A Q (wO cA ad u) lv pc (.ref (ad 0) :: st) := by
  subst hv; exact fun H locs ls hP hS hL => va_get (D := D) (ci := 6) (C := RX6) (T := TX6) (N := 3) C.1.1 C.1.2.1 C.1.2.2.2.2 inlX6 C.1.2.2.2.1 C.2.1 hP 0 (heO_o cA ad u) rfl 1 (by decide) (C.1.2.2.2.2 _ mfX6_15) (fun _ h9 => h9) (v := .int (O_kind u)) rfl hd (g H locs ls hP hS hL)
def mO_isOf_L7 (x1 : Int32) (u : SO) : Nat → Int32 → Int32 → Option Int32
  | 0, _, _ => none
  | n + 1, x2, x3 => if (7 : Int32) ≤ x3 then (some (0 : Int32)) else (if x2 < 0 then (some (0 : Int32)) else (if x2 = x1 then (some (1 : Int32)) else (zgi x2 7 (mO_isOf_L7 x1 u n (zKA (x2).toNatClampNeg) (x3 + (1 : Int32))))))
set_option maxRecDepth 100000 in
set_option maxHeartbeats 4000000 in
theorem lO_isOf_7 {l : Launch} {D : va_G} {cA : Nat → ClassId} {ad : Nat → Nat} {p : Program} {e : Env} {s : State} {m : MethodId} {args : Array Value} {below : List Frame} {meth : Method} {c : Code} {tK tB : Nat} {kS vS : Nat → Nat} {r : Int32}  {x1 : Int32} {u : SO} (hI : zInj ad 1) (hC : zC p s m args meth c cX6_isOf 4 RX6 zTS D (zTy cA) zA0 (zE tK tB kS vS)) (hr : meth.sig.returnType = (some .boolean)) : ∀ (n : Nat) (x2 : Int32) (x3 : Int32), mO_isOf_L7 x1 u n x2 x3 = some r → zG p l e (zRm 0) s m args below meth c 4 D zA0 (MQ below (zQi r zB0 zA0) args s 0 0 zA0) (wO cA ad u) [(1, .int x1), (2, .int x2), (3, .int x3)] 7 [] := by
  intro n
  induction n with
  | zero => intro x2 x3 hm; exact z_none hm
  | succ n ih =>
    intro x2 x3 hm
    rw [mO_isOf_L7] at hm
    refine z_iload_n hC dX6_isOf_7 rfl 2 rfl ?_
    refine z_gsK6 hC dX6_isOf_8 ?_
    refine z_tlenK hC dX6_isOf_11 ?_
    refine z_icmp_ge (tgt := 38) hC hm dX6_isOf_12 (by decide) (fun hm => ?_) (fun hm => ?_)
    · refine z_iconst hC dX6_isOf_38 kI_0 ?_
      exact z_iret hC hr rfl dX6_isOf_39 (fun _ _ => trivial) (Option.some.inj hm)
    · refine z_iload_n hC dX6_isOf_15 rfl 1 rfl ?_
      refine z_if_lt (tgt := 38) hC hm dX6_isOf_16 (by decide) (fun hm => ?_) (fun hm => ?_)
      · refine z_iconst hC dX6_isOf_38 kI_0 ?_
        exact z_iret hC hr rfl dX6_isOf_39 (fun _ _ => trivial) (Option.some.inj hm)
      · refine z_iload_n hC dX6_isOf_19 rfl 1 rfl ?_
        refine z_iload_n hC dX6_isOf_20 rfl 0 rfl ?_
        refine z_icmp_ne (tgt := 26) hC hm dX6_isOf_21 (by decide) (fun hm => ?_) (fun hm => ?_)
        · refine z_iconst hC dX6_isOf_24 kI_1 ?_
          exact z_iret hC hr rfl dX6_isOf_25 (fun _ _ => trivial) (Option.some.inj hm)
        · refine z_gsK6 hC dX6_isOf_26 ?_
          refine z_iload_n hC dX6_isOf_29 rfl 1 rfl ?_
          refine z_tldK hC hm dX6_isOf_30 (fun hm => ?_)
          refine z_istore_n (lv' := [(2, .int (zKA (x2).toNatClampNeg)), (1, .int x1), (3, .int x3)]) hC dX6_isOf_31 rfl (by decide) rfl ?_
          refine z_iinc (lv' := [(3, .int (x3 + (1 : Int32))), (2, .int (zKA (x2).toNatClampNeg)), (1, .int x1)]) (k := 2) (v := (x3 + (1 : Int32))) hC dX6_isOf_32 rfl rfl (by decide) rfl ?_
          refine z_goto (tgt := 7) hC dX6_isOf_35 (by decide) ?_
          refine z_lv hC [2, 1, 0] rfl ?_
          exact ih _ _ hm
def mO_isOf (x1 : Int32) (u : SO) : Option Int32 :=
  mO_isOf_L7 x1 u 256 (O_kind u) (0 : Int32)
set_option maxRecDepth 100000 in
set_option maxHeartbeats 4000000 in
theorem cO_isOf {l : Launch} {D : va_G} {cA : Nat → ClassId} {ad : Nat → Nat} {tK tB : Nat} {kS vS : Nat → Nat} (hI : zInj ad 1) (x1 : Int32) (u : SO) {r : Int32} (hm : mO_isOf x1 u = some r) : Met l yX6_isOf (zWs yX6_isOf cX6_isOf 4 (some .boolean)) (zRm 0) (va_Pc [.ref (ad 0), .int x1] (zPre D (zTy cA) (zE tK tB kS vS) zA0 (wO cA ad u))) (zQi r zB0 zA0) 0 0 zA0 := by
  refine z_met (lv := [(0, .ref (ad 0)), (1, .int x1)]) plX6 rfl rfl (Nat.le_of_ble_eq_true rfl) rfl ?_
  intro p e s m below meth c hC hr hin
  unfold mO_isOf at hm
  refine z_aload_n hC dX6_isOf_0 rfl 0 rfl ?_
  refine gO_X6_15_o (v := (O_kind u)) hC dX6_isOf_1 rfl ?_
  refine z_istore_n (lv' := [(2, .int (O_kind u)), (0, .ref (ad 0)), (1, .int x1)]) hC dX6_isOf_4 rfl (by decide) rfl ?_
  refine z_iconst hC dX6_isOf_5 kI_0 ?_
  refine z_istore_n (lv' := [(3, .int (0 : Int32)), (2, .int (O_kind u)), (0, .ref (ad 0)), (1, .int x1)]) hC dX6_isOf_6 rfl (by decide) rfl ?_
  refine z_lv hC [3, 1, 0] rfl ?_
  exact lO_isOf_7 hI hC hr _ _ _ hm
theorem xO_X6_25 {p : Program} {l : Launch} {e : Env} {s : State} {m : MethodId} {args : Array Value} {below : List Frame} {meth : Method} {c : Code} {Q : State → Prop} {D : va_G} {A : Nat → Prop} {cc : ByteArray} {nL : Nat} {lv : List (Nat × Value)} {pc : Nat} {st : List Value} {cA : Nat → ClassId} {ad : Nat → Nat} {tK tB : Nat} {kS vS : Nat → Nat} {d : Nat} {x1 : Int32} {u : SO} (hI : zInj ad 1) (C : zC p s m args meth c cc nL RX6 zTS D (zTy cA) A (zE tK tB kS vS)) (hdm : 0 + 1 ≤ d) {β : Type} {f : Int32 → Option β} {o : β} (hm : (mO_isOf x1 u).bind f = some o) (hd : decode cc pc = .ok (.invokevirtual 25, 3)) (h8 : (st.map fun v => v.category).sum ≤ 8) (g : ∀ q, f q = some o → zG p l e (zRm d) s m args below meth c nL D A Q (wO cA ad u) lv (pc + 3) (.int q :: st)) : zG p l e (zRm d) s m args below meth c nL D A Q (wO cA ad u) lv pc (.int x1 :: .ref (ad 0) :: st) := by
  obtain ⟨q, h1, h2⟩ := zb_some hm
  exact z_calliV C (cO_isOf (ad := ad) (cA := cA) hI x1 u h1) (cwX6_25 C.1.2.2.2.2 rfl rfl ⟨hdm, by have := hdm; simp only [zRm]; omega⟩) hd rfl rfl h8 ⟨_, rfl, rfl⟩ (List.mem_of_getElem? (heO_o cA ad u)) (fun _ h => h) (fun _ h => h.elim) zJ_ro (g q h2)
theorem gO_X6_18_o {p : Program} {l : Launch} {e : Env} {R : Room} {s : State} {m : MethodId} {args : Array Value} {below : List Frame} {meth : Method} {c : Code} {Q : State → Prop} {D : va_G} {A : Nat → Prop} {cc : ByteArray} {nL : Nat} {lv : List (Nat × Value)} {pc : Nat} {st : List Value} {cA : Nat → ClassId} {ad : Nat → Nat} {E : zEt} {u : SO} (C : zC p s m args meth c cc nL RX6 zTS D (zTy cA) A E) (hd : decode cc pc = .ok (.getfield 18, 3)) {v : Int32} (hv : O_v u = v) (g : zG p l e R s m args below meth c nL D A Q (wO cA ad u) lv (pc + 3) (.int v :: st)) : zG p l e R s m args below meth c nL D A Q (wO cA ad u) lv pc (.ref (ad 0) :: st) := by
  subst hv; exact fun H locs ls hP hS hL => va_get (D := D) (ci := 6) (C := RX6) (T := TX6) (N := 3) C.1.1 C.1.2.1 C.1.2.2.2.2 inlX6 C.1.2.2.2.1 C.2.1 hP 0 (heO_o cA ad u) rfl 2 (by decide) (C.1.2.2.2.2 _ mfX6_18) (fun _ h9 => h9) (v := .int (O_v u)) rfl hd (g H locs ls hP hS hL)
def mO_soundsAt (x1 : Int32) (x2 : Int32) (u : SO) : Option Int32 :=
  (mO_isOf (1 : Int32) u).bind fun q1 => (if q1 = 0 then ((mO_isOf (3 : Int32) u).bind fun q2 => (if q2 = 0 then (some x1) else (if x2 ≤ x1 then (some (zmin (40 : Int32) (x1 + (O_v u)))) else (some (zmax (0 : Int32) (x1 - (O_v u))))))) else (if x1 ≤ x2 then (some (zmin x2 (x1 + (O_v u)))) else (some (zmax x2 (x1 - (O_v u))))))
set_option maxRecDepth 100000 in
set_option maxHeartbeats 4000000 in
theorem cO_soundsAt {l : Launch} {D : va_G} {cA : Nat → ClassId} {ad : Nat → Nat} {tK tB : Nat} {kS vS : Nat → Nat} (hI : zInj ad 1) (x1 : Int32) (x2 : Int32) (u : SO) {r : Int32} (hm : mO_soundsAt x1 x2 u = some r) : Met l yX6_soundsAt (zWs yX6_soundsAt cX6_soundsAt 3 (some .int)) (zRm 1) (va_Pc [.ref (ad 0), .int x1, .int x2] (zPre D (zTy cA) (zE tK tB kS vS) zA0 (wO cA ad u))) (zQi r zB0 zA0) 0 0 zA0 := by
  refine z_met (lv := [(0, .ref (ad 0)), (1, .int x1), (2, .int x2)]) plX6 rfl rfl (Nat.le_of_ble_eq_true rfl) rfl ?_
  intro p e s m below meth c hC hr hin
  unfold mO_soundsAt at hm
  refine z_aload_n hC dX6_soundsAt_0 rfl 0 rfl ?_
  refine z_iconst hC dX6_soundsAt_1 kI_1 ?_
  refine xO_X6_25 hI hC (Nat.le_of_ble_eq_true rfl) hm dX6_soundsAt_2 (Nat.le_of_ble_eq_true rfl) (fun q1 hm => ?_)
  refine z_if_eq (tgt := 37) hC hm dX6_soundsAt_5 (by decide) (fun hm => ?_) (fun hm => ?_)
  · refine z_aload_n hC dX6_soundsAt_37 rfl 0 rfl ?_
    refine z_iconst hC dX6_soundsAt_38 kI_3 ?_
    refine xO_X6_25 hI hC (Nat.le_of_ble_eq_true rfl) hm dX6_soundsAt_39 (Nat.le_of_ble_eq_true rfl) (fun q2 hm => ?_)
    refine z_if_eq (tgt := 75) hC hm dX6_soundsAt_42 (by decide) (fun hm => ?_) (fun hm => ?_)
    · refine z_iload_n hC dX6_soundsAt_75 rfl 1 rfl ?_
      exact z_iret hC hr rfl dX6_soundsAt_76 (fun _ _ => trivial) (Option.some.inj hm)
    · refine z_iload_n hC dX6_soundsAt_45 rfl 2 rfl ?_
      refine z_iload_n hC dX6_soundsAt_46 rfl 1 rfl ?_
      refine z_icmp_le (tgt := 63) hC hm dX6_soundsAt_47 (by decide) (fun hm => ?_) (fun hm => ?_)
      · refine z_bipush hC dX6_soundsAt_63 kB_40 ?_
        refine z_iload_n hC dX6_soundsAt_65 rfl 1 rfl ?_
        refine z_aload_n hC dX6_soundsAt_66 rfl 0 rfl ?_
        refine gO_X6_18_o (v := (O_v u)) hC dX6_soundsAt_67 rfl ?_
        refine z_iadd hC dX6_soundsAt_70 ?_
        refine z_min hC mmX6_35 (Nat.le_of_ble_eq_true rfl) (Nat.le_of_ble_eq_true rfl) dX6_soundsAt_71 ?_
        exact z_iret hC hr rfl dX6_soundsAt_74 (fun _ _ => trivial) (Option.some.inj hm)
      · refine z_iconst hC dX6_soundsAt_50 kI_0 ?_
        refine z_iload_n hC dX6_soundsAt_51 rfl 1 rfl ?_
        refine z_aload_n hC dX6_soundsAt_52 rfl 0 rfl ?_
        refine gO_X6_18_o (v := (O_v u)) hC dX6_soundsAt_53 rfl ?_
        refine z_isub hC dX6_soundsAt_56 ?_
        refine z_max hC mmX6_29 (Nat.le_of_ble_eq_true rfl) (Nat.le_of_ble_eq_true rfl) dX6_soundsAt_57 ?_
        refine z_goto (tgt := 74) hC dX6_soundsAt_60 (by decide) ?_
        exact z_iret hC hr rfl dX6_soundsAt_74 (fun _ _ => trivial) (Option.some.inj hm)
  · refine z_iload_n hC dX6_soundsAt_8 rfl 2 rfl ?_
    refine z_iload_n hC dX6_soundsAt_9 rfl 1 rfl ?_
    refine z_icmp_ge (tgt := 26) hC hm dX6_soundsAt_10 (by decide) (fun hm => ?_) (fun hm => ?_)
    · refine z_iload_n hC dX6_soundsAt_26 rfl 2 rfl ?_
      refine z_iload_n hC dX6_soundsAt_27 rfl 1 rfl ?_
      refine z_aload_n hC dX6_soundsAt_28 rfl 0 rfl ?_
      refine gO_X6_18_o (v := (O_v u)) hC dX6_soundsAt_29 rfl ?_
      refine z_iadd hC dX6_soundsAt_32 ?_
      refine z_min hC mmX6_35 (Nat.le_of_ble_eq_true rfl) (Nat.le_of_ble_eq_true rfl) dX6_soundsAt_33 ?_
      exact z_iret hC hr rfl dX6_soundsAt_36 (fun _ _ => trivial) (Option.some.inj hm)
    · refine z_iload_n hC dX6_soundsAt_13 rfl 2 rfl ?_
      refine z_iload_n hC dX6_soundsAt_14 rfl 1 rfl ?_
      refine z_aload_n hC dX6_soundsAt_15 rfl 0 rfl ?_
      refine gO_X6_18_o (v := (O_v u)) hC dX6_soundsAt_16 rfl ?_
      refine z_isub hC dX6_soundsAt_19 ?_
      refine z_max hC mmX6_29 (Nat.le_of_ble_eq_true rfl) (Nat.le_of_ble_eq_true rfl) dX6_soundsAt_20 ?_
      refine z_goto (tgt := 36) hC dX6_soundsAt_23 (by decide) ?_
      exact z_iret hC hr rfl dX6_soundsAt_36 (fun _ _ => trivial) (Option.some.inj hm)
def mO_earOf (x1 : Int32) (u : SO) : Option Int32 :=
  (mO_isOf (2 : Int32) u).bind fun q1 => (if q1 = 0 then ((mO_isOf (3 : Int32) u).bind fun q2 => (if q2 = 0 then (some x1) else (some ((2 : Int32) * x1)))) else (some (x1 + (O_v u))))
set_option maxRecDepth 100000 in
set_option maxHeartbeats 4000000 in
theorem cO_earOf {l : Launch} {D : va_G} {cA : Nat → ClassId} {ad : Nat → Nat} {tK tB : Nat} {kS vS : Nat → Nat} (hI : zInj ad 1) (x1 : Int32) (u : SO) {r : Int32} (hm : mO_earOf x1 u = some r) : Met l yX6_earOf (zWs yX6_earOf cX6_earOf 2 (some .int)) (zRm 1) (va_Pc [.ref (ad 0), .int x1] (zPre D (zTy cA) (zE tK tB kS vS) zA0 (wO cA ad u))) (zQi r zB0 zA0) 0 0 zA0 := by
  refine z_met (lv := [(0, .ref (ad 0)), (1, .int x1)]) plX6 rfl rfl (Nat.le_of_ble_eq_true rfl) rfl ?_
  intro p e s m below meth c hC hr hin
  unfold mO_earOf at hm
  refine z_aload_n hC dX6_earOf_0 rfl 0 rfl ?_
  refine z_iconst hC dX6_earOf_1 kI_2 ?_
  refine xO_X6_25 hI hC (Nat.le_of_ble_eq_true rfl) hm dX6_earOf_2 (Nat.le_of_ble_eq_true rfl) (fun q1 hm => ?_)
  refine z_if_eq (tgt := 15) hC hm dX6_earOf_5 (by decide) (fun hm => ?_) (fun hm => ?_)
  · refine z_aload_n hC dX6_earOf_15 rfl 0 rfl ?_
    refine z_iconst hC dX6_earOf_16 kI_3 ?_
    refine xO_X6_25 hI hC (Nat.le_of_ble_eq_true rfl) hm dX6_earOf_17 (Nat.le_of_ble_eq_true rfl) (fun q2 hm => ?_)
    refine z_if_eq (tgt := 29) hC hm dX6_earOf_20 (by decide) (fun hm => ?_) (fun hm => ?_)
    · refine z_iload_n hC dX6_earOf_29 rfl 1 rfl ?_
      exact z_iret hC hr rfl dX6_earOf_30 (fun _ _ => trivial) (Option.some.inj hm)
    · refine z_iconst hC dX6_earOf_23 kI_2 ?_
      refine z_iload_n hC dX6_earOf_24 rfl 1 rfl ?_
      refine z_imul hC dX6_earOf_25 ?_
      refine z_goto (tgt := 30) hC dX6_earOf_26 (by decide) ?_
      exact z_iret hC hr rfl dX6_earOf_30 (fun _ _ => trivial) (Option.some.inj hm)
  · refine z_iload_n hC dX6_earOf_8 rfl 1 rfl ?_
    refine z_aload_n hC dX6_earOf_9 rfl 0 rfl ?_
    refine gO_X6_18_o (v := (O_v u)) hC dX6_earOf_10 rfl ?_
    refine z_iadd hC dX6_earOf_13 ?_
    exact z_iret hC hr rfl dX6_earOf_14 (fun _ _ => trivial) (Option.some.inj hm)
def mN_later (x0 : Int64) (x2 : Int32) : Int64 :=
  ((x0 <<< ((x2).toInt64 &&& 63)) &&& (1099511627775 : Int64))
set_option maxRecDepth 100000 in
set_option maxHeartbeats 4000000 in
theorem cN_later {l : Launch} {D : va_G} {cA : Nat → ClassId} {ad : Nat → Nat} {tK tB : Nat} {kS vS : Nat → Nat} (hI : zInj ad 0) (x0 : Int64) (x2 : Int32) (u : SN) {r : Int64} (hm : mN_later x0 x2 = r) : Met l yX7_later (zWs yX7_later cX7_later 3 (some .long)) (zRm 0) (va_Pc [.long x0, .int x2] (zPre D (zTy cA) (zE tK tB kS vS) zA0 (wN cA ad u))) (zQl r zB0 zA0) 0 0 zA0 := by
  refine z_met (lv := [(0, .long x0), (2, .int x2)]) plX7 rfl rfl (Nat.le_of_ble_eq_true rfl) rfl ?_
  intro p e s m below meth c hC hr hin
  unfold mN_later at hm
  refine z_lload_n hC dX7_later_0 rfl 0 rfl ?_
  refine z_iload_n hC dX7_later_1 rfl 1 rfl ?_
  refine z_lshl hC dX7_later_2 ?_
  refine z_ldc2 hC mcX7_81 dX7_later_3 ?_
  refine z_land hC dX7_later_6 ?_
  exact z_lret hC hr dX7_later_7 (fun _ _ => trivial) hm
theorem xO_X6_38 {p : Program} {l : Launch} {e : Env} {s : State} {m : MethodId} {args : Array Value} {below : List Frame} {meth : Method} {c : Code} {Q : State → Prop} {D : va_G} {A : Nat → Prop} {cc : ByteArray} {nL : Nat} {lv : List (Nat × Value)} {pc : Nat} {st : List Value} {cA : Nat → ClassId} {ad : Nat → Nat} {tK tB : Nat} {kS vS : Nat → Nat} {d : Nat} {x0 : Int64} {x2 : Int32} {u : SO} (hI : zInj ad 1) (C : zC p s m args meth c cc nL RX6 zTS D (zTy cA) A (zE tK tB kS vS)) (hdm : 0 + 1 ≤ d) (hd : decode cc pc = .ok (.invokestatic 38, 3)) (h8 : (st.map fun v => v.category).sum ≤ 8) (g : zG p l e (zRm d) s m args below meth c nL D A Q (wO cA ad u) lv (pc + 3) (.long (mN_later x0 x2) :: st)) : zG p l e (zRm d) s m args below meth c nL D A Q (wO cA ad u) lv pc (.int x2 :: .long x0 :: st) :=
  z_calllN C (cN_later (ad := (fun i => i)) (cA := cA) zInj0 x0 x2 () rfl) (cwX6_38 C.1.2.2.2.2 (C.2.2.2.2.2.2.2.2.2.2.1 (RX6, 38, yX7_later) (List.mem_of_getElem? (i := 1) rfl)) rfl rfl ⟨hdm, by have := hdm; simp only [zRm]; omega⟩) hd rfl rfl h8 (fun _ h => nomatch h) (fun _ h => h.elim) zJ_ro g
def mO_movingOf (x1 : Int64) (u : SO) : Int64 :=
  if (O_kind u) = (6 : Int32) then ((mN_later x1 (O_v u))) else (x1)
set_option maxRecDepth 100000 in
set_option maxHeartbeats 4000000 in
theorem cO_movingOf {l : Launch} {D : va_G} {cA : Nat → ClassId} {ad : Nat → Nat} {tK tB : Nat} {kS vS : Nat → Nat} (hI : zInj ad 1) (x1 : Int64) (u : SO) {r : Int64} (hm : mO_movingOf x1 u = r) : Met l yX6_movingOf (zWs yX6_movingOf cX6_movingOf 3 (some .long)) (zRm 1) (va_Pc [.ref (ad 0), .long x1] (zPre D (zTy cA) (zE tK tB kS vS) zA0 (wO cA ad u))) (zQl r zB0 zA0) 0 0 zA0 := by
  refine z_met (lv := [(0, .ref (ad 0)), (1, .long x1)]) plX6 rfl rfl (Nat.le_of_ble_eq_true rfl) rfl ?_
  intro p e s m below meth c hC hr hin
  unfold mO_movingOf at hm
  refine z_aload_n hC dX6_movingOf_0 rfl 0 rfl ?_
  refine gO_X6_15_o (v := (O_kind u)) hC dX6_movingOf_1 rfl ?_
  refine z_bipush hC dX6_movingOf_4 kB_6 ?_
  refine z_icmp_ne (tgt := 20) hC hm dX6_movingOf_6 (by decide) (fun hm => ?_) (fun hm => ?_)
  · refine z_lload_n hC dX6_movingOf_9 rfl 1 rfl ?_
    refine z_aload_n hC dX6_movingOf_10 rfl 0 rfl ?_
    refine gO_X6_18_o (v := (O_v u)) hC dX6_movingOf_11 rfl ?_
    refine xO_X6_38 hI hC (Nat.le_of_ble_eq_true rfl) dX6_movingOf_14 (Nat.le_of_ble_eq_true rfl) ?_
    refine z_goto (tgt := 21) hC dX6_movingOf_17 (by decide) ?_
    exact z_lret hC hr dX6_movingOf_21 (fun _ _ => trivial) hm
  · refine z_lload_n hC dX6_movingOf_20 rfl 1 rfl ?_
    exact z_lret hC hr dX6_movingOf_21 (fun _ _ => trivial) hm
def mO_isApartIn (x1 : Int32) (u : SO) : Option Int32 :=
  if (O_kind u) = (4 : Int32) then (if (O_v u) = 0 then (some (0 : Int32)) else (zgz (O_v u) (if (x1 - x1 / (O_v u) * (O_v u)) = 0 then (some (1 : Int32)) else (some (0 : Int32))))) else (some (0 : Int32))
set_option maxRecDepth 100000 in
set_option maxHeartbeats 4000000 in
theorem cO_isApartIn {l : Launch} {D : va_G} {cA : Nat → ClassId} {ad : Nat → Nat} {tK tB : Nat} {kS vS : Nat → Nat} (hI : zInj ad 1) (x1 : Int32) (u : SO) {r : Int32} (hm : mO_isApartIn x1 u = some r) : Met l yX6_isApartIn (zWs yX6_isApartIn cX6_isApartIn 2 (some .boolean)) (zRm 0) (va_Pc [.ref (ad 0), .int x1] (zPre D (zTy cA) (zE tK tB kS vS) zA0 (wO cA ad u))) (zQi r zB0 zA0) 0 0 zA0 := by
  refine z_met (lv := [(0, .ref (ad 0)), (1, .int x1)]) plX6 rfl rfl (Nat.le_of_ble_eq_true rfl) rfl ?_
  intro p e s m below meth c hC hr hin
  unfold mO_isApartIn at hm
  refine z_aload_n hC dX6_isApartIn_0 rfl 0 rfl ?_
  refine gO_X6_15_o (v := (O_kind u)) hC dX6_isApartIn_1 rfl ?_
  refine z_iconst hC dX6_isApartIn_4 kI_4 ?_
  refine z_icmp_ne (tgt := 28) hC hm dX6_isApartIn_5 (by decide) (fun hm => ?_) (fun hm => ?_)
  · refine z_aload_n hC dX6_isApartIn_8 rfl 0 rfl ?_
    refine gO_X6_18_o (v := (O_v u)) hC dX6_isApartIn_9 rfl ?_
    refine z_if_eq (tgt := 28) hC hm dX6_isApartIn_12 (by decide) (fun hm => ?_) (fun hm => ?_)
    · refine z_iconst hC dX6_isApartIn_28 kI_0 ?_
      exact z_iret hC hr rfl dX6_isApartIn_29 (fun _ _ => trivial) (Option.some.inj hm)
    · refine z_iload_n hC dX6_isApartIn_15 rfl 1 rfl ?_
      refine z_aload_n hC dX6_isApartIn_16 rfl 0 rfl ?_
      refine gO_X6_18_o (v := (O_v u)) hC dX6_isApartIn_17 rfl ?_
      refine z_g (zgz_some hm) (fun hne hm => ?_)
      refine z_irem hC dX6_isApartIn_20 hne ?_
      refine z_if_ne (tgt := 28) hC hm dX6_isApartIn_21 (by decide) (fun hm => ?_) (fun hm => ?_)
      · refine z_iconst hC dX6_isApartIn_24 kI_1 ?_
        refine z_goto (tgt := 29) hC dX6_isApartIn_25 (by decide) ?_
        exact z_iret hC hr rfl dX6_isApartIn_29 (fun _ _ => trivial) (Option.some.inj hm)
      · refine z_iconst hC dX6_isApartIn_28 kI_0 ?_
        exact z_iret hC hr rfl dX6_isApartIn_29 (fun _ _ => trivial) (Option.some.inj hm)
  · refine z_iconst hC dX6_isApartIn_28 kI_0 ?_
    exact z_iret hC hr rfl dX6_isApartIn_29 (fun _ _ => trivial) (Option.some.inj hm)
def mN_isPlace (x0 : Int32) : Int32 :=
  if x0 < 0 then ((0 : Int32)) else (if (40 : Int32) < x0 then ((0 : Int32)) else ((1 : Int32)))
theorem bN_isPlace (x0 : Int32) : mN_isPlace x0 = 0 ∨ mN_isPlace x0 = 1 := by
  unfold mN_isPlace
  (repeat' split) <;> first | exact Or.inl rfl | exact Or.inr rfl
set_option maxRecDepth 100000 in
set_option maxHeartbeats 4000000 in
theorem cN_isPlace {l : Launch} {D : va_G} {cA : Nat → ClassId} {ad : Nat → Nat} {tK tB : Nat} {kS vS : Nat → Nat} (hI : zInj ad 0) (x0 : Int32) (u : SN) {r : Int32} (hm : mN_isPlace x0 = r) : Met l yX7_isPlace (zWs yX7_isPlace cX7_isPlace 1 (some .boolean)) (zRm 0) (va_Pc [.int x0] (zPre D (zTy cA) (zE tK tB kS vS) zA0 (wN cA ad u))) (zQi r zB0 zA0) 0 0 zA0 := by
  refine z_met (lv := [(0, .int x0)]) plX7 rfl rfl (Nat.le_of_ble_eq_true rfl) rfl ?_
  intro p e s m below meth c hC hr hin
  unfold mN_isPlace at hm
  refine z_iload_n hC dX7_isPlace_0 rfl 0 rfl ?_
  refine z_if_lt (tgt := 14) hC hm dX7_isPlace_1 (by decide) (fun hm => ?_) (fun hm => ?_)
  · refine z_iconst hC dX7_isPlace_14 kI_0 ?_
    exact z_iret hC hr rfl dX7_isPlace_15 (fun _ _ => trivial) hm
  · refine z_iload_n hC dX7_isPlace_4 rfl 0 rfl ?_
    refine z_bipush hC dX7_isPlace_5 kB_40 ?_
    refine z_icmp_gt (tgt := 14) hC hm dX7_isPlace_7 (by decide) (fun hm => ?_) (fun hm => ?_)
    · refine z_iconst hC dX7_isPlace_14 kI_0 ?_
      exact z_iret hC hr rfl dX7_isPlace_15 (fun _ _ => trivial) hm
    · refine z_iconst hC dX7_isPlace_10 kI_1 ?_
      refine z_goto (tgt := 15) hC dX7_isPlace_11 (by decide) ?_
      exact z_iret hC hr rfl dX7_isPlace_15 (fun _ _ => trivial) hm
def mN_isTenth (x0 : Int32) : Int32 :=
  if x0 < 0 then ((0 : Int32)) else (if (39 : Int32) < x0 then ((0 : Int32)) else ((1 : Int32)))
theorem bN_isTenth (x0 : Int32) : mN_isTenth x0 = 0 ∨ mN_isTenth x0 = 1 := by
  unfold mN_isTenth
  (repeat' split) <;> first | exact Or.inl rfl | exact Or.inr rfl
set_option maxRecDepth 100000 in
set_option maxHeartbeats 4000000 in
theorem cN_isTenth {l : Launch} {D : va_G} {cA : Nat → ClassId} {ad : Nat → Nat} {tK tB : Nat} {kS vS : Nat → Nat} (hI : zInj ad 0) (x0 : Int32) (u : SN) {r : Int32} (hm : mN_isTenth x0 = r) : Met l yX7_isTenth (zWs yX7_isTenth cX7_isTenth 1 (some .boolean)) (zRm 0) (va_Pc [.int x0] (zPre D (zTy cA) (zE tK tB kS vS) zA0 (wN cA ad u))) (zQi r zB0 zA0) 0 0 zA0 := by
  refine z_met (lv := [(0, .int x0)]) plX7 rfl rfl (Nat.le_of_ble_eq_true rfl) rfl ?_
  intro p e s m below meth c hC hr hin
  unfold mN_isTenth at hm
  refine z_iload_n hC dX7_isTenth_0 rfl 0 rfl ?_
  refine z_if_lt (tgt := 14) hC hm dX7_isTenth_1 (by decide) (fun hm => ?_) (fun hm => ?_)
  · refine z_iconst hC dX7_isTenth_14 kI_0 ?_
    exact z_iret hC hr rfl dX7_isTenth_15 (fun _ _ => trivial) hm
  · refine z_iload_n hC dX7_isTenth_4 rfl 0 rfl ?_
    refine z_bipush hC dX7_isTenth_5 kB_39 ?_
    refine z_icmp_gt (tgt := 14) hC hm dX7_isTenth_7 (by decide) (fun hm => ?_) (fun hm => ?_)
    · refine z_iconst hC dX7_isTenth_14 kI_0 ?_
      exact z_iret hC hr rfl dX7_isTenth_15 (fun _ _ => trivial) hm
    · refine z_iconst hC dX7_isTenth_10 kI_1 ?_
      refine z_goto (tgt := 15) hC dX7_isTenth_11 (by decide) ?_
      exact z_iret hC hr rfl dX7_isTenth_15 (fun _ _ => trivial) hm
def mN_isLetter (x0 : Int32) : Int32 :=
  if x0 < 0 then ((0 : Int32)) else (if (10 : Int32) ≤ x0 then ((0 : Int32)) else ((1 : Int32)))
theorem bN_isLetter (x0 : Int32) : mN_isLetter x0 = 0 ∨ mN_isLetter x0 = 1 := by
  unfold mN_isLetter
  (repeat' split) <;> first | exact Or.inl rfl | exact Or.inr rfl
set_option maxRecDepth 100000 in
set_option maxHeartbeats 4000000 in
theorem cN_isLetter {l : Launch} {D : va_G} {cA : Nat → ClassId} {ad : Nat → Nat} {tK tB : Nat} {kS vS : Nat → Nat} (hI : zInj ad 0) (x0 : Int32) (u : SN) {r : Int32} (hm : mN_isLetter x0 = r) : Met l yX7_isLetter (zWs yX7_isLetter cX7_isLetter 1 (some .boolean)) (zRm 0) (va_Pc [.int x0] (zPre D (zTy cA) (zE tK tB kS vS) zA0 (wN cA ad u))) (zQi r zB0 zA0) 0 0 zA0 := by
  refine z_met (lv := [(0, .int x0)]) plX7 rfl rfl (Nat.le_of_ble_eq_true rfl) rfl ?_
  intro p e s m below meth c hC hr hin
  unfold mN_isLetter at hm
  refine z_iload_n hC dX7_isLetter_0 rfl 0 rfl ?_
  refine z_if_lt (tgt := 14) hC hm dX7_isLetter_1 (by decide) (fun hm => ?_) (fun hm => ?_)
  · refine z_iconst hC dX7_isLetter_14 kI_0 ?_
    exact z_iret hC hr rfl dX7_isLetter_15 (fun _ _ => trivial) hm
  · refine z_iload_n hC dX7_isLetter_4 rfl 0 rfl ?_
    refine z_bipush hC dX7_isLetter_5 kB_10 ?_
    refine z_icmp_ge (tgt := 14) hC hm dX7_isLetter_7 (by decide) (fun hm => ?_) (fun hm => ?_)
    · refine z_iconst hC dX7_isLetter_14 kI_0 ?_
      exact z_iret hC hr rfl dX7_isLetter_15 (fun _ _ => trivial) hm
    · refine z_iconst hC dX7_isLetter_10 kI_1 ?_
      refine z_goto (tgt := 15) hC dX7_isLetter_11 (by decide) ?_
      exact z_iret hC hr rfl dX7_isLetter_15 (fun _ _ => trivial) hm
def mN_isTape (x0 : Int32) : Int32 :=
  if x0 < 0 then ((0 : Int32)) else (if (6 : Int32) ≤ x0 then ((0 : Int32)) else ((1 : Int32)))
theorem bN_isTape (x0 : Int32) : mN_isTape x0 = 0 ∨ mN_isTape x0 = 1 := by
  unfold mN_isTape
  (repeat' split) <;> first | exact Or.inl rfl | exact Or.inr rfl
set_option maxRecDepth 100000 in
set_option maxHeartbeats 4000000 in
theorem cN_isTape {l : Launch} {D : va_G} {cA : Nat → ClassId} {ad : Nat → Nat} {tK tB : Nat} {kS vS : Nat → Nat} (hI : zInj ad 0) (x0 : Int32) (u : SN) {r : Int32} (hm : mN_isTape x0 = r) : Met l yX7_isTape (zWs yX7_isTape cX7_isTape 1 (some .boolean)) (zRm 0) (va_Pc [.int x0] (zPre D (zTy cA) (zE tK tB kS vS) zA0 (wN cA ad u))) (zQi r zB0 zA0) 0 0 zA0 := by
  refine z_met (lv := [(0, .int x0)]) plX7 rfl rfl (Nat.le_of_ble_eq_true rfl) rfl ?_
  intro p e s m below meth c hC hr hin
  unfold mN_isTape at hm
  refine z_iload_n hC dX7_isTape_0 rfl 0 rfl ?_
  refine z_if_lt (tgt := 14) hC hm dX7_isTape_1 (by decide) (fun hm => ?_) (fun hm => ?_)
  · refine z_iconst hC dX7_isTape_14 kI_0 ?_
    exact z_iret hC hr rfl dX7_isTape_15 (fun _ _ => trivial) hm
  · refine z_iload_n hC dX7_isTape_4 rfl 0 rfl ?_
    refine z_bipush hC dX7_isTape_5 kB_6 ?_
    refine z_icmp_ge (tgt := 14) hC hm dX7_isTape_7 (by decide) (fun hm => ?_) (fun hm => ?_)
    · refine z_iconst hC dX7_isTape_14 kI_0 ?_
      exact z_iret hC hr rfl dX7_isTape_15 (fun _ _ => trivial) hm
    · refine z_iconst hC dX7_isTape_10 kI_1 ?_
      refine z_goto (tgt := 15) hC dX7_isTape_11 (by decide) ?_
      exact z_iret hC hr rfl dX7_isTape_15 (fun _ _ => trivial) hm
