/-! 05.A3: the Reader; by wip/whole/gen/genR.py -/
theorem z_aret {p : Program} {l : Launch} {e : Env} {R : Room} {s : State} {m : MethodId} {args : Array Value} {below : List Frame} {meth : Method} {c : Code} {D : va_G} {tys : List (ClassId × FieldType)} {A : Nat → Prop} {cc : ByteArray} {nL : Nat} {ws : va_W} {lv : List (Nat × Value)} {pc : Nat} {E : zEt} {TT : String} {F : Nat → Nat} {own : String} {k r : Nat} {B : Heap → Prop} (C : zC p s m args meth c cc nL own zTS D tys A E) (hr : meth.sig.returnType = some (.object TT)) (hd : decode cc pc = .ok (.areturn, 1)) (hB : ∀ H, va_P D vwCl ws H → B H) (hv : k = r) : zG p l e R s m args below meth c nL D A (MQ below (zQr (F r) B A) args s 0 0 A) ws lv pc [.ref (F k)] := fun H locs ls hP hS hL => W.aret C.1.1 C.1.2.1 hr (Or.inl ⟨_, rfl⟩) (Or.inr ⟨_, rfl⟩) (fun t ht hW => ⟨⟨(), F k, rfl, trivial, by rw [hv], by show B t.heap; rw [ht]; exact hB H hP⟩, hS.F ht⟩) hS.2.2 hd C.2.2.1
theorem z_ldcS0 {p : Program} {l : Launch} {e : Env} {R : Room} {s : State} {m : MethodId} {args : Array Value} {below : List Frame} {meth : Method} {c : Code} {D : va_G} {tys : List (ClassId × FieldType)} {A : Nat → Prop} {cc : ByteArray} {nL : Nat} {ws : va_W} {lv : List (Nat × Value)} {pc : Nat} {Q : State → Prop} {st : List Value} {tK tB : Nat} {kS vS : Nat → Nat} (C : zC p s m args meth c cc nL RX3 zTS D tys A (zE tK tB kS vS)) (hd : decode cc pc = .ok (.ldc 69, 2)) (g : zG p l e R s m args below meth c nL D A Q ws lv (pc + 2) (.ref (kS 0) :: st)) : zG p l e R s m args below meth c nL D A Q ws lv pc st := fun H locs ls hP hS hL => va_ldcS C.1.1 C.1.2.1 C.1.2.2.2.1 (C.2.2.2.2.2.2.1.2 0 (by decide)) hd (g H locs ls hP hS hL)
theorem z_ldcS1 {p : Program} {l : Launch} {e : Env} {R : Room} {s : State} {m : MethodId} {args : Array Value} {below : List Frame} {meth : Method} {c : Code} {D : va_G} {tys : List (ClassId × FieldType)} {A : Nat → Prop} {cc : ByteArray} {nL : Nat} {ws : va_W} {lv : List (Nat × Value)} {pc : Nat} {Q : State → Prop} {st : List Value} {tK tB : Nat} {kS vS : Nat → Nat} (C : zC p s m args meth c cc nL RX3 zTS D tys A (zE tK tB kS vS)) (hd : decode cc pc = .ok (.ldc 71, 2)) (g : zG p l e R s m args below meth c nL D A Q ws lv (pc + 2) (.ref (kS 1) :: st)) : zG p l e R s m args below meth c nL D A Q ws lv pc st := fun H locs ls hP hS hL => va_ldcS C.1.1 C.1.2.1 C.1.2.2.2.1 (C.2.2.2.2.2.2.1.2 1 (by decide)) hd (g H locs ls hP hS hL)
theorem z_ldcS2 {p : Program} {l : Launch} {e : Env} {R : Room} {s : State} {m : MethodId} {args : Array Value} {below : List Frame} {meth : Method} {c : Code} {D : va_G} {tys : List (ClassId × FieldType)} {A : Nat → Prop} {cc : ByteArray} {nL : Nat} {ws : va_W} {lv : List (Nat × Value)} {pc : Nat} {Q : State → Prop} {st : List Value} {tK tB : Nat} {kS vS : Nat → Nat} (C : zC p s m args meth c cc nL RX3 zTS D tys A (zE tK tB kS vS)) (hd : decode cc pc = .ok (.ldc 73, 2)) (g : zG p l e R s m args below meth c nL D A Q ws lv (pc + 2) (.ref (kS 2) :: st)) : zG p l e R s m args below meth c nL D A Q ws lv pc st := fun H locs ls hP hS hL => va_ldcS C.1.1 C.1.2.1 C.1.2.2.2.1 (C.2.2.2.2.2.2.1.2 2 (by decide)) hd (g H locs ls hP hS hL)
theorem z_ldcS3 {p : Program} {l : Launch} {e : Env} {R : Room} {s : State} {m : MethodId} {args : Array Value} {below : List Frame} {meth : Method} {c : Code} {D : va_G} {tys : List (ClassId × FieldType)} {A : Nat → Prop} {cc : ByteArray} {nL : Nat} {ws : va_W} {lv : List (Nat × Value)} {pc : Nat} {Q : State → Prop} {st : List Value} {tK tB : Nat} {kS vS : Nat → Nat} (C : zC p s m args meth c cc nL RX3 zTS D tys A (zE tK tB kS vS)) (hd : decode cc pc = .ok (.ldc 75, 2)) (g : zG p l e R s m args below meth c nL D A Q ws lv (pc + 2) (.ref (kS 3) :: st)) : zG p l e R s m args below meth c nL D A Q ws lv pc st := fun H locs ls hP hS hL => va_ldcS C.1.1 C.1.2.1 C.1.2.2.2.1 (C.2.2.2.2.2.2.1.2 3 (by decide)) hd (g H locs ls hP hS hL)
theorem z_ldcS4 {p : Program} {l : Launch} {e : Env} {R : Room} {s : State} {m : MethodId} {args : Array Value} {below : List Frame} {meth : Method} {c : Code} {D : va_G} {tys : List (ClassId × FieldType)} {A : Nat → Prop} {cc : ByteArray} {nL : Nat} {ws : va_W} {lv : List (Nat × Value)} {pc : Nat} {Q : State → Prop} {st : List Value} {tK tB : Nat} {kS vS : Nat → Nat} (C : zC p s m args meth c cc nL RX3 zTS D tys A (zE tK tB kS vS)) (hd : decode cc pc = .ok (.ldc 77, 2)) (g : zG p l e R s m args below meth c nL D A Q ws lv (pc + 2) (.ref (kS 4) :: st)) : zG p l e R s m args below meth c nL D A Q ws lv pc st := fun H locs ls hP hS hL => va_ldcS C.1.1 C.1.2.1 C.1.2.2.2.1 (C.2.2.2.2.2.2.1.2 4 (by decide)) hd (g H locs ls hP hS hL)
theorem z_ldcS5 {p : Program} {l : Launch} {e : Env} {R : Room} {s : State} {m : MethodId} {args : Array Value} {below : List Frame} {meth : Method} {c : Code} {D : va_G} {tys : List (ClassId × FieldType)} {A : Nat → Prop} {cc : ByteArray} {nL : Nat} {ws : va_W} {lv : List (Nat × Value)} {pc : Nat} {Q : State → Prop} {st : List Value} {tK tB : Nat} {kS vS : Nat → Nat} (C : zC p s m args meth c cc nL RX3 zTS D tys A (zE tK tB kS vS)) (hd : decode cc pc = .ok (.ldc 124, 2)) (g : zG p l e R s m args below meth c nL D A Q ws lv (pc + 2) (.ref (kS 5) :: st)) : zG p l e R s m args below meth c nL D A Q ws lv pc st := fun H locs ls hP hS hL => va_ldcS C.1.1 C.1.2.1 C.1.2.2.2.1 (C.2.2.2.2.2.2.1.2 5 (by decide)) hd (g H locs ls hP hS hL)
theorem z_ldcS6 {p : Program} {l : Launch} {e : Env} {R : Room} {s : State} {m : MethodId} {args : Array Value} {below : List Frame} {meth : Method} {c : Code} {D : va_G} {tys : List (ClassId × FieldType)} {A : Nat → Prop} {cc : ByteArray} {nL : Nat} {ws : va_W} {lv : List (Nat × Value)} {pc : Nat} {Q : State → Prop} {st : List Value} {tK tB : Nat} {kS vS : Nat → Nat} (C : zC p s m args meth c cc nL RX3 zTS D tys A (zE tK tB kS vS)) (hd : decode cc pc = .ok (.ldc 129, 2)) (g : zG p l e R s m args below meth c nL D A Q ws lv (pc + 2) (.ref (kS 6) :: st)) : zG p l e R s m args below meth c nL D A Q ws lv pc st := fun H locs ls hP hS hL => va_ldcS C.1.1 C.1.2.1 C.1.2.2.2.1 (C.2.2.2.2.2.2.1.2 6 (by decide)) hd (g H locs ls hP hS hL)
theorem gR_X3_25_o {p : Program} {l : Launch} {e : Env} {R : Room} {s : State} {m : MethodId} {args : Array Value} {below : List Frame} {meth : Method} {c : Code} {Q : State → Prop} {D : va_G} {A : Nat → Prop} {cc : ByteArray} {nL : Nat} {lv : List (Nat × Value)} {pc : Nat} {st : List Value} {cA : Nat → ClassId} {ad : Nat → Nat} {E : zEt} {vT : Value} {vH : Value} {u : SR} (C : zC p s m args meth c cc nL RX3 zTS D (zTy cA) A E) (hd : decode cc pc = .ok (.getfield 25, 3)) {v : Int32} (hv : R_at u = v) (g : zG p l e R s m args below meth c nL D A Q (wR cA ad vT vH u) lv (pc + 3) (.int v :: st)) : zG p l e R s m args below meth c nL D A Q (wR cA ad vT vH u) lv pc (.ref (ad 0) :: st) := by
  subst hv; exact fun H locs ls hP hS hL => va_get (D := D) (ci := 3) (C := RX3) (T := TX3) (N := 4) C.1.1 C.1.2.1 C.1.2.2.2.2 inlX3 C.1.2.2.2.1 C.2.1 hP 0 (heR_o cA ad vT vH u) rfl 2 (by decide) (C.1.2.2.2.2 _ mfX3_25) (fun _ h9 => h9) (v := .int (R_at u)) rfl hd (g H locs ls hP hS hL)
theorem gR_X3_21_o {p : Program} {l : Launch} {e : Env} {R : Room} {s : State} {m : MethodId} {args : Array Value} {below : List Frame} {meth : Method} {c : Code} {Q : State → Prop} {D : va_G} {A : Nat → Prop} {cc : ByteArray} {nL : Nat} {lv : List (Nat × Value)} {pc : Nat} {st : List Value} {cA : Nat → ClassId} {ad : Nat → Nat} {E : zEt} {vT : Value} {vH : Value} {u : SR} (C : zC p s m args meth c cc nL RX3 zTS D (zTy cA) A E) (hd : decode cc pc = .ok (.getfield 21, 3)) {v : Int32} (hv : R_length u = v) (g : zG p l e R s m args below meth c nL D A Q (wR cA ad vT vH u) lv (pc + 3) (.int v :: st)) : zG p l e R s m args below meth c nL D A Q (wR cA ad vT vH u) lv pc (.ref (ad 0) :: st) := by
  subst hv; exact fun H locs ls hP hS hL => va_get (D := D) (ci := 3) (C := RX3) (T := TX3) (N := 4) C.1.1 C.1.2.1 C.1.2.2.2.2 inlX3 C.1.2.2.2.1 C.2.1 hP 0 (heR_o cA ad vT vH u) rfl 1 (by decide) (C.1.2.2.2.2 _ mfX3_21) (fun _ h9 => h9) (v := .int (R_length u)) rfl hd (g H locs ls hP hS hL)
def R_put_at (p : Int32) (u : SR) : SR := (((u.1.1.1, (p, u.1.1.2.2)), u.1.2), u.2)
theorem gR_X3_9_o {p : Program} {l : Launch} {e : Env} {R : Room} {s : State} {m : MethodId} {args : Array Value} {below : List Frame} {meth : Method} {c : Code} {Q : State → Prop} {D : va_G} {A : Nat → Prop} {cc : ByteArray} {nL : Nat} {lv : List (Nat × Value)} {pc : Nat} {st : List Value} {cA : Nat → ClassId} {ad : Nat → Nat} {E : zEt} {vT : Value} {vH : Value} {u : SR} (C : zC p s m args meth c cc nL RX3 zTS D (zTy cA) A E) (hd : decode cc pc = .ok (.getfield 9, 3)) (g : zG p l e R s m args below meth c nL D A Q (wR cA ad vT vH u) lv (pc + 3) (vT :: st)) : zG p l e R s m args below meth c nL D A Q (wR cA ad vT vH u) lv pc (.ref (ad 0) :: st) := by
  exact fun H locs ls hP hS hL => va_get (D := D) (ci := 3) (C := RX3) (T := TX3) (N := 4) C.1.1 C.1.2.1 C.1.2.2.2.2 inlX3 C.1.2.2.2.1 C.2.1 hP 0 (heR_o cA ad vT vH u) rfl 0 (by decide) (C.1.2.2.2.2 _ mfX3_9) (fun _ h9 => h9) (v := vT) rfl hd (g H locs ls hP hS hL)
theorem aR_text {p : Program} {l : Launch} {e : Env} {R : Room} {s : State} {m : MethodId} {args : Array Value} {below : List Frame} {meth : Method} {c : Code} {Q : State → Prop} {D : va_G} {A : Nat → Prop} {cc : ByteArray} {nL : Nat} {lv : List (Nat × Value)} {pc : Nat} {st : List Value} {cA : Nat → ClassId} {ad : Nat → Nat} {E : zEt} {vT : Value} {vH : Value} {own : String} {u : SR} {i : Int32} {β : Type} {k : Option β} {r : β} (C : zC p s m args meth c cc nL own zTS D (zTy cA) A E) (hm : zgi i 100 k = some r) (hd : decode cc pc = .ok (.caload, 1)) (g : k = some r → zG p l e R s m args below meth c nL D A Q (wR cA ad vT vH u) lv (pc + 1) (.int (R_text u i.toNatClampNeg) :: st)) : zG p l e R s m args below meth c nL D A Q (wR cA ad vT vH u) lv pc (.int i :: .ref (ad 1) :: st) := fun H locs ls hP hS hL => va_cald C.1.1 C.1.2.1 C.2.1 hP 1 3 (heR_text cA ad vT vH u) rfl (zgi_some hm).1 hd (g (zgi_some hm).2 H locs ls hP hS hL)
theorem pR_X3_25_o {p : Program} {l : Launch} {e : Env} {R : Room} {s : State} {m : MethodId} {args : Array Value} {below : List Frame} {meth : Method} {c : Code} {Q : State → Prop} {D : va_G} {A : Nat → Prop} {cc : ByteArray} {nL : Nat} {lv : List (Nat × Value)} {pc : Nat} {st : List Value} {cA : Nat → ClassId} {ad : Nat → Nat} {E : zEt} {vT : Value} {vH : Value} {u : SR} {v : Int32} (C : zC p s m args meth c cc nL RX3 zTS D (zTy cA) A E) (hI : zInj ad 9) (hA : ∀ q, zAd ad 9 q → A q) (hd : decode cc pc = .ok (.putfield 25, 3)) (g : zG p l e R s m args below meth c nL D A Q (wR cA ad vT vH (R_set_at v u)) lv (pc + 3) st) : zG p l e R s m args below meth c nL D A Q (wR cA ad vT vH u) lv pc (.int v :: .ref (ad 0) :: st) := fun H locs ls hP hS hL => va_put (D := D) (ci := 3) (C := RX3) (T := TX3) (N := 4) C.1.1 C.1.2.1 C.1.2.2.2.2 inlX3 tyX3 tyX3_ok nmX3 C.1.2.2.2.1 C.2.1 hP (zD_mono (wR_D hI cA vT vH u) hA) hS 0 (heR_o cA ad vT vH u) rfl 2 (by decide) (C.1.2.2.2.2 _ mfX3_25) (fun _ h9 => h9) rfl (ty := .int) (by decide +kernel) rfl rfl (Nat.le_of_ble_eq_true rfl) hd (fun H1 locs1 hP1 _ hS1 => g H1 locs1 ls hP1 hS1 hL)
def mR_skip (x1 : Int32) (u : SR) : Option (Int32 × Int32) :=
  if (R_length u) ≤ (R_at u) then (some ((0 : Int32), ((R_at u)))) else (zgi (R_at u) 100 (if ((R_text u) ((R_at u)).toNatClampNeg) = x1 then (some ((1 : Int32), (((R_at u) + (1 : Int32))))) else (some ((0 : Int32), ((R_at u))))))
set_option maxRecDepth 100000 in
set_option maxHeartbeats 4000000 in
theorem cR_skip {l : Launch} {D : va_G} {cA : Nat → ClassId} {ad : Nat → Nat} {tK tB : Nat} {kS vS : Nat → Nat} (hI : zInj ad 9) (x1 : Int32) (u : SR) {r : Int32} {w' : Int32} (hm : mR_skip x1 u = some (r, w')) : Met l yX3_skip (zWs yX3_skip cX3_skip 2 (some .boolean)) (zRm 0) (va_Pc [.ref (ad 0), .int x1] (zPre D (zTy cA) (zE tK tB kS vS) (zAd ad 9) (wR cA ad (.ref (ad 1)) (.ref (ad 2)) u))) (zQi r (zBw D (wR cA ad (.ref (ad 1)) (.ref (ad 2)) (R_put_at w' u))) (zAd ad 9)) 0 0 (zAd ad 9) := by
  refine z_met (lv := [(0, .ref (ad 0)), (1, .int x1)]) plX3 rfl rfl (Nat.le_of_ble_eq_true rfl) rfl ?_
  intro p e s m below meth c hC hr hin
  unfold mR_skip at hm
  refine z_aload_n hC dX3_skip_0 rfl 0 rfl ?_
  refine gR_X3_25_o (v := (R_at u)) hC dX3_skip_1 rfl ?_
  refine z_aload_n hC dX3_skip_4 rfl 0 rfl ?_
  refine gR_X3_21_o (v := (R_length u)) hC dX3_skip_5 rfl ?_
  refine z_icmp_ge (tgt := 24) hC hm dX3_skip_8 (by decide) (fun hm => ?_) (fun hm => ?_)
  · refine z_iconst hC dX3_skip_24 kI_0 ?_
    exact riR (fin := fun z => R_put_at z u) hC hr rfl dX3_skip_25 hm rfl
  · refine z_aload_n hC dX3_skip_11 rfl 0 rfl ?_
    refine gR_X3_9_o hC dX3_skip_12 ?_
    refine z_aload_n hC dX3_skip_15 rfl 0 rfl ?_
    refine gR_X3_25_o (v := (R_at u)) hC dX3_skip_16 rfl ?_
    refine aR_text hC hm dX3_skip_19 (fun hm => ?_)
    refine z_iload_n hC dX3_skip_20 rfl 1 rfl ?_
    refine z_icmp_eq (tgt := 26) hC hm dX3_skip_21 (by decide) (fun hm => ?_) (fun hm => ?_)
    · refine z_aload_n hC dX3_skip_26 rfl 0 rfl ?_
      refine z_dup hC dX3_skip_27 rfl ?_
      refine gR_X3_25_o (v := (R_at u)) hC dX3_skip_28 rfl ?_
      refine z_iconst hC dX3_skip_31 kI_1 ?_
      refine z_iadd hC dX3_skip_32 ?_
      refine pR_X3_25_o hC hI (fun _ h => h) dX3_skip_33 ?_
      refine zuR (u2 := (R_put_at (((R_at u) + (1 : Int32))) u)) rfl ?_
      refine z_iconst hC dX3_skip_36 kI_1 ?_
      exact riR (fin := fun z => R_put_at z u) hC hr rfl dX3_skip_37 hm rfl
    · refine z_iconst hC dX3_skip_24 kI_0 ?_
      exact riR (fin := fun z => R_put_at z u) hC hr rfl dX3_skip_25 hm rfl
def mR_readFigure (x1 : Int32) (u : SR) : Option (Int32 × Int32) :=
  if (R_length u) ≤ (R_at u) then (some ((-1 : Int32), ((R_at u)))) else (zgi (R_at u) 100 (if ((R_text u) ((R_at u)).toNatClampNeg) < (48 : Int32) then (some ((-1 : Int32), ((R_at u)))) else (zgi (R_at u) 100 (if ((R_text u) ((R_at u)).toNatClampNeg) ≤ ((48 : Int32) + x1) then (zgi (((R_at u) + (1 : Int32)) - (1 : Int32)) 100 (some ((((R_text u) ((((R_at u) + (1 : Int32)) - (1 : Int32))).toNatClampNeg) - (48 : Int32)), (((R_at u) + (1 : Int32)))))) else (some ((-1 : Int32), ((R_at u))))))))
set_option maxRecDepth 100000 in
set_option maxHeartbeats 4000000 in
theorem cR_readFigure {l : Launch} {D : va_G} {cA : Nat → ClassId} {ad : Nat → Nat} {tK tB : Nat} {kS vS : Nat → Nat} (hI : zInj ad 9) (x1 : Int32) (u : SR) {r : Int32} {w' : Int32} (hm : mR_readFigure x1 u = some (r, w')) : Met l yX3_readFigure (zWs yX3_readFigure cX3_readFigure 2 (some .int)) (zRm 0) (va_Pc [.ref (ad 0), .int x1] (zPre D (zTy cA) (zE tK tB kS vS) (zAd ad 9) (wR cA ad (.ref (ad 1)) (.ref (ad 2)) u))) (zQi r (zBw D (wR cA ad (.ref (ad 1)) (.ref (ad 2)) (R_put_at w' u))) (zAd ad 9)) 0 0 (zAd ad 9) := by
  refine z_met (lv := [(0, .ref (ad 0)), (1, .int x1)]) plX3 rfl rfl (Nat.le_of_ble_eq_true rfl) rfl ?_
  intro p e s m below meth c hC hr hin
  unfold mR_readFigure at hm
  refine z_aload_n hC dX3_readFigure_0 rfl 0 rfl ?_
  refine gR_X3_25_o (v := (R_at u)) hC dX3_readFigure_1 rfl ?_
  refine z_aload_n hC dX3_readFigure_4 rfl 0 rfl ?_
  refine gR_X3_21_o (v := (R_length u)) hC dX3_readFigure_5 rfl ?_
  refine z_icmp_ge (tgt := 41) hC hm dX3_readFigure_8 (by decide) (fun hm => ?_) (fun hm => ?_)
  · refine z_iconst hC dX3_readFigure_41 kI_m1 ?_
    exact riR (fin := fun z => R_put_at z u) hC hr rfl dX3_readFigure_42 hm rfl
  · refine z_aload_n hC dX3_readFigure_11 rfl 0 rfl ?_
    refine gR_X3_9_o hC dX3_readFigure_12 ?_
    refine z_aload_n hC dX3_readFigure_15 rfl 0 rfl ?_
    refine gR_X3_25_o (v := (R_at u)) hC dX3_readFigure_16 rfl ?_
    refine aR_text hC hm dX3_readFigure_19 (fun hm => ?_)
    refine z_bipush hC dX3_readFigure_20 kB_48 ?_
    refine z_icmp_lt (tgt := 41) hC hm dX3_readFigure_22 (by decide) (fun hm => ?_) (fun hm => ?_)
    · refine z_iconst hC dX3_readFigure_41 kI_m1 ?_
      exact riR (fin := fun z => R_put_at z u) hC hr rfl dX3_readFigure_42 hm rfl
    · refine z_aload_n hC dX3_readFigure_25 rfl 0 rfl ?_
      refine gR_X3_9_o hC dX3_readFigure_26 ?_
      refine z_aload_n hC dX3_readFigure_29 rfl 0 rfl ?_
      refine gR_X3_25_o (v := (R_at u)) hC dX3_readFigure_30 rfl ?_
      refine aR_text hC hm dX3_readFigure_33 (fun hm => ?_)
      refine z_bipush hC dX3_readFigure_34 kB_48 ?_
      refine z_iload_n hC dX3_readFigure_36 rfl 1 rfl ?_
      refine z_iadd hC dX3_readFigure_37 ?_
      refine z_icmp_le (tgt := 43) hC hm dX3_readFigure_38 (by decide) (fun hm => ?_) (fun hm => ?_)
      · refine z_aload_n hC dX3_readFigure_43 rfl 0 rfl ?_
        refine z_dup hC dX3_readFigure_44 rfl ?_
        refine gR_X3_25_o (v := (R_at u)) hC dX3_readFigure_45 rfl ?_
        refine z_iconst hC dX3_readFigure_48 kI_1 ?_
        refine z_iadd hC dX3_readFigure_49 ?_
        refine pR_X3_25_o hC hI (fun _ h => h) dX3_readFigure_50 ?_
        refine zuR (u2 := (R_put_at (((R_at u) + (1 : Int32))) u)) rfl ?_
        refine z_aload_n hC dX3_readFigure_53 rfl 0 rfl ?_
        refine gR_X3_9_o hC dX3_readFigure_54 ?_
        refine z_aload_n hC dX3_readFigure_57 rfl 0 rfl ?_
        refine gR_X3_25_o (v := ((R_at u) + (1 : Int32))) hC dX3_readFigure_58 rfl ?_
        refine z_iconst hC dX3_readFigure_61 kI_1 ?_
        refine z_isub hC dX3_readFigure_62 ?_
        refine aR_text hC hm dX3_readFigure_63 (fun hm => ?_)
        refine z_bipush hC dX3_readFigure_64 kB_48 ?_
        refine z_isub hC dX3_readFigure_66 ?_
        exact riR (fin := fun z => R_put_at z u) hC hr rfl dX3_readFigure_67 hm rfl
      · refine z_iconst hC dX3_readFigure_41 kI_m1 ?_
        exact riR (fin := fun z => R_put_at z u) hC hr rfl dX3_readFigure_42 hm rfl
theorem xR_X3_41 {p : Program} {l : Launch} {e : Env} {s : State} {m : MethodId} {args : Array Value} {below : List Frame} {meth : Method} {c : Code} {Q : State → Prop} {D : va_G} {A : Nat → Prop} {cc : ByteArray} {nL : Nat} {lv : List (Nat × Value)} {pc : Nat} {st : List Value} {cA : Nat → ClassId} {ad : Nat → Nat} {tK tB : Nat} {kS vS : Nat → Nat} {d : Nat} {x1 : Int32} {u : SR} (hI : zInj ad 9) (C : zC p s m args meth c cc nL RX3 zTS D (zTy cA) A (zE tK tB kS vS)) (hdm : 0 + 1 ≤ d) (hA : ∀ q, zAd ad 9 q → A q) {β : Type} {f : (Int32 × Int32) → Option β} {o : β} (hm : (mR_skip x1 u).bind f = some o) (hd : decode cc pc = .ok (.invokevirtual 41, 3)) (h8 : (st.map fun v => v.category).sum ≤ 8) (g : ∀ q, f q = some o → zG p l e (zRm d) s m args below meth c nL D A Q (wR cA ad (.ref (ad 1)) (.ref (ad 2)) (R_put_at q.2 u)) lv (pc + 3) (.int q.1 :: st)) : zG p l e (zRm d) s m args below meth c nL D A Q (wR cA ad (.ref (ad 1)) (.ref (ad 2)) u) lv pc (.int x1 :: .ref (ad 0) :: st) := by
  obtain ⟨q, h1, h2⟩ := zb_some hm
  exact z_calliV C (cR_skip (ad := ad) (cA := cA) hI x1 u h1) (cwX3_41 C.1.2.2.2.2 rfl rfl ⟨hdm, by have := hdm; simp only [zRm]; omega⟩) hd rfl rfl h8 ⟨_, rfl, rfl⟩ (List.mem_of_getElem? (heR_o cA ad _ _ u)) (fun _ h => h) hA zJ_same (g q h2)
theorem xR_X3_138 {p : Program} {l : Launch} {e : Env} {s : State} {m : MethodId} {args : Array Value} {below : List Frame} {meth : Method} {c : Code} {Q : State → Prop} {D : va_G} {A : Nat → Prop} {cc : ByteArray} {nL : Nat} {lv : List (Nat × Value)} {pc : Nat} {st : List Value} {cA : Nat → ClassId} {ad : Nat → Nat} {tK tB : Nat} {kS vS : Nat → Nat} {d : Nat} {x1 : Int32} {u : SR} (hI : zInj ad 9) (C : zC p s m args meth c cc nL RX3 zTS D (zTy cA) A (zE tK tB kS vS)) (hdm : 0 + 1 ≤ d) (hA : ∀ q, zAd ad 9 q → A q) {β : Type} {f : (Int32 × Int32) → Option β} {o : β} (hm : (mR_readFigure x1 u).bind f = some o) (hd : decode cc pc = .ok (.invokevirtual 138, 3)) (h8 : (st.map fun v => v.category).sum ≤ 8) (g : ∀ q, f q = some o → zG p l e (zRm d) s m args below meth c nL D A Q (wR cA ad (.ref (ad 1)) (.ref (ad 2)) (R_put_at q.2 u)) lv (pc + 3) (.int q.1 :: st)) : zG p l e (zRm d) s m args below meth c nL D A Q (wR cA ad (.ref (ad 1)) (.ref (ad 2)) u) lv pc (.int x1 :: .ref (ad 0) :: st) := by
  obtain ⟨q, h1, h2⟩ := zb_some hm
  exact z_calliV C (cR_readFigure (ad := ad) (cA := cA) hI x1 u h1) (cwX3_138 C.1.2.2.2.2 rfl rfl ⟨hdm, by have := hdm; simp only [zRm]; omega⟩) hd rfl rfl h8 ⟨_, rfl, rfl⟩ (List.mem_of_getElem? (heR_o cA ad _ _ u)) (fun _ h => h) hA zJ_same (g q h2)
def mR_readPart (x1 : Int32) (u : SR) : Option (Int32 × Int32) :=
  (mR_skip (32 : Int32) u).bind fun q1 => (if q1.1 = 0 then (some ((-1 : Int32), (q1.2))) else ((mR_readFigure x1 (R_put_at (q1.2) u)).bind fun q2 => (some (q2.1, (q2.2)))))
set_option maxRecDepth 100000 in
set_option maxHeartbeats 4000000 in
theorem cR_readPart {l : Launch} {D : va_G} {cA : Nat → ClassId} {ad : Nat → Nat} {tK tB : Nat} {kS vS : Nat → Nat} (hI : zInj ad 9) (x1 : Int32) (u : SR) {r : Int32} {w' : Int32} (hm : mR_readPart x1 u = some (r, w')) : Met l yX3_readPart (zWs yX3_readPart cX3_readPart 2 (some .int)) (zRm 1) (va_Pc [.ref (ad 0), .int x1] (zPre D (zTy cA) (zE tK tB kS vS) (zAd ad 9) (wR cA ad (.ref (ad 1)) (.ref (ad 2)) u))) (zQi r (zBw D (wR cA ad (.ref (ad 1)) (.ref (ad 2)) (R_put_at w' u))) (zAd ad 9)) 0 0 (zAd ad 9) := by
  refine z_met (lv := [(0, .ref (ad 0)), (1, .int x1)]) plX3 rfl rfl (Nat.le_of_ble_eq_true rfl) rfl ?_
  intro p e s m below meth c hC hr hin
  unfold mR_readPart at hm
  refine z_aload_n hC dX3_readPart_0 rfl 0 rfl ?_
  refine z_bipush hC dX3_readPart_1 kB_32 ?_
  refine xR_X3_41 hI hC (Nat.le_of_ble_eq_true rfl) (fun _ h => h) hm dX3_readPart_3 (Nat.le_of_ble_eq_true rfl) (fun q1 hm => ?_)
  refine zuR (u2 := (R_put_at (q1.2) u)) rfl ?_
  refine z_if_eq (tgt := 17) hC hm dX3_readPart_6 (by decide) (fun hm => ?_) (fun hm => ?_)
  · refine z_iconst hC dX3_readPart_17 kI_m1 ?_
    exact riR (fin := fun z => R_put_at z u) hC hr rfl dX3_readPart_18 hm rfl
  · refine z_aload_n hC dX3_readPart_9 rfl 0 rfl ?_
    refine z_iload_n hC dX3_readPart_10 rfl 1 rfl ?_
    refine xR_X3_138 hI hC (Nat.le_of_ble_eq_true rfl) (fun _ h => h) hm dX3_readPart_11 (Nat.le_of_ble_eq_true rfl) (fun q2 hm => ?_)
    refine zuR (u2 := (R_put_at (q2.2) u)) rfl ?_
    refine z_goto (tgt := 18) hC dX3_readPart_14 (by decide) ?_
    exact riR (fin := fun z => R_put_at z u) hC hr rfl dX3_readPart_18 hm rfl
def mR_readNumber_L4 : Nat → Int32 → Int32 → SR → Option (Int32 × Int32)
  | 0, _, _, _ => none
  | n + 1, x1, x2, u => if (2 : Int32) ≤ x2 then (if x2 = 0 then (some ((-1 : Int32), ((R_at u)))) else (some (x1, ((R_at u))))) else (if (R_length u) ≤ (R_at u) then (if x2 = 0 then (some ((-1 : Int32), ((R_at u)))) else (some (x1, ((R_at u))))) else (zgi (R_at u) 100 (if ((R_text u) ((R_at u)).toNatClampNeg) < (48 : Int32) then (if x2 = 0 then (some ((-1 : Int32), ((R_at u)))) else (some (x1, ((R_at u))))) else (zgi (R_at u) 100 (if (57 : Int32) < ((R_text u) ((R_at u)).toNatClampNeg) then (if x2 = 0 then (some ((-1 : Int32), ((R_at u)))) else (some (x1, ((R_at u))))) else (zgi (R_at u) 100 (mR_readNumber_L4 n ((((10 : Int32) * x1) + ((R_text u) ((R_at u)).toNatClampNeg)) - (48 : Int32)) (x2 + (1 : Int32)) (R_put_at (((R_at u) + (1 : Int32))) u))))))))
set_option maxRecDepth 100000 in
set_option maxHeartbeats 4000000 in
theorem lR_readNumber_4 {l : Launch} {D : va_G} {cA : Nat → ClassId} {ad : Nat → Nat} {p : Program} {e : Env} {s : State} {m : MethodId} {args : Array Value} {below : List Frame} {meth : Method} {c : Code} {tK tB : Nat} {kS vS : Nat → Nat} {r : Int32} {w' : Int32}  (hI : zInj ad 9) (hC : zC p s m args meth c cX3_readNumber 3 RX3 zTS D (zTy cA) (zAd ad 9) (zE tK tB kS vS)) (hr : meth.sig.returnType = (some .int)) : ∀ (n : Nat) (x1 : Int32) (x2 : Int32) (u : SR), mR_readNumber_L4 n x1 x2 u = some (r, w') → zG p l e (zRm 0) s m args below meth c 3 D (zAd ad 9) (MQ below (zQi r (zBw D (wR cA ad (.ref (ad 1)) (.ref (ad 2)) (R_put_at w' u))) (zAd ad 9)) args s 0 0 (zAd ad 9)) (wR cA ad (.ref (ad 1)) (.ref (ad 2)) u) [(0, .ref (ad 0)), (1, .int x1), (2, .int x2)] 4 [] := by
  intro n
  induction n with
  | zero => intro x1 x2 u hm; exact z_none hm
  | succ n ih =>
    intro x1 x2 u hm
    rw [mR_readNumber_L4] at hm
    refine z_iload_n hC dX3_readNumber_4 rfl 2 rfl ?_
    refine z_iconst hC dX3_readNumber_5 kI_2 ?_
    refine z_icmp_ge (tgt := 82) hC hm dX3_readNumber_6 (by decide) (fun hm => ?_) (fun hm => ?_)
    · refine z_iload_n hC dX3_readNumber_82 rfl 2 rfl ?_
      refine z_if_ne (tgt := 90) hC hm dX3_readNumber_83 (by decide) (fun hm => ?_) (fun hm => ?_)
      · refine z_iconst hC dX3_readNumber_86 kI_m1 ?_
        refine z_goto (tgt := 91) hC dX3_readNumber_87 (by decide) ?_
        exact riR (fin := fun z => R_put_at z u) hC hr rfl dX3_readNumber_91 hm rfl
      · refine z_iload_n hC dX3_readNumber_90 rfl 1 rfl ?_
        exact riR (fin := fun z => R_put_at z u) hC hr rfl dX3_readNumber_91 hm rfl
    · refine z_aload_n hC dX3_readNumber_9 rfl 0 rfl ?_
      refine gR_X3_25_o (v := (R_at u)) hC dX3_readNumber_10 rfl ?_
      refine z_aload_n hC dX3_readNumber_13 rfl 0 rfl ?_
      refine gR_X3_21_o (v := (R_length u)) hC dX3_readNumber_14 rfl ?_
      refine z_icmp_ge (tgt := 82) hC hm dX3_readNumber_17 (by decide) (fun hm => ?_) (fun hm => ?_)
      · refine z_iload_n hC dX3_readNumber_82 rfl 2 rfl ?_
        refine z_if_ne (tgt := 90) hC hm dX3_readNumber_83 (by decide) (fun hm => ?_) (fun hm => ?_)
        · refine z_iconst hC dX3_readNumber_86 kI_m1 ?_
          refine z_goto (tgt := 91) hC dX3_readNumber_87 (by decide) ?_
          exact riR (fin := fun z => R_put_at z u) hC hr rfl dX3_readNumber_91 hm rfl
        · refine z_iload_n hC dX3_readNumber_90 rfl 1 rfl ?_
          exact riR (fin := fun z => R_put_at z u) hC hr rfl dX3_readNumber_91 hm rfl
      · refine z_aload_n hC dX3_readNumber_20 rfl 0 rfl ?_
        refine gR_X3_9_o hC dX3_readNumber_21 ?_
        refine z_aload_n hC dX3_readNumber_24 rfl 0 rfl ?_
        refine gR_X3_25_o (v := (R_at u)) hC dX3_readNumber_25 rfl ?_
        refine aR_text hC hm dX3_readNumber_28 (fun hm => ?_)
        refine z_bipush hC dX3_readNumber_29 kB_48 ?_
        refine z_icmp_lt (tgt := 82) hC hm dX3_readNumber_31 (by decide) (fun hm => ?_) (fun hm => ?_)
        · refine z_iload_n hC dX3_readNumber_82 rfl 2 rfl ?_
          refine z_if_ne (tgt := 90) hC hm dX3_readNumber_83 (by decide) (fun hm => ?_) (fun hm => ?_)
          · refine z_iconst hC dX3_readNumber_86 kI_m1 ?_
            refine z_goto (tgt := 91) hC dX3_readNumber_87 (by decide) ?_
            exact riR (fin := fun z => R_put_at z u) hC hr rfl dX3_readNumber_91 hm rfl
          · refine z_iload_n hC dX3_readNumber_90 rfl 1 rfl ?_
            exact riR (fin := fun z => R_put_at z u) hC hr rfl dX3_readNumber_91 hm rfl
        · refine z_aload_n hC dX3_readNumber_34 rfl 0 rfl ?_
          refine gR_X3_9_o hC dX3_readNumber_35 ?_
          refine z_aload_n hC dX3_readNumber_38 rfl 0 rfl ?_
          refine gR_X3_25_o (v := (R_at u)) hC dX3_readNumber_39 rfl ?_
          refine aR_text hC hm dX3_readNumber_42 (fun hm => ?_)
          refine z_bipush hC dX3_readNumber_43 kB_57 ?_
          refine z_icmp_gt (tgt := 82) hC hm dX3_readNumber_45 (by decide) (fun hm => ?_) (fun hm => ?_)
          · refine z_iload_n hC dX3_readNumber_82 rfl 2 rfl ?_
            refine z_if_ne (tgt := 90) hC hm dX3_readNumber_83 (by decide) (fun hm => ?_) (fun hm => ?_)
            · refine z_iconst hC dX3_readNumber_86 kI_m1 ?_
              refine z_goto (tgt := 91) hC dX3_readNumber_87 (by decide) ?_
              exact riR (fin := fun z => R_put_at z u) hC hr rfl dX3_readNumber_91 hm rfl
            · refine z_iload_n hC dX3_readNumber_90 rfl 1 rfl ?_
              exact riR (fin := fun z => R_put_at z u) hC hr rfl dX3_readNumber_91 hm rfl
          · refine z_bipush hC dX3_readNumber_48 kB_10 ?_
            refine z_iload_n hC dX3_readNumber_50 rfl 1 rfl ?_
            refine z_imul hC dX3_readNumber_51 ?_
            refine z_aload_n hC dX3_readNumber_52 rfl 0 rfl ?_
            refine gR_X3_9_o hC dX3_readNumber_53 ?_
            refine z_aload_n hC dX3_readNumber_56 rfl 0 rfl ?_
            refine gR_X3_25_o (v := (R_at u)) hC dX3_readNumber_57 rfl ?_
            refine aR_text hC hm dX3_readNumber_60 (fun hm => ?_)
            refine z_iadd hC dX3_readNumber_61 ?_
            refine z_bipush hC dX3_readNumber_62 kB_48 ?_
            refine z_isub hC dX3_readNumber_64 ?_
            refine z_istore_n (lv' := [(1, .int ((((10 : Int32) * x1) + ((R_text u) ((R_at u)).toNatClampNeg)) - (48 : Int32))), (0, .ref (ad 0)), (2, .int x2)]) hC dX3_readNumber_65 rfl (by decide) rfl ?_
            refine z_aload_n hC dX3_readNumber_66 rfl 1 rfl ?_
            refine z_dup hC dX3_readNumber_67 rfl ?_
            refine gR_X3_25_o (v := (R_at u)) hC dX3_readNumber_68 rfl ?_
            refine z_iconst hC dX3_readNumber_71 kI_1 ?_
            refine z_iadd hC dX3_readNumber_72 ?_
            refine pR_X3_25_o hC hI (fun _ h => h) dX3_readNumber_73 ?_
            refine zuR (u2 := (R_put_at (((R_at u) + (1 : Int32))) u)) rfl ?_
            refine z_iinc (lv' := [(2, .int (x2 + (1 : Int32))), (1, .int ((((10 : Int32) * x1) + ((R_text u) ((R_at u)).toNatClampNeg)) - (48 : Int32))), (0, .ref (ad 0))]) (k := 2) (v := (x2 + (1 : Int32))) hC dX3_readNumber_76 rfl rfl (by decide) rfl ?_
            refine z_goto (tgt := 4) hC dX3_readNumber_79 (by decide) ?_
            refine z_lv hC [2, 1, 0] rfl ?_
            exact ih _ _ _ hm
def mR_readNumber (u : SR) : Option (Int32 × Int32) :=
  mR_readNumber_L4 256 (0 : Int32) (0 : Int32) u
set_option maxRecDepth 100000 in
set_option maxHeartbeats 4000000 in
theorem cR_readNumber {l : Launch} {D : va_G} {cA : Nat → ClassId} {ad : Nat → Nat} {tK tB : Nat} {kS vS : Nat → Nat} (hI : zInj ad 9) (u : SR) {r : Int32} {w' : Int32} (hm : mR_readNumber u = some (r, w')) : Met l yX3_readNumber (zWs yX3_readNumber cX3_readNumber 3 (some .int)) (zRm 0) (va_Pc [.ref (ad 0)] (zPre D (zTy cA) (zE tK tB kS vS) (zAd ad 9) (wR cA ad (.ref (ad 1)) (.ref (ad 2)) u))) (zQi r (zBw D (wR cA ad (.ref (ad 1)) (.ref (ad 2)) (R_put_at w' u))) (zAd ad 9)) 0 0 (zAd ad 9) := by
  refine z_met (lv := [(0, .ref (ad 0))]) plX3 rfl rfl (Nat.le_of_ble_eq_true rfl) rfl ?_
  intro p e s m below meth c hC hr hin
  unfold mR_readNumber at hm
  refine z_iconst hC dX3_readNumber_0 kI_0 ?_
  refine z_istore_n (lv' := [(1, .int (0 : Int32)), (0, .ref (ad 0))]) hC dX3_readNumber_1 rfl (by decide) rfl ?_
  refine z_iconst hC dX3_readNumber_2 kI_0 ?_
  refine z_istore_n (lv' := [(2, .int (0 : Int32)), (1, .int (0 : Int32)), (0, .ref (ad 0))]) hC dX3_readNumber_3 rfl (by decide) rfl ?_
  refine z_lv hC [2, 1, 0] rfl ?_
  exact lR_readNumber_4 hI hC hr _ _ _ _ hm
def mN_wordOf (x0 : Int32) : Nat :=
  if x0 = (0 : Int32) then (0) else (if x0 = (1 : Int32) then (1) else (if x0 = (2 : Int32) then (2) else (if x0 = (3 : Int32) then (3) else (4))))
set_option maxRecDepth 100000 in
set_option maxHeartbeats 4000000 in
theorem cN_wordOf {l : Launch} {D : va_G} {cA : Nat → ClassId} {ad : Nat → Nat} {tK tB : Nat} {kS vS : Nat → Nat} (hI : zInj ad 0) (x0 : Int32) (u : SN) {r : Nat} (hm : mN_wordOf x0 = r) : Met l yX3_wordOf (zWs yX3_wordOf cX3_wordOf 1 (some (.object "java/lang/String"))) (zRm 0) (va_Pc [.int x0] (zPre D (zTy cA) (zE tK tB kS vS) zA0 (wN cA ad u))) (zQr (kS r) zB0 zA0) 0 0 zA0 := by
  refine z_met (lv := [(0, .int x0)]) plX3 rfl rfl (Nat.le_of_ble_eq_true rfl) rfl ?_
  intro p e s m below meth c hC hr hin
  unfold mN_wordOf at hm
  refine z_iload_n hC dX3_wordOf_0 rfl 0 rfl ?_
  refine z_ite hm (fun h1_0 hm => ?_) (fun h1_0 hm => ?_)
  · refine z_tin hC dX3_wordOf_1 h1_0 kc_0 (by decide) (by decide) (off := 31) rfl (tgt := 32) (by decide) ?_
    refine z_ldcS0 hC dX3_wordOf_32 ?_
    exact z_aret (F := kS) hC hr dX3_wordOf_34 (fun _ _ => trivial) hm
  · refine z_ite hm (fun h1_1 hm => ?_) (fun h1_1 hm => ?_)
    · refine z_tin hC dX3_wordOf_1 h1_1 kc_1 (by decide) (by decide) (off := 34) rfl (tgt := 35) (by decide) ?_
      refine z_ldcS1 hC dX3_wordOf_35 ?_
      exact z_aret (F := kS) hC hr dX3_wordOf_37 (fun _ _ => trivial) hm
    · refine z_ite hm (fun h1_2 hm => ?_) (fun h1_2 hm => ?_)
      · refine z_tin hC dX3_wordOf_1 h1_2 kc_2 (by decide) (by decide) (off := 37) rfl (tgt := 38) (by decide) ?_
        refine z_ldcS2 hC dX3_wordOf_38 ?_
        exact z_aret (F := kS) hC hr dX3_wordOf_40 (fun _ _ => trivial) hm
      · refine z_ite hm (fun h1_3 hm => ?_) (fun h1_3 hm => ?_)
        · refine z_tin hC dX3_wordOf_1 h1_3 kc_3 (by decide) (by decide) (off := 40) rfl (tgt := 41) (by decide) ?_
          refine z_ldcS3 hC dX3_wordOf_41 ?_
          exact z_aret (F := kS) hC hr dX3_wordOf_43 (fun _ _ => trivial) hm
        · refine z_tout (n := 4) hC dX3_wordOf_1 (z_allc (z_tneq kc_0 h1_0) (z_allc (z_tneq kc_1 h1_1) (z_allc (z_tneq kc_2 h1_2) (z_allc (z_tneq kc_3 h1_3) z_all0)))) (by decide) (tgt := 44) (by decide) ?_
          refine z_ldcS4 hC dX3_wordOf_44 ?_
          exact z_aret (F := kS) hC hr dX3_wordOf_46 (fun _ _ => trivial) hm
theorem wordOf_lt (x : Int32) : mN_wordOf x < 7 := by
  unfold mN_wordOf
  (repeat' split) <;> decide
theorem xR_wordOf {p : Program} {l : Launch} {e : Env} {s : State} {m : MethodId} {args : Array Value} {below : List Frame} {meth : Method} {c : Code} {Q : State → Prop} {D : va_G} {A : Nat → Prop} {cc : ByteArray} {nL : Nat} {lv : List (Nat × Value)} {pc : Nat} {st : List Value} {cA : Nat → ClassId} {ws : va_W} {tK tB : Nat} {kS vS : Nat → Nat} {d : Nat} {x1 : Int32} (C : zC p s m args meth c cc nL RX3 zTS D (zTy cA) A (zE tK tB kS vS)) (hdm : 0 + 1 ≤ d) (hd : decode cc pc = .ok (.invokestatic 79, 3)) (h8 : (st.map fun v => v.category).sum ≤ 8) (g : zG p l e (zRm d) s m args below meth c nL D A Q ws lv (pc + 3) (.ref (kS (mN_wordOf x1)) :: st)) : zG p l e (zRm d) s m args below meth c nL D A Q ws lv pc (.int x1 :: st) :=
  z_callrS C (cN_wordOf (cA := cA) (ad := fun i => i) zInj0 x1 () rfl) (cwX3_79 C.1.2.2.2.2 rfl rfl ⟨hdm, by have := hdm; simp only [zRm]; omega⟩) hd rfl rfl h8 (fun _ h => nomatch h) (fun _ h => h.elim) zJ_ro g
def mR_sameAs_L2 (i : Nat) (u : SR) : Nat → Int32 → Option Int32
  | 0, _ => none
  | n + 1, x2 => if (mN_length_8abf5 i) ≤ x2 then (some (mN_length_8abf5 i)) else (if (R_length u) ≤ ((R_at u) + x2) then (some x2) else (zgi ((R_at u) + x2) 100 ((mN_charAt_5068e i x2).bind fun q1 => (if ((R_text u) (((R_at u) + x2)).toNatClampNeg) = q1 then (mR_sameAs_L2 i u n (x2 + (1 : Int32))) else (some x2)))))
set_option maxRecDepth 100000 in
set_option maxHeartbeats 4000000 in
theorem lR_sameAs_2 {l : Launch} {D : va_G} {cA : Nat → ClassId} {ad : Nat → Nat} {p : Program} {e : Env} {s : State} {m : MethodId} {args : Array Value} {below : List Frame} {meth : Method} {c : Code} {tK tB : Nat} {kS vS : Nat → Nat} {r : Int32}  {i : Nat} {u : SR} (hI : zInj ad 9 ∧ i < 7) (hC : zC p s m args meth c cX3_sameAs 3 RX3 zTS D (zTy cA) zA0 (zE tK tB kS vS)) (hr : meth.sig.returnType = (some .int)) : ∀ (n : Nat) (x2 : Int32), mR_sameAs_L2 i u n x2 = some r → zG p l e (zRm 4) s m args below meth c 3 D zA0 (MQ below (zQi r zB0 zA0) args s 0 0 zA0) (wR cA ad (.ref (ad 1)) (.ref (ad 2)) u) [(0, .ref (ad 0)), (1, .ref (kS i)), (2, .int x2)] 2 [] := by
  intro n
  induction n with
  | zero => intro x2 hm; exact z_none hm
  | succ n ih =>
    intro x2 hm
    rw [mR_sameAs_L2] at hm
    refine z_iload_n hC dX3_sameAs_2 rfl 2 rfl ?_
    refine z_aload_n hC dX3_sameAs_3 rfl 1 rfl ?_
    refine xJ_X3_87 hI.2 hC (Nat.le_of_ble_eq_true rfl) dX3_sameAs_4 (Nat.le_of_ble_eq_true rfl) ?_
    refine z_icmp_ge (tgt := 50) hC hm dX3_sameAs_7 (by decide) (fun hm => ?_) (fun hm => ?_)
    · refine z_aload_n hC dX3_sameAs_50 rfl 1 rfl ?_
      refine xJ_X3_87 hI.2 hC (Nat.le_of_ble_eq_true rfl) dX3_sameAs_51 (Nat.le_of_ble_eq_true rfl) ?_
      exact z_iret hC hr rfl dX3_sameAs_54 (fun _ _ => trivial) (Option.some.inj hm)
    · refine z_aload_n hC dX3_sameAs_10 rfl 0 rfl ?_
      refine gR_X3_25_o (v := (R_at u)) hC dX3_sameAs_11 rfl ?_
      refine z_iload_n hC dX3_sameAs_14 rfl 2 rfl ?_
      refine z_iadd hC dX3_sameAs_15 ?_
      refine z_aload_n hC dX3_sameAs_16 rfl 0 rfl ?_
      refine gR_X3_21_o (v := (R_length u)) hC dX3_sameAs_17 rfl ?_
      refine z_icmp_ge (tgt := 42) hC hm dX3_sameAs_20 (by decide) (fun hm => ?_) (fun hm => ?_)
      · refine z_iload_n hC dX3_sameAs_42 rfl 2 rfl ?_
        exact z_iret hC hr rfl dX3_sameAs_43 (fun _ _ => trivial) (Option.some.inj hm)
      · refine z_aload_n hC dX3_sameAs_23 rfl 0 rfl ?_
        refine gR_X3_9_o hC dX3_sameAs_24 ?_
        refine z_aload_n hC dX3_sameAs_27 rfl 0 rfl ?_
        refine gR_X3_25_o (v := (R_at u)) hC dX3_sameAs_28 rfl ?_
        refine z_iload_n hC dX3_sameAs_31 rfl 2 rfl ?_
        refine z_iadd hC dX3_sameAs_32 ?_
        refine aR_text hC hm dX3_sameAs_33 (fun hm => ?_)
        refine z_aload_n hC dX3_sameAs_34 rfl 1 rfl ?_
        refine z_iload_n hC dX3_sameAs_35 rfl 2 rfl ?_
        refine xJ_X3_94 hI.2 hC (Nat.le_of_ble_eq_true rfl) hm dX3_sameAs_36 (Nat.le_of_ble_eq_true rfl) (fun q1 hm => ?_)
        refine z_icmp_eq (tgt := 44) hC hm dX3_sameAs_39 (by decide) (fun hm => ?_) (fun hm => ?_)
        · refine z_iinc (lv' := [(2, .int (x2 + (1 : Int32))), (0, .ref (ad 0)), (1, .ref (kS i))]) (k := 2) (v := (x2 + (1 : Int32))) hC dX3_sameAs_44 rfl rfl (by decide) rfl ?_
          refine z_goto (tgt := 2) hC dX3_sameAs_47 (by decide) ?_
          refine z_lv hC [1, 2, 0] rfl ?_
          exact ih _ hm
        · refine z_iload_n hC dX3_sameAs_42 rfl 2 rfl ?_
          exact z_iret hC hr rfl dX3_sameAs_43 (fun _ _ => trivial) (Option.some.inj hm)
def mR_sameAs (i : Nat) (u : SR) : Option Int32 :=
  mR_sameAs_L2 i u 256 (0 : Int32)
set_option maxRecDepth 100000 in
set_option maxHeartbeats 4000000 in
theorem cR_sameAs {l : Launch} {D : va_G} {cA : Nat → ClassId} {ad : Nat → Nat} {tK tB : Nat} {kS vS : Nat → Nat} {i : Nat} (hI : zInj ad 9 ∧ i < 7) (u : SR) {r : Int32} (hm : mR_sameAs i u = some r) : Met l yX3_sameAs (zWs yX3_sameAs cX3_sameAs 3 (some .int)) (zRm 4) (va_Pc [.ref (ad 0), .ref (kS i)] (zPre D (zTy cA) (zE tK tB kS vS) zA0 (wR cA ad (.ref (ad 1)) (.ref (ad 2)) u))) (zQi r zB0 zA0) 0 0 zA0 := by
  refine z_met (lv := [(0, .ref (ad 0)), (1, .ref (kS i))]) plX3 rfl rfl (Nat.le_of_ble_eq_true rfl) rfl ?_
  intro p e s m below meth c hC hr hin
  unfold mR_sameAs at hm
  refine z_iconst hC dX3_sameAs_0 kI_0 ?_
  refine z_istore_n (lv' := [(2, .int (0 : Int32)), (0, .ref (ad 0)), (1, .ref (kS i))]) hC dX3_sameAs_1 rfl (by decide) rfl ?_
  refine z_lv hC [1, 2, 0] rfl ?_
  exact lR_sameAs_2 hI hC hr _ _ hm
theorem xR_X3_83 {p : Program} {l : Launch} {e : Env} {s : State} {m : MethodId} {args : Array Value} {below : List Frame} {meth : Method} {c : Code} {Q : State → Prop} {D : va_G} {A : Nat → Prop} {cc : ByteArray} {nL : Nat} {lv : List (Nat × Value)} {pc : Nat} {st : List Value} {cA : Nat → ClassId} {ad : Nat → Nat} {tK tB : Nat} {kS vS : Nat → Nat} {d : Nat} {i : Nat} {u : SR} (hi : i < 7) (hI : zInj ad 9) (C : zC p s m args meth c cc nL RX3 zTS D (zTy cA) A (zE tK tB kS vS)) (hdm : 4 + 1 ≤ d) {β : Type} {f : Int32 → Option β} {o : β} (hm : (mR_sameAs i u).bind f = some o) (hd : decode cc pc = .ok (.invokevirtual 83, 3)) (h8 : (st.map fun v => v.category).sum ≤ 8) (g : ∀ q, f q = some o → zG p l e (zRm d) s m args below meth c nL D A Q (wR cA ad (.ref (ad 1)) (.ref (ad 2)) u) lv (pc + 3) (.int q :: st)) : zG p l e (zRm d) s m args below meth c nL D A Q (wR cA ad (.ref (ad 1)) (.ref (ad 2)) u) lv pc (.ref (kS i) :: .ref (ad 0) :: st) := by
  obtain ⟨q, h1, h2⟩ := zb_some hm
  exact z_calliV C (cR_sameAs ⟨hI, hi⟩ u h1) (cwX3_83 C.1.2.2.2.2 rfl rfl ⟨hdm, by have := hdm; simp only [zRm]; omega⟩) hd rfl rfl h8 ⟨_, rfl, rfl⟩ (List.mem_of_getElem? (heR_o cA ad _ _ u)) (fun _ h => h) (fun _ h => h.elim) zJ_ro (g q h2)
def mR_readWord_L4 : Nat → Int32 → Int32 → SR → Option (Int32 × Int32)
  | 0, _, _, _ => none
  | n + 1, x1, x2, u => if (4 : Int32) < x2 then (some ((-1 : Int32), (((R_at u) + x1)))) else ((mR_sameAs (mN_wordOf x2) u).bind fun q1 => (if q1 = (mN_length_8abf5 (mN_wordOf x2)) then (some (x2, (((R_at u) + q1)))) else (mR_readWord_L4 n (zmax x1 q1) (x2 + (1 : Int32)) u)))
set_option maxRecDepth 100000 in
set_option maxHeartbeats 4000000 in
theorem lR_readWord_4 {l : Launch} {D : va_G} {cA : Nat → ClassId} {ad : Nat → Nat} {p : Program} {e : Env} {s : State} {m : MethodId} {args : Array Value} {below : List Frame} {meth : Method} {c : Code} {tK tB : Nat} {kS vS : Nat → Nat} {r : Int32} {w' : Int32}  (hI : zInj ad 9) (hC : zC p s m args meth c cX3_readWord 5 RX3 zTS D (zTy cA) (zAd ad 9) (zE tK tB kS vS)) (hr : meth.sig.returnType = (some .int)) : ∀ (n : Nat) (x1 : Int32) (x2 : Int32) (u : SR), mR_readWord_L4 n x1 x2 u = some (r, w') → zG p l e (zRm 5) s m args below meth c 5 D (zAd ad 9) (MQ below (zQi r (zBw D (wR cA ad (.ref (ad 1)) (.ref (ad 2)) (R_put_at w' u))) (zAd ad 9)) args s 0 0 (zAd ad 9)) (wR cA ad (.ref (ad 1)) (.ref (ad 2)) u) [(0, .ref (ad 0)), (1, .int x1), (2, .int x2)] 4 [] := by
  intro n
  induction n with
  | zero => intro x1 x2 u hm; exact z_none hm
  | succ n ih =>
    intro x1 x2 u hm
    rw [mR_readWord_L4] at hm
    refine z_iload_n hC dX3_readWord_4 rfl 2 rfl ?_
    refine z_iconst hC dX3_readWord_5 kI_4 ?_
    refine z_icmp_gt (tgt := 56) hC hm dX3_readWord_6 (by decide) (fun hm => ?_) (fun hm => ?_)
    · refine z_aload_n hC dX3_readWord_56 rfl 0 rfl ?_
      refine z_dup hC dX3_readWord_57 rfl ?_
      refine gR_X3_25_o (v := (R_at u)) hC dX3_readWord_58 rfl ?_
      refine z_iload_n hC dX3_readWord_61 rfl 1 rfl ?_
      refine z_iadd hC dX3_readWord_62 ?_
      refine pR_X3_25_o hC hI (fun _ h => h) dX3_readWord_63 ?_
      refine zuR (u2 := (R_put_at (((R_at u) + x1)) u)) rfl ?_
      refine z_iconst hC dX3_readWord_66 kI_m1 ?_
      exact riR (fin := fun z => R_put_at z u) hC hr rfl dX3_readWord_67 hm rfl
    · refine z_iload_n hC dX3_readWord_9 rfl 2 rfl ?_
      refine xR_wordOf hC (Nat.le_of_ble_eq_true rfl) dX3_readWord_10 (Nat.le_of_ble_eq_true rfl) ?_
      refine z_astore_n (lv' := [(3, .ref (kS (mN_wordOf x2))), (0, .ref (ad 0)), (1, .int x1), (2, .int x2)]) hC dX3_readWord_13 rfl (by decide) rfl ?_
      refine z_aload_n hC dX3_readWord_14 rfl 1 rfl ?_
      refine z_aload_n hC dX3_readWord_15 rfl 0 rfl ?_
      refine xR_X3_83 (wordOf_lt x2) hI hC (Nat.le_of_ble_eq_true rfl) hm dX3_readWord_16 (Nat.le_of_ble_eq_true rfl) (fun q1 hm => ?_)
      refine z_istore (lv' := [(4, .int q1), (3, .ref (kS (mN_wordOf x2))), (0, .ref (ad 0)), (1, .int x1), (2, .int x2)]) hC dX3_readWord_19 (by decide) rfl ?_
      refine z_iload hC dX3_readWord_21 0 rfl ?_
      refine z_aload_n hC dX3_readWord_23 rfl 1 rfl ?_
      refine xJ_X3_87 (wordOf_lt x2) hC (Nat.le_of_ble_eq_true rfl) dX3_readWord_24 (Nat.le_of_ble_eq_true rfl) ?_
      refine z_icmp_ne (tgt := 43) hC hm dX3_readWord_27 (by decide) (fun hm => ?_) (fun hm => ?_)
      · refine z_aload_n hC dX3_readWord_30 rfl 2 rfl ?_
        refine z_dup hC dX3_readWord_31 rfl ?_
        refine gR_X3_25_o (v := (R_at u)) hC dX3_readWord_32 rfl ?_
        refine z_iload hC dX3_readWord_35 0 rfl ?_
        refine z_iadd hC dX3_readWord_37 ?_
        refine pR_X3_25_o hC hI (fun _ h => h) dX3_readWord_38 ?_
        refine zuR (u2 := (R_put_at (((R_at u) + q1)) u)) rfl ?_
        refine z_iload_n hC dX3_readWord_41 rfl 4 rfl ?_
        exact riR (fin := fun z => R_put_at z u) hC hr rfl dX3_readWord_42 hm rfl
      · refine z_iload_n hC dX3_readWord_43 rfl 3 rfl ?_
        refine z_iload hC dX3_readWord_44 0 rfl ?_
        refine z_max hC mmX3_91 (Nat.le_of_ble_eq_true rfl) (Nat.le_of_ble_eq_true rfl) dX3_readWord_46 ?_
        refine z_istore_n (lv' := [(1, .int (zmax x1 q1)), (4, .int q1), (3, .ref (kS (mN_wordOf x2))), (0, .ref (ad 0)), (2, .int x2)]) hC dX3_readWord_49 rfl (by decide) rfl ?_
        refine z_iinc (lv' := [(2, .int (x2 + (1 : Int32))), (1, .int (zmax x1 q1)), (4, .int q1), (3, .ref (kS (mN_wordOf x2))), (0, .ref (ad 0))]) (k := 4) (v := (x2 + (1 : Int32))) hC dX3_readWord_50 rfl rfl (by decide) rfl ?_
        refine z_goto (tgt := 4) hC dX3_readWord_53 (by decide) ?_
        refine z_lv hC [4, 1, 0] rfl ?_
        exact ih _ _ _ hm
def mR_readWord (u : SR) : Option (Int32 × Int32) :=
  mR_readWord_L4 256 (0 : Int32) (0 : Int32) u
set_option maxRecDepth 100000 in
set_option maxHeartbeats 4000000 in
theorem cR_readWord {l : Launch} {D : va_G} {cA : Nat → ClassId} {ad : Nat → Nat} {tK tB : Nat} {kS vS : Nat → Nat} (hI : zInj ad 9) (u : SR) {r : Int32} {w' : Int32} (hm : mR_readWord u = some (r, w')) : Met l yX3_readWord (zWs yX3_readWord cX3_readWord 5 (some .int)) (zRm 5) (va_Pc [.ref (ad 0)] (zPre D (zTy cA) (zE tK tB kS vS) (zAd ad 9) (wR cA ad (.ref (ad 1)) (.ref (ad 2)) u))) (zQi r (zBw D (wR cA ad (.ref (ad 1)) (.ref (ad 2)) (R_put_at w' u))) (zAd ad 9)) 0 0 (zAd ad 9) := by
  refine z_met (lv := [(0, .ref (ad 0))]) plX3 rfl rfl (Nat.le_of_ble_eq_true rfl) rfl ?_
  intro p e s m below meth c hC hr hin
  unfold mR_readWord at hm
  refine z_iconst hC dX3_readWord_0 kI_0 ?_
  refine z_istore_n (lv' := [(1, .int (0 : Int32)), (0, .ref (ad 0))]) hC dX3_readWord_1 rfl (by decide) rfl ?_
  refine z_iconst hC dX3_readWord_2 kI_0 ?_
  refine z_istore_n (lv' := [(2, .int (0 : Int32)), (1, .int (0 : Int32)), (0, .ref (ad 0))]) hC dX3_readWord_3 rfl (by decide) rfl ?_
  refine z_lv hC [2, 1, 0] rfl ?_
  exact lR_readWord_4 hI hC hr _ _ _ _ hm
def R_put_at_h_late (p : Int32 × Int32) (u : SR) : SR := (((u.1.1.1, (p.1, p.2)), u.1.2), u.2)
theorem xR_X3_58 {p : Program} {l : Launch} {e : Env} {s : State} {m : MethodId} {args : Array Value} {below : List Frame} {meth : Method} {c : Code} {Q : State → Prop} {D : va_G} {A : Nat → Prop} {cc : ByteArray} {nL : Nat} {lv : List (Nat × Value)} {pc : Nat} {st : List Value} {cA : Nat → ClassId} {ad : Nat → Nat} {tK tB : Nat} {kS vS : Nat → Nat} {d : Nat} {u : SR} (hI : zInj ad 9) (C : zC p s m args meth c cc nL RX3 zTS D (zTy cA) A (zE tK tB kS vS)) (hdm : 0 + 1 ≤ d) (hA : ∀ q, zAd ad 9 q → A q) {β : Type} {f : (Int32 × Int32) → Option β} {o : β} (hm : (mR_readNumber u).bind f = some o) (hd : decode cc pc = .ok (.invokevirtual 58, 3)) (h8 : (st.map fun v => v.category).sum ≤ 8) (g : ∀ q, f q = some o → zG p l e (zRm d) s m args below meth c nL D A Q (wR cA ad (.ref (ad 1)) (.ref (ad 2)) (R_put_at q.2 u)) lv (pc + 3) (.int q.1 :: st)) : zG p l e (zRm d) s m args below meth c nL D A Q (wR cA ad (.ref (ad 1)) (.ref (ad 2)) u) lv pc (.ref (ad 0) :: st) := by
  obtain ⟨q, h1, h2⟩ := zb_some hm
  exact z_calliV C (cR_readNumber (ad := ad) (cA := cA) hI  u h1) (cwX3_58 C.1.2.2.2.2 rfl rfl ⟨hdm, by have := hdm; simp only [zRm]; omega⟩) hd rfl rfl h8 ⟨_, rfl, rfl⟩ (List.mem_of_getElem? (heR_o cA ad _ _ u)) (fun _ h => h) hA zJ_same (g q h2)
theorem gR_X3_28_o {p : Program} {l : Launch} {e : Env} {R : Room} {s : State} {m : MethodId} {args : Array Value} {below : List Frame} {meth : Method} {c : Code} {Q : State → Prop} {D : va_G} {A : Nat → Prop} {cc : ByteArray} {nL : Nat} {lv : List (Nat × Value)} {pc : Nat} {st : List Value} {cA : Nat → ClassId} {ad : Nat → Nat} {E : zEt} {vT : Value} {vH : Value} {u : SR} (C : zC p s m args meth c cc nL RX3 zTS D (zTy cA) A E) (hd : decode cc pc = .ok (.getfield 28, 3)) (g : zG p l e R s m args below meth c nL D A Q (wR cA ad vT vH u) lv (pc + 3) (vH :: st)) : zG p l e R s m args below meth c nL D A Q (wR cA ad vT vH u) lv pc (.ref (ad 0) :: st) := by
  exact fun H locs ls hP hS hL => va_get (D := D) (ci := 3) (C := RX3) (T := TX3) (N := 4) C.1.1 C.1.2.1 C.1.2.2.2.2 inlX3 C.1.2.2.2.1 C.2.1 hP 0 (heR_o cA ad vT vH u) rfl 3 (by decide) (C.1.2.2.2.2 _ mfX3_28) (fun _ h9 => h9) (v := vH) rfl hd (g H locs ls hP hS hL)
theorem pR_X3_98_h {p : Program} {l : Launch} {e : Env} {R : Room} {s : State} {m : MethodId} {args : Array Value} {below : List Frame} {meth : Method} {c : Code} {Q : State → Prop} {D : va_G} {A : Nat → Prop} {cc : ByteArray} {nL : Nat} {lv : List (Nat × Value)} {pc : Nat} {st : List Value} {cA : Nat → ClassId} {ad : Nat → Nat} {E : zEt} {vT : Value} {vH : Value} {u : SR} {v : Int32} (C : zC p s m args meth c cc nL RX3 zTS D (zTy cA) A E) (hI : zInj ad 9) (hA : ∀ q, zAd ad 9 q → A q) (hd : decode cc pc = .ok (.putfield 98, 3)) (g : zG p l e R s m args below meth c nL D A Q (wR cA ad vT vH (R_set_h_late v u)) lv (pc + 3) st) : zG p l e R s m args below meth c nL D A Q (wR cA ad vT vH u) lv pc (.int v :: .ref (ad 2) :: st) := fun H locs ls hP hS hL => va_put (D := D) (ci := 1) (C := RX1) (T := TX1) (N := 9) C.1.1 C.1.2.1 C.1.2.2.2.2 inlX1 tyX1 tyX1_ok nmX1 C.1.2.2.2.1 C.2.1 hP (zD_mono (wR_D hI cA vT vH u) hA) hS 2 (heR_h cA ad vT vH u) rfl 2 (by decide) (C.1.2.2.2.2 _ mfX3_98) (fun _ h9 => h9) rfl (ty := .int) (by decide +kernel) rfl rfl (Nat.le_of_ble_eq_true rfl) hd (fun H1 locs1 hP1 _ hS1 => g H1 locs1 ls hP1 hS1 hL)
def mR_readLate (u : SR) : Option (Int32 × Int32 × Int32) :=
  (mR_skip (32 : Int32) u).bind fun q1 => (if q1.1 = 0 then (some ((0 : Int32), (q1.2, (R_h_late u)))) else ((mR_readNumber (R_put_at_h_late (q1.2, (R_h_late u)) u)).bind fun q2 => (if 0 ≤ q2.1 then (some ((1 : Int32), (q2.2, q2.1))) else (some ((0 : Int32), (q2.2, (R_h_late u)))))))
set_option maxRecDepth 100000 in
set_option maxHeartbeats 4000000 in
theorem cR_readLate {l : Launch} {D : va_G} {cA : Nat → ClassId} {ad : Nat → Nat} {tK tB : Nat} {kS vS : Nat → Nat} (hI : zInj ad 9) (u : SR) {r : Int32} {w' : Int32 × Int32} (hm : mR_readLate u = some (r, w')) : Met l yX3_readLate (zWs yX3_readLate cX3_readLate 2 (some .boolean)) (zRm 1) (va_Pc [.ref (ad 0)] (zPre D (zTy cA) (zE tK tB kS vS) (zAd ad 9) (wR cA ad (.ref (ad 1)) (.ref (ad 2)) u))) (zQi r (zBw D (wR cA ad (.ref (ad 1)) (.ref (ad 2)) (R_put_at_h_late w' u))) (zAd ad 9)) 0 0 (zAd ad 9) := by
  refine z_met (lv := [(0, .ref (ad 0))]) plX3 rfl rfl (Nat.le_of_ble_eq_true rfl) rfl ?_
  intro p e s m below meth c hC hr hin
  unfold mR_readLate at hm
  refine z_aload_n hC dX3_readLate_0 rfl 0 rfl ?_
  refine z_bipush hC dX3_readLate_1 kB_32 ?_
  refine xR_X3_41 hI hC (Nat.le_of_ble_eq_true rfl) (fun _ h => h) hm dX3_readLate_3 (Nat.le_of_ble_eq_true rfl) (fun q1 hm => ?_)
  refine zuR (u2 := (R_put_at_h_late (q1.2, (R_h_late u)) u)) rfl ?_
  refine z_if_ne (tgt := 11) hC hm dX3_readLate_6 (by decide) (fun hm => ?_) (fun hm => ?_)
  · refine z_iconst hC dX3_readLate_9 kI_0 ?_
    exact riR (fin := fun z => R_put_at_h_late z u) hC hr rfl dX3_readLate_10 hm rfl
  · refine z_aload_n hC dX3_readLate_11 rfl 0 rfl ?_
    refine xR_X3_58 hI hC (Nat.le_of_ble_eq_true rfl) (fun _ h => h) hm dX3_readLate_12 (Nat.le_of_ble_eq_true rfl) (fun q2 hm => ?_)
    refine zuR (u2 := (R_put_at_h_late (q2.2, (R_h_late u)) u)) rfl ?_
    refine z_istore_n (lv' := [(1, .int q2.1), (0, .ref (ad 0))]) hC dX3_readLate_15 rfl (by decide) rfl ?_
    refine z_iload_n hC dX3_readLate_16 rfl 0 rfl ?_
    refine z_if_ge (tgt := 22) hC hm dX3_readLate_17 (by decide) (fun hm => ?_) (fun hm => ?_)
    · refine z_aload_n hC dX3_readLate_22 rfl 1 rfl ?_
      refine gR_X3_28_o hC dX3_readLate_23 ?_
      refine z_iload_n hC dX3_readLate_26 rfl 0 rfl ?_
      refine pR_X3_98_h hC hI (fun _ h => h) dX3_readLate_27 ?_
      refine zuR (u2 := (R_put_at_h_late (q2.2, q2.1) u)) rfl ?_
      refine z_iconst hC dX3_readLate_30 kI_1 ?_
      exact riR (fin := fun z => R_put_at_h_late z u) hC hr rfl dX3_readLate_31 hm rfl
    · refine z_iconst hC dX3_readLate_20 kI_0 ?_
      exact riR (fin := fun z => R_put_at_h_late z u) hC hr rfl dX3_readLate_21 hm rfl
theorem xR_X3_100 {p : Program} {l : Launch} {e : Env} {s : State} {m : MethodId} {args : Array Value} {below : List Frame} {meth : Method} {c : Code} {Q : State → Prop} {D : va_G} {A : Nat → Prop} {cc : ByteArray} {nL : Nat} {lv : List (Nat × Value)} {pc : Nat} {st : List Value} {cA : Nat → ClassId} {ad : Nat → Nat} {tK tB : Nat} {kS vS : Nat → Nat} {d : Nat} {x1 : Int32} {u : SR} (hI : zInj ad 9) (C : zC p s m args meth c cc nL RX3 zTS D (zTy cA) A (zE tK tB kS vS)) (hdm : 1 + 1 ≤ d) (hA : ∀ q, zAd ad 9 q → A q) {β : Type} {f : (Int32 × Int32) → Option β} {o : β} (hm : (mR_readPart x1 u).bind f = some o) (hd : decode cc pc = .ok (.invokevirtual 100, 3)) (h8 : (st.map fun v => v.category).sum ≤ 8) (g : ∀ q, f q = some o → zG p l e (zRm d) s m args below meth c nL D A Q (wR cA ad (.ref (ad 1)) (.ref (ad 2)) (R_put_at q.2 u)) lv (pc + 3) (.int q.1 :: st)) : zG p l e (zRm d) s m args below meth c nL D A Q (wR cA ad (.ref (ad 1)) (.ref (ad 2)) u) lv pc (.int x1 :: .ref (ad 0) :: st) := by
  obtain ⟨q, h1, h2⟩ := zb_some hm
  exact z_calliV C (cR_readPart (ad := ad) (cA := cA) hI x1 u h1) (cwX3_100 C.1.2.2.2.2 rfl rfl ⟨hdm, by have := hdm; simp only [zRm]; omega⟩) hd rfl rfl h8 ⟨_, rfl, rfl⟩ (List.mem_of_getElem? (heR_o cA ad _ _ u)) (fun _ h => h) hA zJ_same (g q h2)
def R_put_at_h_sounds (p : Int32 × (Nat → Int32)) (u : SR) : SR := (((u.1.1.1, (p.1, u.1.1.2.2)), u.1.2), ((p.2, u.2.1.2), u.2.2))
theorem gR_X3_104_h {p : Program} {l : Launch} {e : Env} {R : Room} {s : State} {m : MethodId} {args : Array Value} {below : List Frame} {meth : Method} {c : Code} {Q : State → Prop} {D : va_G} {A : Nat → Prop} {cc : ByteArray} {nL : Nat} {lv : List (Nat × Value)} {pc : Nat} {st : List Value} {cA : Nat → ClassId} {ad : Nat → Nat} {E : zEt} {vT : Value} {vH : Value} {u : SR} (C : zC p s m args meth c cc nL RX3 zTS D (zTy cA) A E) (hd : decode cc pc = .ok (.getfield 104, 3)) (g : zG p l e R s m args below meth c nL D A Q (wR cA ad vT vH u) lv (pc + 3) (.ref (ad 3) :: st)) : zG p l e R s m args below meth c nL D A Q (wR cA ad vT vH u) lv pc (.ref (ad 2) :: st) := by
  exact fun H locs ls hP hS hL => va_get (D := D) (ci := 1) (C := RX1) (T := TX1) (N := 9) C.1.1 C.1.2.1 C.1.2.2.2.2 inlX1 C.1.2.2.2.1 C.2.1 hP 2 (heR_h cA ad vT vH u) rfl 0 (by decide) (C.1.2.2.2.2 _ mfX3_104) (fun _ h9 => h9) (v := .ref (ad 3)) rfl hd (g H locs ls hP hS hL)
theorem sR_h_sounds {p : Program} {l : Launch} {e : Env} {R : Room} {s : State} {m : MethodId} {args : Array Value} {below : List Frame} {meth : Method} {c : Code} {Q : State → Prop} {D : va_G} {A : Nat → Prop} {cc : ByteArray} {nL : Nat} {lv : List (Nat × Value)} {pc : Nat} {st : List Value} {cA : Nat → ClassId} {ad : Nat → Nat} {E : zEt} {vT : Value} {vH : Value} {own : String} {u : SR} {i : Int32} {x : Int32} {β : Type} {k : Option β} {r : β} (C : zC p s m args meth c cc nL own zTS D (zTy cA) A E) (hI : zInj ad 9) (hA : ∀ q, zAd ad 9 q → A q) (hm : zgi i 20 k = some r) (hd : decode cc pc = .ok (.iastore, 1)) (g : k = some r → zG p l e R s m args below meth c nL D A Q (wR cA ad vT vH (R_set_h_sounds (upd (R_h_sounds u) i.toNatClampNeg x) u)) lv (pc + 1) st) : zG p l e R s m args below meth c nL D A Q (wR cA ad vT vH u) lv pc (.int x :: .int i :: .ref (ad 3) :: st) := fun H locs ls hP hS hL => va_iast C.1.1 C.1.2.1 C.2.1 hP (zD_mono (wR_D hI cA vT vH u) hA) hS 3 0 (heR_h_sounds cA ad vT vH u) rfl (zgi_some hm).1 hd (fun H1 locs1 hP1 _ hS1 => g (zgi_some hm).2 H1 locs1 ls hP1 hS1 hL)
def mR_readHears_J35 (x1 : Int32) (x2 : Int32) (s0 : Int32) (u : SR) : Option (Int32 × Int32 × (Nat → Int32)) :=
  if 0 ≤ s0 then (zgi ((x2 * (10 : Int32)) + x1) 20 (some ((1 : Int32), ((R_at u), (upd (R_h_sounds u) (((x2 * (10 : Int32)) + x1)).toNatClampNeg s0))))) else (some ((0 : Int32), ((R_at u), (R_h_sounds u))))
set_option maxRecDepth 100000 in
set_option maxHeartbeats 4000000 in
theorem jR_readHears_35 {l : Launch} {D : va_G} {cA : Nat → ClassId} {ad : Nat → Nat} {p : Program} {e : Env} {s : State} {m : MethodId} {args : Array Value} {below : List Frame} {meth : Method} {c : Code} {tK tB : Nat} {kS vS : Nat → Nat} {r : Int32} {w' : Int32 × (Nat → Int32)}  {x1 : Int32} {x2 : Int32} {s0 : Int32} {u : SR} (hI : zInj ad 9) (hC : zC p s m args meth c cX3_readHears 4 RX3 zTS D (zTy cA) (zAd ad 9) (zE tK tB kS vS)) (hr : meth.sig.returnType = (some .boolean)) (hm : mR_readHears_J35 x1 x2 s0 u = some (r, w')) : zG p l e (zRm 2) s m args below meth c 4 D (zAd ad 9) (MQ below (zQi r (zBw D (wR cA ad (.ref (ad 1)) (.ref (ad 2)) (R_put_at_h_sounds w' u))) (zAd ad 9)) args s 0 0 (zAd ad 9)) (wR cA ad (.ref (ad 1)) (.ref (ad 2)) u) [(0, .ref (ad 0)), (1, .int x1), (2, .int x2)] 35 [.int s0] := by
  unfold mR_readHears_J35 at hm
  refine z_istore_n (lv' := [(3, .int s0), (0, .ref (ad 0)), (1, .int x1), (2, .int x2)]) hC dX3_readHears_35 rfl (by decide) rfl ?_
  refine z_iload_n hC dX3_readHears_36 rfl 0 rfl ?_
  refine z_if_ge (tgt := 42) hC hm dX3_readHears_37 (by decide) (fun hm => ?_) (fun hm => ?_)
  · refine z_aload_n hC dX3_readHears_42 rfl 1 rfl ?_
    refine gR_X3_28_o hC dX3_readHears_43 ?_
    refine gR_X3_104_h hC dX3_readHears_46 ?_
    refine z_iload_n hC dX3_readHears_49 rfl 3 rfl ?_
    refine z_bipush hC dX3_readHears_50 kB_10 ?_
    refine z_imul hC dX3_readHears_52 ?_
    refine z_iload_n hC dX3_readHears_53 rfl 2 rfl ?_
    refine z_iadd hC dX3_readHears_54 ?_
    refine z_iload_n hC dX3_readHears_55 rfl 0 rfl ?_
    refine sR_h_sounds hC hI (fun _ h => h) hm dX3_readHears_56 (fun hm => ?_)
    refine zuR (u2 := (R_put_at_h_sounds ((R_at u), (upd (R_h_sounds u) (((x2 * (10 : Int32)) + x1)).toNatClampNeg s0)) u)) rfl ?_
    refine z_iconst hC dX3_readHears_57 kI_1 ?_
    exact riR (fin := fun z => R_put_at_h_sounds z u) hC hr rfl dX3_readHears_58 hm rfl
  · refine z_iconst hC dX3_readHears_40 kI_0 ?_
    exact riR (fin := fun z => R_put_at_h_sounds z u) hC hr rfl dX3_readHears_41 hm rfl
def mR_readHears_J20 (x1 : Int32) (s0 : Int32) (u : SR) : Option (Int32 × Int32 × (Nat → Int32)) :=
  if 0 ≤ s0 then ((mR_readPart (9 : Int32) u).bind fun q3 => (mR_readHears_J35 x1 s0 q3.1 (R_put_at_h_sounds (q3.2, (R_h_sounds u)) u))) else (mR_readHears_J35 x1 s0 (-1 : Int32) u)
set_option maxRecDepth 100000 in
set_option maxHeartbeats 4000000 in
theorem jR_readHears_20 {l : Launch} {D : va_G} {cA : Nat → ClassId} {ad : Nat → Nat} {p : Program} {e : Env} {s : State} {m : MethodId} {args : Array Value} {below : List Frame} {meth : Method} {c : Code} {tK tB : Nat} {kS vS : Nat → Nat} {r : Int32} {w' : Int32 × (Nat → Int32)}  {x1 : Int32} {s0 : Int32} {u : SR} (hI : zInj ad 9) (hC : zC p s m args meth c cX3_readHears 4 RX3 zTS D (zTy cA) (zAd ad 9) (zE tK tB kS vS)) (hr : meth.sig.returnType = (some .boolean)) (hm : mR_readHears_J20 x1 s0 u = some (r, w')) : zG p l e (zRm 2) s m args below meth c 4 D (zAd ad 9) (MQ below (zQi r (zBw D (wR cA ad (.ref (ad 1)) (.ref (ad 2)) (R_put_at_h_sounds w' u))) (zAd ad 9)) args s 0 0 (zAd ad 9)) (wR cA ad (.ref (ad 1)) (.ref (ad 2)) u) [(0, .ref (ad 0)), (1, .int x1)] 20 [.int s0] := by
  unfold mR_readHears_J20 at hm
  refine z_istore_n (lv' := [(2, .int s0), (0, .ref (ad 0)), (1, .int x1)]) hC dX3_readHears_20 rfl (by decide) rfl ?_
  refine z_iload_n hC dX3_readHears_21 rfl 0 rfl ?_
  refine z_if_ge (tgt := 29) hC hm dX3_readHears_22 (by decide) (fun hm => ?_) (fun hm => ?_)
  · refine z_aload_n hC dX3_readHears_29 rfl 1 rfl ?_
    refine z_bipush hC dX3_readHears_30 kB_9 ?_
    refine xR_X3_100 hI hC (Nat.le_of_ble_eq_true rfl) (fun _ h => h) hm dX3_readHears_32 (Nat.le_of_ble_eq_true rfl) (fun q3 hm => ?_)
    refine zuR (u2 := (R_put_at_h_sounds (q3.2, (R_h_sounds u)) u)) rfl ?_
    refine z_lv hC [1, 2, 0] rfl ?_
    exact jR_readHears_35 hI hC hr hm
  · refine z_iconst hC dX3_readHears_25 kI_m1 ?_
    refine z_goto (tgt := 35) hC dX3_readHears_26 (by decide) ?_
    refine z_lv hC [1, 2, 0] rfl ?_
    exact jR_readHears_35 hI hC hr hm
def mR_readHears (u : SR) : Option (Int32 × Int32 × (Nat → Int32)) :=
  (mR_readPart (9 : Int32) u).bind fun q1 => (if 0 ≤ q1.1 then ((mR_readPart (1 : Int32) (R_put_at_h_sounds (q1.2, (R_h_sounds u)) u)).bind fun q2 => (mR_readHears_J20 q1.1 q2.1 (R_put_at_h_sounds (q2.2, (R_h_sounds u)) u))) else (mR_readHears_J20 q1.1 (-1 : Int32) (R_put_at_h_sounds (q1.2, (R_h_sounds u)) u)))
set_option maxRecDepth 100000 in
set_option maxHeartbeats 4000000 in
theorem cR_readHears {l : Launch} {D : va_G} {cA : Nat → ClassId} {ad : Nat → Nat} {tK tB : Nat} {kS vS : Nat → Nat} (hI : zInj ad 9) (u : SR) {r : Int32} {w' : Int32 × (Nat → Int32)} (hm : mR_readHears u = some (r, w')) : Met l yX3_readHears (zWs yX3_readHears cX3_readHears 4 (some .boolean)) (zRm 2) (va_Pc [.ref (ad 0)] (zPre D (zTy cA) (zE tK tB kS vS) (zAd ad 9) (wR cA ad (.ref (ad 1)) (.ref (ad 2)) u))) (zQi r (zBw D (wR cA ad (.ref (ad 1)) (.ref (ad 2)) (R_put_at_h_sounds w' u))) (zAd ad 9)) 0 0 (zAd ad 9) := by
  refine z_met (lv := [(0, .ref (ad 0))]) plX3 rfl rfl (Nat.le_of_ble_eq_true rfl) rfl ?_
  intro p e s m below meth c hC hr hin
  unfold mR_readHears at hm
  refine z_aload_n hC dX3_readHears_0 rfl 0 rfl ?_
  refine z_bipush hC dX3_readHears_1 kB_9 ?_
  refine xR_X3_100 hI hC (Nat.le_of_ble_eq_true rfl) (fun _ h => h) hm dX3_readHears_3 (Nat.le_of_ble_eq_true rfl) (fun q1 hm => ?_)
  refine zuR (u2 := (R_put_at_h_sounds (q1.2, (R_h_sounds u)) u)) rfl ?_
  refine z_istore_n (lv' := [(1, .int q1.1), (0, .ref (ad 0))]) hC dX3_readHears_6 rfl (by decide) rfl ?_
  refine z_iload_n hC dX3_readHears_7 rfl 0 rfl ?_
  refine z_if_ge (tgt := 15) hC hm dX3_readHears_8 (by decide) (fun hm => ?_) (fun hm => ?_)
  · refine z_aload_n hC dX3_readHears_15 rfl 1 rfl ?_
    refine z_iconst hC dX3_readHears_16 kI_1 ?_
    refine xR_X3_100 hI hC (Nat.le_of_ble_eq_true rfl) (fun _ h => h) hm dX3_readHears_17 (Nat.le_of_ble_eq_true rfl) (fun q2 hm => ?_)
    refine zuR (u2 := (R_put_at_h_sounds (q2.2, (R_h_sounds u)) u)) rfl ?_
    refine z_lv hC [1, 0] rfl ?_
    exact jR_readHears_20 hI hC hr hm
  · refine z_iconst hC dX3_readHears_11 kI_m1 ?_
    refine z_goto (tgt := 20) hC dX3_readHears_12 (by decide) ?_
    refine z_lv hC [1, 0] rfl ?_
    exact jR_readHears_20 hI hC hr hm
def R_put_at_h_swaps (p : Int32 × (Nat → Int32)) (u : SR) : SR := (((u.1.1.1, (p.1, u.1.1.2.2)), u.1.2), ((u.2.1.1, (p.2, u.2.1.2.2)), u.2.2))
theorem gR_X3_108_h {p : Program} {l : Launch} {e : Env} {R : Room} {s : State} {m : MethodId} {args : Array Value} {below : List Frame} {meth : Method} {c : Code} {Q : State → Prop} {D : va_G} {A : Nat → Prop} {cc : ByteArray} {nL : Nat} {lv : List (Nat × Value)} {pc : Nat} {st : List Value} {cA : Nat → ClassId} {ad : Nat → Nat} {E : zEt} {vT : Value} {vH : Value} {u : SR} (C : zC p s m args meth c cc nL RX3 zTS D (zTy cA) A E) (hd : decode cc pc = .ok (.getfield 108, 3)) (g : zG p l e R s m args below meth c nL D A Q (wR cA ad vT vH u) lv (pc + 3) (.ref (ad 4) :: st)) : zG p l e R s m args below meth c nL D A Q (wR cA ad vT vH u) lv pc (.ref (ad 2) :: st) := by
  exact fun H locs ls hP hS hL => va_get (D := D) (ci := 1) (C := RX1) (T := TX1) (N := 9) C.1.1 C.1.2.1 C.1.2.2.2.2 inlX1 C.1.2.2.2.1 C.2.1 hP 2 (heR_h cA ad vT vH u) rfl 1 (by decide) (C.1.2.2.2.2 _ mfX3_108) (fun _ h9 => h9) (v := .ref (ad 4)) rfl hd (g H locs ls hP hS hL)
theorem sR_h_swaps {p : Program} {l : Launch} {e : Env} {R : Room} {s : State} {m : MethodId} {args : Array Value} {below : List Frame} {meth : Method} {c : Code} {Q : State → Prop} {D : va_G} {A : Nat → Prop} {cc : ByteArray} {nL : Nat} {lv : List (Nat × Value)} {pc : Nat} {st : List Value} {cA : Nat → ClassId} {ad : Nat → Nat} {E : zEt} {vT : Value} {vH : Value} {own : String} {u : SR} {i : Int32} {x : Int32} {β : Type} {k : Option β} {r : β} (C : zC p s m args meth c cc nL own zTS D (zTy cA) A E) (hI : zInj ad 9) (hA : ∀ q, zAd ad 9 q → A q) (hm : zgi i 10 k = some r) (hd : decode cc pc = .ok (.iastore, 1)) (g : k = some r → zG p l e R s m args below meth c nL D A Q (wR cA ad vT vH (R_set_h_swaps (upd (R_h_swaps u) i.toNatClampNeg x) u)) lv (pc + 1) st) : zG p l e R s m args below meth c nL D A Q (wR cA ad vT vH u) lv pc (.int x :: .int i :: .ref (ad 4) :: st) := fun H locs ls hP hS hL => va_iast C.1.1 C.1.2.1 C.2.1 hP (zD_mono (wR_D hI cA vT vH u) hA) hS 4 0 (heR_h_swaps cA ad vT vH u) rfl (zgi_some hm).1 hd (fun H1 locs1 hP1 _ hS1 => g (zgi_some hm).2 H1 locs1 ls hP1 hS1 hL)
def mR_readSwap_J21 (x1 : Int32) (s0 : Int32) (u : SR) : Option (Int32 × Int32 × (Nat → Int32)) :=
  if 0 ≤ s0 then (zgi x1 10 (some ((1 : Int32), ((R_at u), (upd (R_h_swaps u) (x1).toNatClampNeg s0))))) else (some ((0 : Int32), ((R_at u), (R_h_swaps u))))
set_option maxRecDepth 100000 in
set_option maxHeartbeats 4000000 in
theorem jR_readSwap_21 {l : Launch} {D : va_G} {cA : Nat → ClassId} {ad : Nat → Nat} {p : Program} {e : Env} {s : State} {m : MethodId} {args : Array Value} {below : List Frame} {meth : Method} {c : Code} {tK tB : Nat} {kS vS : Nat → Nat} {r : Int32} {w' : Int32 × (Nat → Int32)}  {x1 : Int32} {s0 : Int32} {u : SR} (hI : zInj ad 9) (hC : zC p s m args meth c cX3_readSwap 3 RX3 zTS D (zTy cA) (zAd ad 9) (zE tK tB kS vS)) (hr : meth.sig.returnType = (some .boolean)) (hm : mR_readSwap_J21 x1 s0 u = some (r, w')) : zG p l e (zRm 2) s m args below meth c 3 D (zAd ad 9) (MQ below (zQi r (zBw D (wR cA ad (.ref (ad 1)) (.ref (ad 2)) (R_put_at_h_swaps w' u))) (zAd ad 9)) args s 0 0 (zAd ad 9)) (wR cA ad (.ref (ad 1)) (.ref (ad 2)) u) [(0, .ref (ad 0)), (1, .int x1)] 21 [.int s0] := by
  unfold mR_readSwap_J21 at hm
  refine z_istore_n (lv' := [(2, .int s0), (0, .ref (ad 0)), (1, .int x1)]) hC dX3_readSwap_21 rfl (by decide) rfl ?_
  refine z_iload_n hC dX3_readSwap_22 rfl 0 rfl ?_
  refine z_if_ge (tgt := 28) hC hm dX3_readSwap_23 (by decide) (fun hm => ?_) (fun hm => ?_)
  · refine z_aload_n hC dX3_readSwap_28 rfl 1 rfl ?_
    refine gR_X3_28_o hC dX3_readSwap_29 ?_
    refine gR_X3_108_h hC dX3_readSwap_32 ?_
    refine z_iload_n hC dX3_readSwap_35 rfl 2 rfl ?_
    refine z_iload_n hC dX3_readSwap_36 rfl 0 rfl ?_
    refine sR_h_swaps hC hI (fun _ h => h) hm dX3_readSwap_37 (fun hm => ?_)
    refine zuR (u2 := (R_put_at_h_swaps ((R_at u), (upd (R_h_swaps u) (x1).toNatClampNeg s0)) u)) rfl ?_
    refine z_iconst hC dX3_readSwap_38 kI_1 ?_
    exact riR (fin := fun z => R_put_at_h_swaps z u) hC hr rfl dX3_readSwap_39 hm rfl
  · refine z_iconst hC dX3_readSwap_26 kI_0 ?_
    exact riR (fin := fun z => R_put_at_h_swaps z u) hC hr rfl dX3_readSwap_27 hm rfl
def mR_readSwap (u : SR) : Option (Int32 × Int32 × (Nat → Int32)) :=
  (mR_readPart (9 : Int32) u).bind fun q1 => (if 0 ≤ q1.1 then ((mR_readPart (9 : Int32) (R_put_at_h_swaps (q1.2, (R_h_swaps u)) u)).bind fun q2 => (mR_readSwap_J21 q1.1 q2.1 (R_put_at_h_swaps (q2.2, (R_h_swaps u)) u))) else (mR_readSwap_J21 q1.1 (-1 : Int32) (R_put_at_h_swaps (q1.2, (R_h_swaps u)) u)))
set_option maxRecDepth 100000 in
set_option maxHeartbeats 4000000 in
theorem cR_readSwap {l : Launch} {D : va_G} {cA : Nat → ClassId} {ad : Nat → Nat} {tK tB : Nat} {kS vS : Nat → Nat} (hI : zInj ad 9) (u : SR) {r : Int32} {w' : Int32 × (Nat → Int32)} (hm : mR_readSwap u = some (r, w')) : Met l yX3_readSwap (zWs yX3_readSwap cX3_readSwap 3 (some .boolean)) (zRm 2) (va_Pc [.ref (ad 0)] (zPre D (zTy cA) (zE tK tB kS vS) (zAd ad 9) (wR cA ad (.ref (ad 1)) (.ref (ad 2)) u))) (zQi r (zBw D (wR cA ad (.ref (ad 1)) (.ref (ad 2)) (R_put_at_h_swaps w' u))) (zAd ad 9)) 0 0 (zAd ad 9) := by
  refine z_met (lv := [(0, .ref (ad 0))]) plX3 rfl rfl (Nat.le_of_ble_eq_true rfl) rfl ?_
  intro p e s m below meth c hC hr hin
  unfold mR_readSwap at hm
  refine z_aload_n hC dX3_readSwap_0 rfl 0 rfl ?_
  refine z_bipush hC dX3_readSwap_1 kB_9 ?_
  refine xR_X3_100 hI hC (Nat.le_of_ble_eq_true rfl) (fun _ h => h) hm dX3_readSwap_3 (Nat.le_of_ble_eq_true rfl) (fun q1 hm => ?_)
  refine zuR (u2 := (R_put_at_h_swaps (q1.2, (R_h_swaps u)) u)) rfl ?_
  refine z_istore_n (lv' := [(1, .int q1.1), (0, .ref (ad 0))]) hC dX3_readSwap_6 rfl (by decide) rfl ?_
  refine z_iload_n hC dX3_readSwap_7 rfl 0 rfl ?_
  refine z_if_ge (tgt := 15) hC hm dX3_readSwap_8 (by decide) (fun hm => ?_) (fun hm => ?_)
  · refine z_aload_n hC dX3_readSwap_15 rfl 1 rfl ?_
    refine z_bipush hC dX3_readSwap_16 kB_9 ?_
    refine xR_X3_100 hI hC (Nat.le_of_ble_eq_true rfl) (fun _ h => h) hm dX3_readSwap_18 (Nat.le_of_ble_eq_true rfl) (fun q2 hm => ?_)
    refine zuR (u2 := (R_put_at_h_swaps (q2.2, (R_h_swaps u)) u)) rfl ?_
    refine z_lv hC [1, 0] rfl ?_
    exact jR_readSwap_21 hI hC hr hm
  · refine z_iconst hC dX3_readSwap_11 kI_m1 ?_
    refine z_goto (tgt := 21) hC dX3_readSwap_12 (by decide) ?_
    refine z_lv hC [1, 0] rfl ?_
    exact jR_readSwap_21 hI hC hr hm
def mR_readOneOf_J28 (i : Nat) (s0 : Int32) (u : SR) : Option (Int32 × Int32) :=
  if s0 < 0 then (some (s0, ((R_at u)))) else (some (s0, (((R_at u) + (1 : Int32)))))
set_option maxRecDepth 100000 in
set_option maxHeartbeats 4000000 in
theorem jR_readOneOf_28 {l : Launch} {D : va_G} {cA : Nat → ClassId} {ad : Nat → Nat} {p : Program} {e : Env} {s : State} {m : MethodId} {args : Array Value} {below : List Frame} {meth : Method} {c : Code} {tK tB : Nat} {kS vS : Nat → Nat} {r : Int32} {w' : Int32}  {i : Nat} {s0 : Int32} {u : SR} (hI : zInj ad 9 ∧ i < 7) (hC : zC p s m args meth c cX3_readOneOf 3 RX3 zTS D (zTy cA) (zAd ad 9) (zE tK tB kS vS)) (hr : meth.sig.returnType = (some .int)) (hm : mR_readOneOf_J28 i s0 u = some (r, w')) : zG p l e (zRm 4) s m args below meth c 3 D (zAd ad 9) (MQ below (zQi r (zBw D (wR cA ad (.ref (ad 1)) (.ref (ad 2)) (R_put_at w' u))) (zAd ad 9)) args s 0 0 (zAd ad 9)) (wR cA ad (.ref (ad 1)) (.ref (ad 2)) u) [(0, .ref (ad 0))] 28 [.int s0] := by
  unfold mR_readOneOf_J28 at hm
  refine z_istore_n (lv' := [(2, .int s0), (0, .ref (ad 0))]) hC dX3_readOneOf_28 rfl (by decide) rfl ?_
  refine z_iload_n hC dX3_readOneOf_29 rfl 0 rfl ?_
  refine z_if_lt (tgt := 43) hC hm dX3_readOneOf_30 (by decide) (fun hm => ?_) (fun hm => ?_)
  · refine z_iload_n hC dX3_readOneOf_43 rfl 0 rfl ?_
    exact riR (fin := fun z => R_put_at z u) hC hr rfl dX3_readOneOf_44 hm rfl
  · refine z_aload_n hC dX3_readOneOf_33 rfl 1 rfl ?_
    refine z_dup hC dX3_readOneOf_34 rfl ?_
    refine gR_X3_25_o (v := (R_at u)) hC dX3_readOneOf_35 rfl ?_
    refine z_iconst hC dX3_readOneOf_38 kI_1 ?_
    refine z_iadd hC dX3_readOneOf_39 ?_
    refine pR_X3_25_o hC hI.1 (fun _ h => h) dX3_readOneOf_40 ?_
    refine zuR (u2 := (R_put_at (((R_at u) + (1 : Int32))) u)) rfl ?_
    refine z_iload_n hC dX3_readOneOf_43 rfl 0 rfl ?_
    exact riR (fin := fun z => R_put_at z u) hC hr rfl dX3_readOneOf_44 hm rfl
def mR_readOneOf (i : Nat) (u : SR) : Option (Int32 × Int32) :=
  if (R_at u) < (R_length u) then (zgi (R_at u) 100 ((mN_indexOf_0f7a4 i ((R_text u) ((R_at u)).toNatClampNeg)).bind fun q1 => (mR_readOneOf_J28 i q1 u))) else (mR_readOneOf_J28 i (-1 : Int32) u)
set_option maxRecDepth 100000 in
set_option maxHeartbeats 4000000 in
theorem cR_readOneOf {l : Launch} {D : va_G} {cA : Nat → ClassId} {ad : Nat → Nat} {tK tB : Nat} {kS vS : Nat → Nat} {i : Nat} (hI : zInj ad 9 ∧ i < 7) (u : SR) {r : Int32} {w' : Int32} (hm : mR_readOneOf i u = some (r, w')) : Met l yX3_readOneOf (zWs yX3_readOneOf cX3_readOneOf 3 (some .int)) (zRm 4) (va_Pc [.ref (ad 0), .ref (kS i)] (zPre D (zTy cA) (zE tK tB kS vS) (zAd ad 9) (wR cA ad (.ref (ad 1)) (.ref (ad 2)) u))) (zQi r (zBw D (wR cA ad (.ref (ad 1)) (.ref (ad 2)) (R_put_at w' u))) (zAd ad 9)) 0 0 (zAd ad 9) := by
  refine z_met (lv := [(0, .ref (ad 0)), (1, .ref (kS i))]) plX3 rfl rfl (Nat.le_of_ble_eq_true rfl) rfl ?_
  intro p e s m below meth c hC hr hin
  unfold mR_readOneOf at hm
  refine z_aload_n hC dX3_readOneOf_0 rfl 0 rfl ?_
  refine gR_X3_25_o (v := (R_at u)) hC dX3_readOneOf_1 rfl ?_
  refine z_aload_n hC dX3_readOneOf_4 rfl 0 rfl ?_
  refine gR_X3_21_o (v := (R_length u)) hC dX3_readOneOf_5 rfl ?_
  refine z_icmp_lt (tgt := 15) hC hm dX3_readOneOf_8 (by decide) (fun hm => ?_) (fun hm => ?_)
  · refine z_aload_n hC dX3_readOneOf_15 rfl 1 rfl ?_
    refine z_aload_n hC dX3_readOneOf_16 rfl 0 rfl ?_
    refine gR_X3_9_o hC dX3_readOneOf_17 ?_
    refine z_aload_n hC dX3_readOneOf_20 rfl 0 rfl ?_
    refine gR_X3_25_o (v := (R_at u)) hC dX3_readOneOf_21 rfl ?_
    refine aR_text hC hm dX3_readOneOf_24 (fun hm => ?_)
    refine xJ_X3_135 hI.2 hC (Nat.le_of_ble_eq_true rfl) hm dX3_readOneOf_25 (Nat.le_of_ble_eq_true rfl) (fun q1 hm => ?_)
    refine z_lv hC [0] rfl ?_
    exact jR_readOneOf_28 hI hC hr hm
  · refine z_iconst hC dX3_readOneOf_11 kI_m1 ?_
    refine z_goto (tgt := 28) hC dX3_readOneOf_12 (by decide) ?_
    refine z_lv hC [0] rfl ?_
    exact jR_readOneOf_28 hI hC hr hm
theorem xR_X3_126 {p : Program} {l : Launch} {e : Env} {s : State} {m : MethodId} {args : Array Value} {below : List Frame} {meth : Method} {c : Code} {Q : State → Prop} {D : va_G} {A : Nat → Prop} {cc : ByteArray} {nL : Nat} {lv : List (Nat × Value)} {pc : Nat} {st : List Value} {cA : Nat → ClassId} {ad : Nat → Nat} {tK tB : Nat} {kS vS : Nat → Nat} {d : Nat} {i : Nat} {u : SR} (hi : i < 7) (hI : zInj ad 9) (C : zC p s m args meth c cc nL RX3 zTS D (zTy cA) A (zE tK tB kS vS)) (hdm : 4 + 1 ≤ d) (hA : ∀ q, zAd ad 9 q → A q) {β : Type} {f : (Int32 × Int32) → Option β} {o : β} (hm : (mR_readOneOf i u).bind f = some o) (hd : decode cc pc = .ok (.invokevirtual 126, 3)) (h8 : (st.map fun v => v.category).sum ≤ 8) (g : ∀ q, f q = some o → zG p l e (zRm d) s m args below meth c nL D A Q (wR cA ad (.ref (ad 1)) (.ref (ad 2)) (R_put_at q.2 u)) lv (pc + 3) (.int q.1 :: st)) : zG p l e (zRm d) s m args below meth c nL D A Q (wR cA ad (.ref (ad 1)) (.ref (ad 2)) u) lv pc (.ref (kS i) :: .ref (ad 0) :: st) := by
  obtain ⟨q, h1, h2⟩ := zb_some hm
  exact z_calliV C (cR_readOneOf ⟨hI, hi⟩ u h1) (cwX3_126 C.1.2.2.2.2 rfl rfl ⟨hdm, by have := hdm; simp only [zRm]; omega⟩) hd rfl rfl h8 ⟨_, rfl, rfl⟩ (List.mem_of_getElem? (heR_o cA ad _ _ u)) (fun _ h => h) hA zJ_same (g q h2)
def R_put_at_h_stepCount_h_steps (p : Int32 × Int32 × (Nat → Int32)) (u : SR) : SR := (((u.1.1.1, (p.1, u.1.1.2.2)), (u.1.2.1, (p.2.1, u.1.2.2.2))), (u.2.1, (u.2.2.1, (u.2.2.2.1, p.2.2))))
theorem xR_X3_131 {p : Program} {l : Launch} {e : Env} {s : State} {m : MethodId} {args : Array Value} {below : List Frame} {meth : Method} {c : Code} {Q : State → Prop} {D : va_G} {A : Nat → Prop} {cc : ByteArray} {nL : Nat} {lv : List (Nat × Value)} {pc : Nat} {st : List Value} {cA : Nat → ClassId} {ad : Nat → Nat} {tK tB : Nat} {kS vS : Nat → Nat} {vT : Value} {vH : Value} {d : Nat} {x0 : Int32} {x1 : Int32} {x2 : Int32} {u : SR} (hI : zInj ad 9) (C : zC p s m args meth c cc nL RX3 zTS D (zTy cA) A (zE tK tB kS vS)) (hdm : 0 + 1 ≤ d) (hd : decode cc pc = .ok (.invokestatic 131, 3)) (h8 : (st.map fun v => v.category).sum ≤ 8) (g : zG p l e (zRm d) s m args below meth c nL D A Q (wR cA ad vT vH u) lv (pc + 3) (.int (mN_testStep x0 x1 x2) :: st)) : zG p l e (zRm d) s m args below meth c nL D A Q (wR cA ad vT vH u) lv pc (.int x2 :: .int x1 :: .int x0 :: st) :=
  z_calliN C (cN_testStep (ad := (fun i => i)) (cA := cA) zInj0 x0 x1 x2 () rfl) (cwX3_131 C.1.2.2.2.2 (C.2.2.2.2.2.2.2.2.2.2.1 (RX3, 131, yX1_testStep) (List.mem_of_getElem? (i := 0) rfl)) rfl rfl ⟨hdm, by have := hdm; simp only [zRm]; omega⟩) hd rfl rfl h8 (fun _ h => nomatch h) (fun _ h => h.elim) zJ_ro g
def R_toH2 (u : SR) : SH := (((R_h_late u, R_h_clauses u), (R_h_stepCount u, R_h_sounds u)), ((R_h_swaps u, R_h_senses u), (R_h_amounts u, (R_h_ends u, R_h_steps u))))
theorem bR_toH2 (cA : Nat → ClassId) (ad : Nat → Nat) (vT : Value) (vH : Value) (u : SR) : (wR cA ad vT vH u) = (wR cA ad vT vH u).take 2 ++ ((wH cA (fun i => ad (2 + i)) (R_toH2 u)) ++ (wR cA ad vT vH u).drop (2 + 7)) := rfl
theorem xR_X3_114_2 {p : Program} {l : Launch} {e : Env} {s : State} {m : MethodId} {args : Array Value} {below : List Frame} {meth : Method} {c : Code} {Q : State → Prop} {D : va_G} {A : Nat → Prop} {cc : ByteArray} {nL : Nat} {lv : List (Nat × Value)} {pc : Nat} {st : List Value} {cA : Nat → ClassId} {ad : Nat → Nat} {tK tB : Nat} {kS vS : Nat → Nat} {vT : Value} {vH : Value} {d : Nat} {x1 : Int32} {u : SR} (hI : zInj ad 9) (C : zC p s m args meth c cc nL RX3 zTS D (zTy cA) A (zE tK tB kS vS)) (hdm : 0 + 1 ≤ d) (hA : ∀ q, zAd ad 9 q → A q) {β : Type} {f : (Int32 × (Nat → Int32)) → Option β} {o : β} (hm : (mH_addStep x1 (R_toH2 u)).bind f = some o) (hd : decode cc pc = .ok (.invokevirtual 114, 3)) (h8 : (st.map fun v => v.category).sum ≤ 8) (g : ∀ q, f q = some o → zG p l e (zRm d) s m args below meth c nL D A Q (wR cA ad vT vH (R_set_h_stepCount q.1 (R_set_h_steps q.2 u))) lv (pc + 3) (st)) : zG p l e (zRm d) s m args below meth c nL D A Q (wR cA ad vT vH u) lv pc (.int x1 :: .ref (ad 2) :: st) := by
  obtain ⟨q, h1, h2⟩ := zb_some hm
  exact z_callvV C (cH_addStep (ad := (fun i => ad (2 + i))) (cA := cA) (zInj_sh (k := 2) (n := 7) hI (by decide)) x1 (R_toH2 u) h1) (cwX3_114 C.1.2.2.2.2 rfl rfl ⟨hdm, by have := hdm; simp only [zRm]; omega⟩) hd rfl rfl h8 ⟨_, rfl, rfl⟩ (List.mem_of_getElem? (heR_h cA ad _ _ u)) (z_blk_mem (bR_toH2 cA ad _ _ u)) (fun q h => hA q (zAd_sh (k := 2) (n := 7) (by decide) q h)) (zJ_blk hI (wR_fst cA ad _ _ u) (by decide) rfl) (g q h2)
def mR_readTest_J34 (x1 : Int32) (x2 : Int32) (s0 : Int32) (u : SR) : Option (Int32 × Int32 × Int32 × (Nat → Int32)) :=
  if 0 ≤ s0 then ((mH_addStep (mN_testStep x1 x2 s0) (R_toH2 u)).bind fun q4 => (some ((1 : Int32), ((R_at u), q4.1, q4.2)))) else (some ((0 : Int32), ((R_at u), (R_h_stepCount u), (R_h_steps u))))
set_option maxRecDepth 100000 in
set_option maxHeartbeats 4000000 in
theorem jR_readTest_34 {l : Launch} {D : va_G} {cA : Nat → ClassId} {ad : Nat → Nat} {p : Program} {e : Env} {s : State} {m : MethodId} {args : Array Value} {below : List Frame} {meth : Method} {c : Code} {tK tB : Nat} {kS vS : Nat → Nat} {r : Int32} {w' : Int32 × Int32 × (Nat → Int32)}  {x1 : Int32} {x2 : Int32} {s0 : Int32} {u : SR} (hI : zInj ad 9) (hC : zC p s m args meth c cX3_readTest 4 RX3 zTS D (zTy cA) (zAd ad 9) (zE tK tB kS vS)) (hr : meth.sig.returnType = (some .boolean)) (hm : mR_readTest_J34 x1 x2 s0 u = some (r, w')) : zG p l e (zRm 5) s m args below meth c 4 D (zAd ad 9) (MQ below (zQi r (zBw D (wR cA ad (.ref (ad 1)) (.ref (ad 2)) (R_put_at_h_stepCount_h_steps w' u))) (zAd ad 9)) args s 0 0 (zAd ad 9)) (wR cA ad (.ref (ad 1)) (.ref (ad 2)) u) [(0, .ref (ad 0)), (1, .int x1), (2, .int x2)] 34 [.int s0] := by
  unfold mR_readTest_J34 at hm
  refine z_istore_n (lv' := [(3, .int s0), (0, .ref (ad 0)), (1, .int x1), (2, .int x2)]) hC dX3_readTest_34 rfl (by decide) rfl ?_
  refine z_iload_n hC dX3_readTest_35 rfl 0 rfl ?_
  refine z_if_ge (tgt := 41) hC hm dX3_readTest_36 (by decide) (fun hm => ?_) (fun hm => ?_)
  · refine z_aload_n hC dX3_readTest_41 rfl 1 rfl ?_
    refine gR_X3_28_o hC dX3_readTest_42 ?_
    refine z_iload_n hC dX3_readTest_45 rfl 2 rfl ?_
    refine z_iload_n hC dX3_readTest_46 rfl 3 rfl ?_
    refine z_iload_n hC dX3_readTest_47 rfl 0 rfl ?_
    refine xR_X3_131 hI hC (Nat.le_of_ble_eq_true rfl) dX3_readTest_48 (Nat.le_of_ble_eq_true rfl) ?_
    refine xR_X3_114_2 hI hC (Nat.le_of_ble_eq_true rfl) (fun _ h => h) hm dX3_readTest_51 (Nat.le_of_ble_eq_true rfl) (fun q4 hm => ?_)
    refine zuR (u2 := (R_put_at_h_stepCount_h_steps ((R_at u), q4.1, q4.2) u)) rfl ?_
    refine z_iconst hC dX3_readTest_54 kI_1 ?_
    exact riR (fin := fun z => R_put_at_h_stepCount_h_steps z u) hC hr rfl dX3_readTest_55 hm rfl
  · refine z_iconst hC dX3_readTest_39 kI_0 ?_
    exact riR (fin := fun z => R_put_at_h_stepCount_h_steps z u) hC hr rfl dX3_readTest_40 hm rfl
def mR_readTest_J21 (x1 : Int32) (s0 : Int32) (u : SR) : Option (Int32 × Int32 × Int32 × (Nat → Int32)) :=
  if 0 ≤ s0 then ((mR_readNumber u).bind fun q3 => (mR_readTest_J34 x1 s0 q3.1 (R_put_at_h_stepCount_h_steps (q3.2, (R_h_stepCount u), (R_h_steps u)) u))) else (mR_readTest_J34 x1 s0 (-1 : Int32) u)
set_option maxRecDepth 100000 in
set_option maxHeartbeats 4000000 in
theorem jR_readTest_21 {l : Launch} {D : va_G} {cA : Nat → ClassId} {ad : Nat → Nat} {p : Program} {e : Env} {s : State} {m : MethodId} {args : Array Value} {below : List Frame} {meth : Method} {c : Code} {tK tB : Nat} {kS vS : Nat → Nat} {r : Int32} {w' : Int32 × Int32 × (Nat → Int32)}  {x1 : Int32} {s0 : Int32} {u : SR} (hI : zInj ad 9) (hC : zC p s m args meth c cX3_readTest 4 RX3 zTS D (zTy cA) (zAd ad 9) (zE tK tB kS vS)) (hr : meth.sig.returnType = (some .boolean)) (hm : mR_readTest_J21 x1 s0 u = some (r, w')) : zG p l e (zRm 5) s m args below meth c 4 D (zAd ad 9) (MQ below (zQi r (zBw D (wR cA ad (.ref (ad 1)) (.ref (ad 2)) (R_put_at_h_stepCount_h_steps w' u))) (zAd ad 9)) args s 0 0 (zAd ad 9)) (wR cA ad (.ref (ad 1)) (.ref (ad 2)) u) [(0, .ref (ad 0)), (1, .int x1)] 21 [.int s0] := by
  unfold mR_readTest_J21 at hm
  refine z_istore_n (lv' := [(2, .int s0), (0, .ref (ad 0)), (1, .int x1)]) hC dX3_readTest_21 rfl (by decide) rfl ?_
  refine z_iload_n hC dX3_readTest_22 rfl 0 rfl ?_
  refine z_if_ge (tgt := 30) hC hm dX3_readTest_23 (by decide) (fun hm => ?_) (fun hm => ?_)
  · refine z_aload_n hC dX3_readTest_30 rfl 1 rfl ?_
    refine xR_X3_58 hI hC (Nat.le_of_ble_eq_true rfl) (fun _ h => h) hm dX3_readTest_31 (Nat.le_of_ble_eq_true rfl) (fun q3 hm => ?_)
    refine zuR (u2 := (R_put_at_h_stepCount_h_steps (q3.2, (R_h_stepCount u), (R_h_steps u)) u)) rfl ?_
    refine z_lv hC [1, 2, 0] rfl ?_
    exact jR_readTest_34 hI hC hr hm
  · refine z_iconst hC dX3_readTest_26 kI_m1 ?_
    refine z_goto (tgt := 34) hC dX3_readTest_27 (by decide) ?_
    refine z_lv hC [1, 2, 0] rfl ?_
    exact jR_readTest_34 hI hC hr hm
def mR_readTest (u : SR) : Option (Int32 × Int32 × Int32 × (Nat → Int32)) :=
  (mR_readOneOf 5 u).bind fun q1 => (if 0 ≤ q1.1 then ((mR_readOneOf 6 (R_put_at_h_stepCount_h_steps (q1.2, (R_h_stepCount u), (R_h_steps u)) u)).bind fun q2 => (mR_readTest_J21 q1.1 q2.1 (R_put_at_h_stepCount_h_steps (q2.2, (R_h_stepCount u), (R_h_steps u)) u))) else (mR_readTest_J21 q1.1 (-1 : Int32) (R_put_at_h_stepCount_h_steps (q1.2, (R_h_stepCount u), (R_h_steps u)) u)))
set_option maxRecDepth 100000 in
set_option maxHeartbeats 4000000 in
theorem cR_readTest {l : Launch} {D : va_G} {cA : Nat → ClassId} {ad : Nat → Nat} {tK tB : Nat} {kS vS : Nat → Nat} (hI : zInj ad 9) (u : SR) {r : Int32} {w' : Int32 × Int32 × (Nat → Int32)} (hm : mR_readTest u = some (r, w')) : Met l yX3_readTest (zWs yX3_readTest cX3_readTest 4 (some .boolean)) (zRm 5) (va_Pc [.ref (ad 0)] (zPre D (zTy cA) (zE tK tB kS vS) (zAd ad 9) (wR cA ad (.ref (ad 1)) (.ref (ad 2)) u))) (zQi r (zBw D (wR cA ad (.ref (ad 1)) (.ref (ad 2)) (R_put_at_h_stepCount_h_steps w' u))) (zAd ad 9)) 0 0 (zAd ad 9) := by
  refine z_met (lv := [(0, .ref (ad 0))]) plX3 rfl rfl (Nat.le_of_ble_eq_true rfl) rfl ?_
  intro p e s m below meth c hC hr hin
  unfold mR_readTest at hm
  refine z_aload_n hC dX3_readTest_0 rfl 0 rfl ?_
  refine z_ldcS5 hC dX3_readTest_1 ?_
  refine xR_X3_126 (by decide) hI hC (Nat.le_of_ble_eq_true rfl) (fun _ h => h) hm dX3_readTest_3 (Nat.le_of_ble_eq_true rfl) (fun q1 hm => ?_)
  refine zuR (u2 := (R_put_at_h_stepCount_h_steps (q1.2, (R_h_stepCount u), (R_h_steps u)) u)) rfl ?_
  refine z_istore_n (lv' := [(1, .int q1.1), (0, .ref (ad 0))]) hC dX3_readTest_6 rfl (by decide) rfl ?_
  refine z_iload_n hC dX3_readTest_7 rfl 0 rfl ?_
  refine z_if_ge (tgt := 15) hC hm dX3_readTest_8 (by decide) (fun hm => ?_) (fun hm => ?_)
  · refine z_aload_n hC dX3_readTest_15 rfl 1 rfl ?_
    refine z_ldcS6 hC dX3_readTest_16 ?_
    refine xR_X3_126 (by decide) hI hC (Nat.le_of_ble_eq_true rfl) (fun _ h => h) hm dX3_readTest_18 (Nat.le_of_ble_eq_true rfl) (fun q2 hm => ?_)
    refine zuR (u2 := (R_put_at_h_stepCount_h_steps (q2.2, (R_h_stepCount u), (R_h_steps u)) u)) rfl ?_
    refine z_lv hC [1, 0] rfl ?_
    exact jR_readTest_21 hI hC hr hm
  · refine z_iconst hC dX3_readTest_11 kI_m1 ?_
    refine z_goto (tgt := 21) hC dX3_readTest_12 (by decide) ?_
    refine z_lv hC [1, 0] rfl ?_
    exact jR_readTest_21 hI hC hr hm
theorem xR_X3_118_o {p : Program} {l : Launch} {e : Env} {s : State} {m : MethodId} {args : Array Value} {below : List Frame} {meth : Method} {c : Code} {Q : State → Prop} {D : va_G} {A : Nat → Prop} {cc : ByteArray} {nL : Nat} {lv : List (Nat × Value)} {pc : Nat} {st : List Value} {cA : Nat → ClassId} {ad : Nat → Nat} {tK tB : Nat} {kS vS : Nat → Nat} {d dF : Nat} {x1 : Int32} {u : SR} {RF : Int32 → SR → Option (Int32 × Int32 × Int32 × (Nat → Int32))} (hRF : ∀ (x1 : Int32) (u : SR) (r : Int32) (w1 : Int32 × Int32 × (Nat → Int32)), RF x1 u = some (r, w1) → Met l yX3_readFactor (zWs yX3_readFactor cX3_readFactor 2 (some .boolean)) (zRm dF) (va_Pc [.ref (ad 0), .int x1] (zPre D (zTy cA) (zE tK tB kS vS) (zAd ad 9) (wR cA ad (.ref (ad 1)) (.ref (ad 2)) u))) (zQi r (zBw D (wR cA ad (.ref (ad 1)) (.ref (ad 2)) (R_put_at_h_stepCount_h_steps w1 u))) (zAd ad 9)) 0 0 (zAd ad 9)) (hI : zInj ad 9) (C : zC p s m args meth c cc nL RX3 zTS D (zTy cA) A (zE tK tB kS vS)) (hdm : dF + 1 ≤ d) (hA : ∀ q, zAd ad 9 q → A q) {β : Type} {f : (Int32 × Int32 × Int32 × (Nat → Int32)) → Option β} {o : β} (hm : (RF x1 u).bind f = some o) (hd : decode cc pc = .ok (.invokevirtual 118, 3)) (h8 : (st.map fun v => v.category).sum ≤ 8) (g : ∀ q, f q = some o → zG p l e (zRm d) s m args below meth c nL D A Q (wR cA ad (.ref (ad 1)) (.ref (ad 2)) (R_put_at_h_stepCount_h_steps q.2 u)) lv (pc + 3) (.int q.1 :: st)) : zG p l e (zRm d) s m args below meth c nL D A Q (wR cA ad (.ref (ad 1)) (.ref (ad 2)) u) lv pc (.int x1 :: .ref (ad 0) :: st) := by
  obtain ⟨q, h1, h2⟩ := zb_some hm
  exact z_calliV C (hRF x1 u q.1 q.2 h1) (cwX3_118 C.1.2.2.2.2 rfl rfl ⟨hdm, by have := hdm; simp only [zRm]; omega⟩) hd rfl rfl h8 ⟨_, rfl, rfl⟩ (List.mem_of_getElem? (heR_o cA ad _ _ u)) (fun _ h => h) hA zJ_same (g q h2)
def mR_readAll_L12 (RF : Int32 → SR → Option (Int32 × Int32 × Int32 × (Nat → Int32))) (x1 : Int32) : Nat → Int32 → SR → Option (Int32 × Int32 × Int32 × (Nat → Int32))
  | 0, _, _ => none
  | n + 1, x2, u => if (R_length u) ≤ x2 then (some ((1 : Int32), ((R_at u), (R_h_stepCount u), (R_h_steps u)))) else ((mR_skip (38 : Int32) u).bind fun q2 => (if q2.1 = 0 then (some ((1 : Int32), (q2.2, (R_h_stepCount u), (R_h_steps u)))) else ((RF x1 (R_put_at_h_stepCount_h_steps (q2.2, (R_h_stepCount u), (R_h_steps u)) u)).bind fun q3 => (if q3.1 = 0 then (some ((0 : Int32), (q3.2.1, q3.2.2.1, q3.2.2.2))) else ((mH_addStep (1 : Int32) (R_toH2 (R_put_at_h_stepCount_h_steps (q3.2.1, q3.2.2.1, q3.2.2.2) u))).bind fun q4 => (mR_readAll_L12 RF x1 n (x2 + (1 : Int32)) (R_put_at_h_stepCount_h_steps (q3.2.1, q4.1, q4.2) u)))))))
set_option maxRecDepth 100000 in
set_option maxHeartbeats 4000000 in
theorem lR_readAll_12 {l : Launch} {D : va_G} {cA : Nat → ClassId} {ad : Nat → Nat} {p : Program} {e : Env} {s : State} {m : MethodId} {args : Array Value} {below : List Frame} {meth : Method} {c : Code} {tK tB : Nat} {kS vS : Nat → Nat} {dF : Nat} {r : Int32} {w' : Int32 × Int32 × (Nat → Int32)}  {RF : Int32 → SR → Option (Int32 × Int32 × Int32 × (Nat → Int32))} {x1 : Int32} (hI : zInj ad 9 ∧ (∀ (x1 : Int32) (u : SR) (r : Int32) (w1 : Int32 × Int32 × (Nat → Int32)), RF x1 u = some (r, w1) → Met l yX3_readFactor (zWs yX3_readFactor cX3_readFactor 2 (some .boolean)) (zRm dF) (va_Pc [.ref (ad 0), .int x1] (zPre D (zTy cA) (zE tK tB kS vS) (zAd ad 9) (wR cA ad (.ref (ad 1)) (.ref (ad 2)) u))) (zQi r (zBw D (wR cA ad (.ref (ad 1)) (.ref (ad 2)) (R_put_at_h_stepCount_h_steps w1 u))) (zAd ad 9)) 0 0 (zAd ad 9))) (hC : zC p s m args meth c cX3_readAll 3 RX3 zTS D (zTy cA) (zAd ad 9) (zE tK tB kS vS)) (hr : meth.sig.returnType = (some .boolean)) : ∀ (n : Nat) (x2 : Int32) (u : SR), mR_readAll_L12 RF x1 n x2 u = some (r, w') → zG p l e (zRm (dF + 6)) s m args below meth c 3 D (zAd ad 9) (MQ below (zQi r (zBw D (wR cA ad (.ref (ad 1)) (.ref (ad 2)) (R_put_at_h_stepCount_h_steps w' u))) (zAd ad 9)) args s 0 0 (zAd ad 9)) (wR cA ad (.ref (ad 1)) (.ref (ad 2)) u) [(0, .ref (ad 0)), (1, .int x1), (2, .int x2)] 12 [] := by
  intro n
  induction n with
  | zero => intro x2 u hm; exact z_none hm
  | succ n ih =>
    intro x2 u hm
    rw [mR_readAll_L12] at hm
    refine z_iload_n hC dX3_readAll_12 rfl 2 rfl ?_
    refine z_aload_n hC dX3_readAll_13 rfl 0 rfl ?_
    refine gR_X3_21_o (v := (R_length u)) hC dX3_readAll_14 rfl ?_
    refine z_icmp_ge (tgt := 53) hC hm dX3_readAll_17 (by decide) (fun hm => ?_) (fun hm => ?_)
    · refine z_iconst hC dX3_readAll_53 kI_1 ?_
      exact riR (fin := fun z => R_put_at_h_stepCount_h_steps z u) hC hr rfl dX3_readAll_54 hm rfl
    · refine z_aload_n hC dX3_readAll_20 rfl 0 rfl ?_
      refine z_bipush hC dX3_readAll_21 kB_38 ?_
      refine xR_X3_41 hI.1 hC (by omega) (fun _ h => h) hm dX3_readAll_23 (Nat.le_of_ble_eq_true rfl) (fun q2 hm => ?_)
      refine zuR (u2 := (R_put_at_h_stepCount_h_steps (q2.2, (R_h_stepCount u), (R_h_steps u)) u)) rfl ?_
      refine z_if_eq (tgt := 53) hC hm dX3_readAll_26 (by decide) (fun hm => ?_) (fun hm => ?_)
      · refine z_iconst hC dX3_readAll_53 kI_1 ?_
        exact riR (fin := fun z => R_put_at_h_stepCount_h_steps z u) hC hr rfl dX3_readAll_54 hm rfl
      · refine z_aload_n hC dX3_readAll_29 rfl 0 rfl ?_
        refine z_iload_n hC dX3_readAll_30 rfl 1 rfl ?_
        refine xR_X3_118_o hI.2 hI.1 hC (by omega) (fun _ h => h) hm dX3_readAll_31 (Nat.le_of_ble_eq_true rfl) (fun q3 hm => ?_)
        refine zuR (u2 := (R_put_at_h_stepCount_h_steps (q3.2.1, q3.2.2.1, q3.2.2.2) u)) rfl ?_
        refine z_if_ne (tgt := 39) hC hm dX3_readAll_34 (by decide) (fun hm => ?_) (fun hm => ?_)
        · refine z_iconst hC dX3_readAll_37 kI_0 ?_
          exact riR (fin := fun z => R_put_at_h_stepCount_h_steps z u) hC hr rfl dX3_readAll_38 hm rfl
        · refine z_aload_n hC dX3_readAll_39 rfl 0 rfl ?_
          refine gR_X3_28_o hC dX3_readAll_40 ?_
          refine z_iconst hC dX3_readAll_43 kI_1 ?_
          refine xR_X3_114_2 hI.1 hC (by omega) (fun _ h => h) hm dX3_readAll_44 (Nat.le_of_ble_eq_true rfl) (fun q4 hm => ?_)
          refine zuR (u2 := (R_put_at_h_stepCount_h_steps (q3.2.1, q4.1, q4.2) u)) rfl ?_
          refine z_iinc (lv' := [(2, .int (x2 + (1 : Int32))), (0, .ref (ad 0)), (1, .int x1)]) (k := 2) (v := (x2 + (1 : Int32))) hC dX3_readAll_47 rfl rfl (by decide) rfl ?_
          refine z_goto (tgt := 12) hC dX3_readAll_50 (by decide) ?_
          refine z_lv hC [1, 2, 0] rfl ?_
          exact ih _ _ hm
def mR_readAll (RF : Int32 → SR → Option (Int32 × Int32 × Int32 × (Nat → Int32))) (x1 : Int32) (u : SR) : Option (Int32 × Int32 × Int32 × (Nat → Int32)) :=
  (RF x1 u).bind fun q1 => (if q1.1 = 0 then (some ((0 : Int32), (q1.2.1, q1.2.2.1, q1.2.2.2))) else (mR_readAll_L12 RF x1 256 (0 : Int32) (R_put_at_h_stepCount_h_steps (q1.2.1, q1.2.2.1, q1.2.2.2) u)))
set_option maxRecDepth 100000 in
set_option maxHeartbeats 4000000 in
theorem cR_readAll {l : Launch} {D : va_G} {cA : Nat → ClassId} {ad : Nat → Nat} {tK tB : Nat} {kS vS : Nat → Nat} {dF : Nat} {RF : Int32 → SR → Option (Int32 × Int32 × Int32 × (Nat → Int32))} (hI : zInj ad 9 ∧ (∀ (x1 : Int32) (u : SR) (r : Int32) (w1 : Int32 × Int32 × (Nat → Int32)), RF x1 u = some (r, w1) → Met l yX3_readFactor (zWs yX3_readFactor cX3_readFactor 2 (some .boolean)) (zRm dF) (va_Pc [.ref (ad 0), .int x1] (zPre D (zTy cA) (zE tK tB kS vS) (zAd ad 9) (wR cA ad (.ref (ad 1)) (.ref (ad 2)) u))) (zQi r (zBw D (wR cA ad (.ref (ad 1)) (.ref (ad 2)) (R_put_at_h_stepCount_h_steps w1 u))) (zAd ad 9)) 0 0 (zAd ad 9))) (x1 : Int32) (u : SR) {r : Int32} {w' : Int32 × Int32 × (Nat → Int32)} (hm : mR_readAll RF x1 u = some (r, w')) : Met l yX3_readAll (zWs yX3_readAll cX3_readAll 3 (some .boolean)) (zRm (dF + 6)) (va_Pc [.ref (ad 0), .int x1] (zPre D (zTy cA) (zE tK tB kS vS) (zAd ad 9) (wR cA ad (.ref (ad 1)) (.ref (ad 2)) u))) (zQi r (zBw D (wR cA ad (.ref (ad 1)) (.ref (ad 2)) (R_put_at_h_stepCount_h_steps w' u))) (zAd ad 9)) 0 0 (zAd ad 9) := by
  refine z_met (lv := [(0, .ref (ad 0)), (1, .int x1)]) plX3 rfl rfl (Nat.le_of_ble_eq_true rfl) rfl ?_
  intro p e s m below meth c hC hr hin
  unfold mR_readAll at hm
  refine z_aload_n hC dX3_readAll_0 rfl 0 rfl ?_
  refine z_iload_n hC dX3_readAll_1 rfl 1 rfl ?_
  refine xR_X3_118_o hI.2 hI.1 hC (by omega) (fun _ h => h) hm dX3_readAll_2 (Nat.le_of_ble_eq_true rfl) (fun q1 hm => ?_)
  refine zuR (u2 := (R_put_at_h_stepCount_h_steps (q1.2.1, q1.2.2.1, q1.2.2.2) u)) rfl ?_
  refine z_if_ne (tgt := 10) hC hm dX3_readAll_5 (by decide) (fun hm => ?_) (fun hm => ?_)
  · refine z_iconst hC dX3_readAll_8 kI_0 ?_
    exact riR (fin := fun z => R_put_at_h_stepCount_h_steps z u) hC hr rfl dX3_readAll_9 hm rfl
  · refine z_iconst hC dX3_readAll_10 kI_0 ?_
    refine z_istore_n (lv' := [(2, .int (0 : Int32)), (0, .ref (ad 0)), (1, .int x1)]) hC dX3_readAll_11 rfl (by decide) rfl ?_
    refine z_lv hC [1, 2, 0] rfl ?_
    exact lR_readAll_12 hI hC hr _ _ _ hm
theorem xR_X3_111_o {p : Program} {l : Launch} {e : Env} {s : State} {m : MethodId} {args : Array Value} {below : List Frame} {meth : Method} {c : Code} {Q : State → Prop} {D : va_G} {A : Nat → Prop} {cc : ByteArray} {nL : Nat} {lv : List (Nat × Value)} {pc : Nat} {st : List Value} {cA : Nat → ClassId} {ad : Nat → Nat} {tK tB : Nat} {kS vS : Nat → Nat} {d dF : Nat} {x1 : Int32} {u : SR} {RF : Int32 → SR → Option (Int32 × Int32 × Int32 × (Nat → Int32))} (hRF : ∀ (x1 : Int32) (u : SR) (r : Int32) (w1 : Int32 × Int32 × (Nat → Int32)), RF x1 u = some (r, w1) → Met l yX3_readAll (zWs yX3_readAll cX3_readAll 3 (some .boolean)) (zRm dF) (va_Pc [.ref (ad 0), .int x1] (zPre D (zTy cA) (zE tK tB kS vS) (zAd ad 9) (wR cA ad (.ref (ad 1)) (.ref (ad 2)) u))) (zQi r (zBw D (wR cA ad (.ref (ad 1)) (.ref (ad 2)) (R_put_at_h_stepCount_h_steps w1 u))) (zAd ad 9)) 0 0 (zAd ad 9)) (hI : zInj ad 9) (C : zC p s m args meth c cc nL RX3 zTS D (zTy cA) A (zE tK tB kS vS)) (hdm : dF + 1 ≤ d) (hA : ∀ q, zAd ad 9 q → A q) {β : Type} {f : (Int32 × Int32 × Int32 × (Nat → Int32)) → Option β} {o : β} (hm : (RF x1 u).bind f = some o) (hd : decode cc pc = .ok (.invokevirtual 111, 3)) (h8 : (st.map fun v => v.category).sum ≤ 8) (g : ∀ q, f q = some o → zG p l e (zRm d) s m args below meth c nL D A Q (wR cA ad (.ref (ad 1)) (.ref (ad 2)) (R_put_at_h_stepCount_h_steps q.2 u)) lv (pc + 3) (.int q.1 :: st)) : zG p l e (zRm d) s m args below meth c nL D A Q (wR cA ad (.ref (ad 1)) (.ref (ad 2)) u) lv pc (.int x1 :: .ref (ad 0) :: st) := by
  obtain ⟨q, h1, h2⟩ := zb_some hm
  exact z_calliV C (hRF x1 u q.1 q.2 h1) (cwX3_111 C.1.2.2.2.2 rfl rfl ⟨hdm, by have := hdm; simp only [zRm]; omega⟩) hd rfl rfl h8 ⟨_, rfl, rfl⟩ (List.mem_of_getElem? (heR_o cA ad _ _ u)) (fun _ h => h) hA zJ_same (g q h2)
def mR_readAny_L12 (RL : Int32 → SR → Option (Int32 × Int32 × Int32 × (Nat → Int32))) (x1 : Int32) : Nat → Int32 → SR → Option (Int32 × Int32 × Int32 × (Nat → Int32))
  | 0, _, _ => none
  | n + 1, x2, u => if (R_length u) ≤ x2 then (some ((1 : Int32), ((R_at u), (R_h_stepCount u), (R_h_steps u)))) else ((mR_skip (124 : Int32) u).bind fun q2 => (if q2.1 = 0 then (some ((1 : Int32), (q2.2, (R_h_stepCount u), (R_h_steps u)))) else ((RL x1 (R_put_at_h_stepCount_h_steps (q2.2, (R_h_stepCount u), (R_h_steps u)) u)).bind fun q3 => (if q3.1 = 0 then (some ((0 : Int32), (q3.2.1, q3.2.2.1, q3.2.2.2))) else ((mH_addStep (2 : Int32) (R_toH2 (R_put_at_h_stepCount_h_steps (q3.2.1, q3.2.2.1, q3.2.2.2) u))).bind fun q4 => (mR_readAny_L12 RL x1 n (x2 + (1 : Int32)) (R_put_at_h_stepCount_h_steps (q3.2.1, q4.1, q4.2) u)))))))
set_option maxRecDepth 100000 in
set_option maxHeartbeats 4000000 in
theorem lR_readAny_12 {l : Launch} {D : va_G} {cA : Nat → ClassId} {ad : Nat → Nat} {p : Program} {e : Env} {s : State} {m : MethodId} {args : Array Value} {below : List Frame} {meth : Method} {c : Code} {tK tB : Nat} {kS vS : Nat → Nat} {dF : Nat} {r : Int32} {w' : Int32 × Int32 × (Nat → Int32)}  {RL : Int32 → SR → Option (Int32 × Int32 × Int32 × (Nat → Int32))} {x1 : Int32} (hI : zInj ad 9 ∧ (∀ (x1 : Int32) (u : SR) (r : Int32) (w1 : Int32 × Int32 × (Nat → Int32)), RL x1 u = some (r, w1) → Met l yX3_readAll (zWs yX3_readAll cX3_readAll 3 (some .boolean)) (zRm dF) (va_Pc [.ref (ad 0), .int x1] (zPre D (zTy cA) (zE tK tB kS vS) (zAd ad 9) (wR cA ad (.ref (ad 1)) (.ref (ad 2)) u))) (zQi r (zBw D (wR cA ad (.ref (ad 1)) (.ref (ad 2)) (R_put_at_h_stepCount_h_steps w1 u))) (zAd ad 9)) 0 0 (zAd ad 9))) (hC : zC p s m args meth c cX3_readAny 3 RX3 zTS D (zTy cA) (zAd ad 9) (zE tK tB kS vS)) (hr : meth.sig.returnType = (some .boolean)) : ∀ (n : Nat) (x2 : Int32) (u : SR), mR_readAny_L12 RL x1 n x2 u = some (r, w') → zG p l e (zRm (dF + 6)) s m args below meth c 3 D (zAd ad 9) (MQ below (zQi r (zBw D (wR cA ad (.ref (ad 1)) (.ref (ad 2)) (R_put_at_h_stepCount_h_steps w' u))) (zAd ad 9)) args s 0 0 (zAd ad 9)) (wR cA ad (.ref (ad 1)) (.ref (ad 2)) u) [(0, .ref (ad 0)), (1, .int x1), (2, .int x2)] 12 [] := by
  intro n
  induction n with
  | zero => intro x2 u hm; exact z_none hm
  | succ n ih =>
    intro x2 u hm
    rw [mR_readAny_L12] at hm
    refine z_iload_n hC dX3_readAny_12 rfl 2 rfl ?_
    refine z_aload_n hC dX3_readAny_13 rfl 0 rfl ?_
    refine gR_X3_21_o (v := (R_length u)) hC dX3_readAny_14 rfl ?_
    refine z_icmp_ge (tgt := 53) hC hm dX3_readAny_17 (by decide) (fun hm => ?_) (fun hm => ?_)
    · refine z_iconst hC dX3_readAny_53 kI_1 ?_
      exact riR (fin := fun z => R_put_at_h_stepCount_h_steps z u) hC hr rfl dX3_readAny_54 hm rfl
    · refine z_aload_n hC dX3_readAny_20 rfl 0 rfl ?_
      refine z_bipush hC dX3_readAny_21 kB_124 ?_
      refine xR_X3_41 hI.1 hC (by omega) (fun _ h => h) hm dX3_readAny_23 (Nat.le_of_ble_eq_true rfl) (fun q2 hm => ?_)
      refine zuR (u2 := (R_put_at_h_stepCount_h_steps (q2.2, (R_h_stepCount u), (R_h_steps u)) u)) rfl ?_
      refine z_if_eq (tgt := 53) hC hm dX3_readAny_26 (by decide) (fun hm => ?_) (fun hm => ?_)
      · refine z_iconst hC dX3_readAny_53 kI_1 ?_
        exact riR (fin := fun z => R_put_at_h_stepCount_h_steps z u) hC hr rfl dX3_readAny_54 hm rfl
      · refine z_aload_n hC dX3_readAny_29 rfl 0 rfl ?_
        refine z_iload_n hC dX3_readAny_30 rfl 1 rfl ?_
        refine xR_X3_111_o hI.2 hI.1 hC (by omega) (fun _ h => h) hm dX3_readAny_31 (Nat.le_of_ble_eq_true rfl) (fun q3 hm => ?_)
        refine zuR (u2 := (R_put_at_h_stepCount_h_steps (q3.2.1, q3.2.2.1, q3.2.2.2) u)) rfl ?_
        refine z_if_ne (tgt := 39) hC hm dX3_readAny_34 (by decide) (fun hm => ?_) (fun hm => ?_)
        · refine z_iconst hC dX3_readAny_37 kI_0 ?_
          exact riR (fin := fun z => R_put_at_h_stepCount_h_steps z u) hC hr rfl dX3_readAny_38 hm rfl
        · refine z_aload_n hC dX3_readAny_39 rfl 0 rfl ?_
          refine gR_X3_28_o hC dX3_readAny_40 ?_
          refine z_iconst hC dX3_readAny_43 kI_2 ?_
          refine xR_X3_114_2 hI.1 hC (by omega) (fun _ h => h) hm dX3_readAny_44 (Nat.le_of_ble_eq_true rfl) (fun q4 hm => ?_)
          refine zuR (u2 := (R_put_at_h_stepCount_h_steps (q3.2.1, q4.1, q4.2) u)) rfl ?_
          refine z_iinc (lv' := [(2, .int (x2 + (1 : Int32))), (0, .ref (ad 0)), (1, .int x1)]) (k := 2) (v := (x2 + (1 : Int32))) hC dX3_readAny_47 rfl rfl (by decide) rfl ?_
          refine z_goto (tgt := 12) hC dX3_readAny_50 (by decide) ?_
          refine z_lv hC [1, 2, 0] rfl ?_
          exact ih _ _ hm
def mR_readAny (RL : Int32 → SR → Option (Int32 × Int32 × Int32 × (Nat → Int32))) (x1 : Int32) (u : SR) : Option (Int32 × Int32 × Int32 × (Nat → Int32)) :=
  (RL x1 u).bind fun q1 => (if q1.1 = 0 then (some ((0 : Int32), (q1.2.1, q1.2.2.1, q1.2.2.2))) else (mR_readAny_L12 RL x1 256 (0 : Int32) (R_put_at_h_stepCount_h_steps (q1.2.1, q1.2.2.1, q1.2.2.2) u)))
set_option maxRecDepth 100000 in
set_option maxHeartbeats 4000000 in
theorem cR_readAny {l : Launch} {D : va_G} {cA : Nat → ClassId} {ad : Nat → Nat} {tK tB : Nat} {kS vS : Nat → Nat} {dF : Nat} {RL : Int32 → SR → Option (Int32 × Int32 × Int32 × (Nat → Int32))} (hI : zInj ad 9 ∧ (∀ (x1 : Int32) (u : SR) (r : Int32) (w1 : Int32 × Int32 × (Nat → Int32)), RL x1 u = some (r, w1) → Met l yX3_readAll (zWs yX3_readAll cX3_readAll 3 (some .boolean)) (zRm dF) (va_Pc [.ref (ad 0), .int x1] (zPre D (zTy cA) (zE tK tB kS vS) (zAd ad 9) (wR cA ad (.ref (ad 1)) (.ref (ad 2)) u))) (zQi r (zBw D (wR cA ad (.ref (ad 1)) (.ref (ad 2)) (R_put_at_h_stepCount_h_steps w1 u))) (zAd ad 9)) 0 0 (zAd ad 9))) (x1 : Int32) (u : SR) {r : Int32} {w' : Int32 × Int32 × (Nat → Int32)} (hm : mR_readAny RL x1 u = some (r, w')) : Met l yX3_readAny (zWs yX3_readAny cX3_readAny 3 (some .boolean)) (zRm (dF + 6)) (va_Pc [.ref (ad 0), .int x1] (zPre D (zTy cA) (zE tK tB kS vS) (zAd ad 9) (wR cA ad (.ref (ad 1)) (.ref (ad 2)) u))) (zQi r (zBw D (wR cA ad (.ref (ad 1)) (.ref (ad 2)) (R_put_at_h_stepCount_h_steps w' u))) (zAd ad 9)) 0 0 (zAd ad 9) := by
  refine z_met (lv := [(0, .ref (ad 0)), (1, .int x1)]) plX3 rfl rfl (Nat.le_of_ble_eq_true rfl) rfl ?_
  intro p e s m below meth c hC hr hin
  unfold mR_readAny at hm
  refine z_aload_n hC dX3_readAny_0 rfl 0 rfl ?_
  refine z_iload_n hC dX3_readAny_1 rfl 1 rfl ?_
  refine xR_X3_111_o hI.2 hI.1 hC (by omega) (fun _ h => h) hm dX3_readAny_2 (Nat.le_of_ble_eq_true rfl) (fun q1 hm => ?_)
  refine zuR (u2 := (R_put_at_h_stepCount_h_steps (q1.2.1, q1.2.2.1, q1.2.2.2) u)) rfl ?_
  refine z_if_ne (tgt := 10) hC hm dX3_readAny_5 (by decide) (fun hm => ?_) (fun hm => ?_)
  · refine z_iconst hC dX3_readAny_8 kI_0 ?_
    exact riR (fin := fun z => R_put_at_h_stepCount_h_steps z u) hC hr rfl dX3_readAny_9 hm rfl
  · refine z_iconst hC dX3_readAny_10 kI_0 ?_
    refine z_istore_n (lv' := [(2, .int (0 : Int32)), (0, .ref (ad 0)), (1, .int x1)]) hC dX3_readAny_11 rfl (by decide) rfl ?_
    refine z_lv hC [1, 2, 0] rfl ?_
    exact lR_readAny_12 hI hC hr _ _ _ hm
theorem xR_X3_121 {p : Program} {l : Launch} {e : Env} {s : State} {m : MethodId} {args : Array Value} {below : List Frame} {meth : Method} {c : Code} {Q : State → Prop} {D : va_G} {A : Nat → Prop} {cc : ByteArray} {nL : Nat} {lv : List (Nat × Value)} {pc : Nat} {st : List Value} {cA : Nat → ClassId} {ad : Nat → Nat} {tK tB : Nat} {kS vS : Nat → Nat} {d : Nat} {u : SR} (hI : zInj ad 9) (C : zC p s m args meth c cc nL RX3 zTS D (zTy cA) A (zE tK tB kS vS)) (hdm : 5 + 1 ≤ d) (hA : ∀ q, zAd ad 9 q → A q) {β : Type} {f : (Int32 × Int32 × Int32 × (Nat → Int32)) → Option β} {o : β} (hm : (mR_readTest u).bind f = some o) (hd : decode cc pc = .ok (.invokevirtual 121, 3)) (h8 : (st.map fun v => v.category).sum ≤ 8) (g : ∀ q, f q = some o → zG p l e (zRm d) s m args below meth c nL D A Q (wR cA ad (.ref (ad 1)) (.ref (ad 2)) (R_put_at_h_stepCount_h_steps q.2 u)) lv (pc + 3) (.int q.1 :: st)) : zG p l e (zRm d) s m args below meth c nL D A Q (wR cA ad (.ref (ad 1)) (.ref (ad 2)) u) lv pc (.ref (ad 0) :: st) := by
  obtain ⟨q, h1, h2⟩ := zb_some hm
  exact z_calliV C (cR_readTest (ad := ad) (cA := cA) hI  u h1) (cwX3_121 C.1.2.2.2.2 rfl rfl ⟨hdm, by have := hdm; simp only [zRm]; omega⟩) hd rfl rfl h8 ⟨_, rfl, rfl⟩ (List.mem_of_getElem? (heR_o cA ad _ _ u)) (fun _ h => h) hA zJ_same (g q h2)
theorem xR_X3_61_o {p : Program} {l : Launch} {e : Env} {s : State} {m : MethodId} {args : Array Value} {below : List Frame} {meth : Method} {c : Code} {Q : State → Prop} {D : va_G} {A : Nat → Prop} {cc : ByteArray} {nL : Nat} {lv : List (Nat × Value)} {pc : Nat} {st : List Value} {cA : Nat → ClassId} {ad : Nat → Nat} {tK tB : Nat} {kS vS : Nat → Nat} {d dF : Nat} {x1 : Int32} {u : SR} {RF : Int32 → SR → Option (Int32 × Int32 × Int32 × (Nat → Int32))} (hRF : ∀ (x1 : Int32) (u : SR) (r : Int32) (w1 : Int32 × Int32 × (Nat → Int32)), RF x1 u = some (r, w1) → Met l yX3_readAny (zWs yX3_readAny cX3_readAny 3 (some .boolean)) (zRm dF) (va_Pc [.ref (ad 0), .int x1] (zPre D (zTy cA) (zE tK tB kS vS) (zAd ad 9) (wR cA ad (.ref (ad 1)) (.ref (ad 2)) u))) (zQi r (zBw D (wR cA ad (.ref (ad 1)) (.ref (ad 2)) (R_put_at_h_stepCount_h_steps w1 u))) (zAd ad 9)) 0 0 (zAd ad 9)) (hI : zInj ad 9) (C : zC p s m args meth c cc nL RX3 zTS D (zTy cA) A (zE tK tB kS vS)) (hdm : dF + 1 ≤ d) (hA : ∀ q, zAd ad 9 q → A q) {β : Type} {f : (Int32 × Int32 × Int32 × (Nat → Int32)) → Option β} {o : β} (hm : (RF x1 u).bind f = some o) (hd : decode cc pc = .ok (.invokevirtual 61, 3)) (h8 : (st.map fun v => v.category).sum ≤ 8) (g : ∀ q, f q = some o → zG p l e (zRm d) s m args below meth c nL D A Q (wR cA ad (.ref (ad 1)) (.ref (ad 2)) (R_put_at_h_stepCount_h_steps q.2 u)) lv (pc + 3) (.int q.1 :: st)) : zG p l e (zRm d) s m args below meth c nL D A Q (wR cA ad (.ref (ad 1)) (.ref (ad 2)) u) lv pc (.int x1 :: .ref (ad 0) :: st) := by
  obtain ⟨q, h1, h2⟩ := zb_some hm
  exact z_calliV C (hRF x1 u q.1 q.2 h1) (cwX3_61 C.1.2.2.2.2 rfl rfl ⟨hdm, by have := hdm; simp only [zRm]; omega⟩) hd rfl rfl h8 ⟨_, rfl, rfl⟩ (List.mem_of_getElem? (heR_o cA ad _ _ u)) (fun _ h => h) hA zJ_same (g q h2)
def mR_readFactor_J44 (RA : Int32 → SR → Option (Int32 × Int32 × Int32 × (Nat → Int32))) (RF : Int32 → SR → Option (Int32 × Int32 × Int32 × (Nat → Int32))) (x1 : Int32) (u : SR) : Option (Int32 × Int32 × Int32 × (Nat → Int32)) :=
  if x1 < (4 : Int32) then ((mR_skip (40 : Int32) u).bind fun q2 => (if q2.1 = 0 then ((RF (x1 + (1 : Int32)) (R_put_at_h_stepCount_h_steps ((q2.2 + (1 : Int32)), (R_h_stepCount u), (R_h_steps u)) u)).bind fun q3 => (if q3.1 = 0 then (some ((0 : Int32), (q3.2.1, q3.2.2.1, q3.2.2.2))) else ((mH_addStep (0 : Int32) (R_toH2 (R_put_at_h_stepCount_h_steps (q3.2.1, q3.2.2.1, q3.2.2.2) u))).bind fun q4 => (some ((1 : Int32), (q3.2.1, q4.1, q4.2)))))) else ((RA (x1 + (1 : Int32)) (R_put_at_h_stepCount_h_steps (q2.2, (R_h_stepCount u), (R_h_steps u)) u)).bind fun q5 => (if q5.1 = 0 then (some ((0 : Int32), (q5.2.1, q5.2.2.1, q5.2.2.2))) else ((mR_skip (41 : Int32) (R_put_at_h_stepCount_h_steps (q5.2.1, q5.2.2.1, q5.2.2.2) u)).bind fun q6 => (if q6.1 = 0 then (some ((0 : Int32), (q6.2, q5.2.2.1, q5.2.2.2))) else (some ((1 : Int32), (q6.2, q5.2.2.1, q5.2.2.2))))))))) else (some ((0 : Int32), ((R_at u), (R_h_stepCount u), (R_h_steps u))))
set_option maxRecDepth 100000 in
set_option maxHeartbeats 4000000 in
theorem jR_readFactor_44 {l : Launch} {D : va_G} {cA : Nat → ClassId} {ad : Nat → Nat} {p : Program} {e : Env} {s : State} {m : MethodId} {args : Array Value} {below : List Frame} {meth : Method} {c : Code} {tK tB : Nat} {kS vS : Nat → Nat} {dF : Nat} {r : Int32} {w' : Int32 × Int32 × (Nat → Int32)}  {RA : Int32 → SR → Option (Int32 × Int32 × Int32 × (Nat → Int32))} {RF : Int32 → SR → Option (Int32 × Int32 × Int32 × (Nat → Int32))} {x1 : Int32} {u : SR} (hI : zInj ad 9 ∧ (∀ (x1 : Int32) (u : SR) (r : Int32) (w1 : Int32 × Int32 × (Nat → Int32)), RA x1 u = some (r, w1) → Met l yX3_readAny (zWs yX3_readAny cX3_readAny 3 (some .boolean)) (zRm (dF + 12)) (va_Pc [.ref (ad 0), .int x1] (zPre D (zTy cA) (zE tK tB kS vS) (zAd ad 9) (wR cA ad (.ref (ad 1)) (.ref (ad 2)) u))) (zQi r (zBw D (wR cA ad (.ref (ad 1)) (.ref (ad 2)) (R_put_at_h_stepCount_h_steps w1 u))) (zAd ad 9)) 0 0 (zAd ad 9)) ∧ (∀ (x1 : Int32) (u : SR) (r : Int32) (w1 : Int32 × Int32 × (Nat → Int32)), RF x1 u = some (r, w1) → Met l yX3_readFactor (zWs yX3_readFactor cX3_readFactor 2 (some .boolean)) (zRm dF) (va_Pc [.ref (ad 0), .int x1] (zPre D (zTy cA) (zE tK tB kS vS) (zAd ad 9) (wR cA ad (.ref (ad 1)) (.ref (ad 2)) u))) (zQi r (zBw D (wR cA ad (.ref (ad 1)) (.ref (ad 2)) (R_put_at_h_stepCount_h_steps w1 u))) (zAd ad 9)) 0 0 (zAd ad 9))) (hC : zC p s m args meth c cX3_readFactor 2 RX3 zTS D (zTy cA) (zAd ad 9) (zE tK tB kS vS)) (hr : meth.sig.returnType = (some .boolean)) (hm : mR_readFactor_J44 RA RF x1 u = some (r, w')) : zG p l e (zRm (dF + 18)) s m args below meth c 2 D (zAd ad 9) (MQ below (zQi r (zBw D (wR cA ad (.ref (ad 1)) (.ref (ad 2)) (R_put_at_h_stepCount_h_steps w' u))) (zAd ad 9)) args s 0 0 (zAd ad 9)) (wR cA ad (.ref (ad 1)) (.ref (ad 2)) u) [(0, .ref (ad 0)), (1, .int x1)] 44 [] := by
  unfold mR_readFactor_J44 at hm
  refine z_iload_n hC dX3_readFactor_44 rfl 1 rfl ?_
  refine z_iconst hC dX3_readFactor_45 kI_4 ?_
  refine z_icmp_lt (tgt := 51) hC hm dX3_readFactor_46 (by decide) (fun hm => ?_) (fun hm => ?_)
  · refine z_aload_n hC dX3_readFactor_51 rfl 0 rfl ?_
    refine z_bipush hC dX3_readFactor_52 kB_40 ?_
    refine xR_X3_41 hI.1 hC (by omega) (fun _ h => h) hm dX3_readFactor_54 (Nat.le_of_ble_eq_true rfl) (fun q2 hm => ?_)
    refine zuR (u2 := (R_put_at_h_stepCount_h_steps (q2.2, (R_h_stepCount u), (R_h_steps u)) u)) rfl ?_
    refine z_if_eq (tgt := 85) hC hm dX3_readFactor_57 (by decide) (fun hm => ?_) (fun hm => ?_)
    · refine z_aload_n hC dX3_readFactor_85 rfl 0 rfl ?_
      refine z_dup hC dX3_readFactor_86 rfl ?_
      refine gR_X3_25_o (v := q2.2) hC dX3_readFactor_87 rfl ?_
      refine z_iconst hC dX3_readFactor_90 kI_1 ?_
      refine z_iadd hC dX3_readFactor_91 ?_
      refine pR_X3_25_o hC hI.1 (fun _ h => h) dX3_readFactor_92 ?_
      refine zuR (u2 := (R_put_at_h_stepCount_h_steps ((q2.2 + (1 : Int32)), (R_h_stepCount u), (R_h_steps u)) u)) rfl ?_
      refine z_aload_n hC dX3_readFactor_95 rfl 0 rfl ?_
      refine z_iload_n hC dX3_readFactor_96 rfl 1 rfl ?_
      refine z_iconst hC dX3_readFactor_97 kI_1 ?_
      refine z_iadd hC dX3_readFactor_98 ?_
      refine xR_X3_118_o hI.2.2 hI.1 hC (by omega) (fun _ h => h) hm dX3_readFactor_99 (Nat.le_of_ble_eq_true rfl) (fun q3 hm => ?_)
      refine zuR (u2 := (R_put_at_h_stepCount_h_steps (q3.2.1, q3.2.2.1, q3.2.2.2) u)) rfl ?_
      refine z_if_ne (tgt := 107) hC hm dX3_readFactor_102 (by decide) (fun hm => ?_) (fun hm => ?_)
      · refine z_iconst hC dX3_readFactor_105 kI_0 ?_
        exact riR (fin := fun z => R_put_at_h_stepCount_h_steps z u) hC hr rfl dX3_readFactor_106 hm rfl
      · refine z_aload_n hC dX3_readFactor_107 rfl 0 rfl ?_
        refine gR_X3_28_o hC dX3_readFactor_108 ?_
        refine z_iconst hC dX3_readFactor_111 kI_0 ?_
        refine xR_X3_114_2 hI.1 hC (by omega) (fun _ h => h) hm dX3_readFactor_112 (Nat.le_of_ble_eq_true rfl) (fun q4 hm => ?_)
        refine zuR (u2 := (R_put_at_h_stepCount_h_steps (q3.2.1, q4.1, q4.2) u)) rfl ?_
        refine z_iconst hC dX3_readFactor_115 kI_1 ?_
        exact riR (fin := fun z => R_put_at_h_stepCount_h_steps z u) hC hr rfl dX3_readFactor_116 hm rfl
    · refine z_aload_n hC dX3_readFactor_60 rfl 0 rfl ?_
      refine z_iload_n hC dX3_readFactor_61 rfl 1 rfl ?_
      refine z_iconst hC dX3_readFactor_62 kI_1 ?_
      refine z_iadd hC dX3_readFactor_63 ?_
      refine xR_X3_61_o hI.2.1 hI.1 hC (by omega) (fun _ h => h) hm dX3_readFactor_64 (Nat.le_of_ble_eq_true rfl) (fun q5 hm => ?_)
      refine zuR (u2 := (R_put_at_h_stepCount_h_steps (q5.2.1, q5.2.2.1, q5.2.2.2) u)) rfl ?_
      refine z_if_eq (tgt := 83) hC hm dX3_readFactor_67 (by decide) (fun hm => ?_) (fun hm => ?_)
      · refine z_iconst hC dX3_readFactor_83 kI_0 ?_
        exact riR (fin := fun z => R_put_at_h_stepCount_h_steps z u) hC hr rfl dX3_readFactor_84 hm rfl
      · refine z_aload_n hC dX3_readFactor_70 rfl 0 rfl ?_
        refine z_bipush hC dX3_readFactor_71 kB_41 ?_
        refine xR_X3_41 hI.1 hC (by omega) (fun _ h => h) hm dX3_readFactor_73 (Nat.le_of_ble_eq_true rfl) (fun q6 hm => ?_)
        refine zuR (u2 := (R_put_at_h_stepCount_h_steps (q6.2, q5.2.2.1, q5.2.2.2) u)) rfl ?_
        refine z_if_eq (tgt := 83) hC hm dX3_readFactor_76 (by decide) (fun hm => ?_) (fun hm => ?_)
        · refine z_iconst hC dX3_readFactor_83 kI_0 ?_
          exact riR (fin := fun z => R_put_at_h_stepCount_h_steps z u) hC hr rfl dX3_readFactor_84 hm rfl
        · refine z_iconst hC dX3_readFactor_79 kI_1 ?_
          refine z_goto (tgt := 84) hC dX3_readFactor_80 (by decide) ?_
          exact riR (fin := fun z => R_put_at_h_stepCount_h_steps z u) hC hr rfl dX3_readFactor_84 hm rfl
  · refine z_iconst hC dX3_readFactor_49 kI_0 ?_
    exact riR (fin := fun z => R_put_at_h_stepCount_h_steps z u) hC hr rfl dX3_readFactor_50 hm rfl
def mR_readFactor (RA : Int32 → SR → Option (Int32 × Int32 × Int32 × (Nat → Int32))) (RF : Int32 → SR → Option (Int32 × Int32 × Int32 × (Nat → Int32))) (x1 : Int32) (u : SR) : Option (Int32 × Int32 × Int32 × (Nat → Int32)) :=
  if (R_length u) ≤ (R_at u) then ((mR_readTest u).bind fun q1 => (zgb q1.1 (some (q1.1, (q1.2.1, q1.2.2.1, q1.2.2.2))))) else (zgi (R_at u) 100 (if ((R_text u) ((R_at u)).toNatClampNeg) = (40 : Int32) then (mR_readFactor_J44 RA RF x1 u) else (zgi (R_at u) 100 (if ((R_text u) ((R_at u)).toNatClampNeg) = (33 : Int32) then (mR_readFactor_J44 RA RF x1 u) else ((mR_readTest u).bind fun q7 => (zgb q7.1 (some (q7.1, (q7.2.1, q7.2.2.1, q7.2.2.2)))))))))
set_option maxRecDepth 100000 in
set_option maxHeartbeats 4000000 in
theorem cR_readFactor {l : Launch} {D : va_G} {cA : Nat → ClassId} {ad : Nat → Nat} {tK tB : Nat} {kS vS : Nat → Nat} {dF : Nat} {RA : Int32 → SR → Option (Int32 × Int32 × Int32 × (Nat → Int32))} {RF : Int32 → SR → Option (Int32 × Int32 × Int32 × (Nat → Int32))} (hI : zInj ad 9 ∧ (∀ (x1 : Int32) (u : SR) (r : Int32) (w1 : Int32 × Int32 × (Nat → Int32)), RA x1 u = some (r, w1) → Met l yX3_readAny (zWs yX3_readAny cX3_readAny 3 (some .boolean)) (zRm (dF + 12)) (va_Pc [.ref (ad 0), .int x1] (zPre D (zTy cA) (zE tK tB kS vS) (zAd ad 9) (wR cA ad (.ref (ad 1)) (.ref (ad 2)) u))) (zQi r (zBw D (wR cA ad (.ref (ad 1)) (.ref (ad 2)) (R_put_at_h_stepCount_h_steps w1 u))) (zAd ad 9)) 0 0 (zAd ad 9)) ∧ (∀ (x1 : Int32) (u : SR) (r : Int32) (w1 : Int32 × Int32 × (Nat → Int32)), RF x1 u = some (r, w1) → Met l yX3_readFactor (zWs yX3_readFactor cX3_readFactor 2 (some .boolean)) (zRm dF) (va_Pc [.ref (ad 0), .int x1] (zPre D (zTy cA) (zE tK tB kS vS) (zAd ad 9) (wR cA ad (.ref (ad 1)) (.ref (ad 2)) u))) (zQi r (zBw D (wR cA ad (.ref (ad 1)) (.ref (ad 2)) (R_put_at_h_stepCount_h_steps w1 u))) (zAd ad 9)) 0 0 (zAd ad 9))) (x1 : Int32) (u : SR) {r : Int32} {w' : Int32 × Int32 × (Nat → Int32)} (hm : mR_readFactor RA RF x1 u = some (r, w')) : Met l yX3_readFactor (zWs yX3_readFactor cX3_readFactor 2 (some .boolean)) (zRm (dF + 18)) (va_Pc [.ref (ad 0), .int x1] (zPre D (zTy cA) (zE tK tB kS vS) (zAd ad 9) (wR cA ad (.ref (ad 1)) (.ref (ad 2)) u))) (zQi r (zBw D (wR cA ad (.ref (ad 1)) (.ref (ad 2)) (R_put_at_h_stepCount_h_steps w' u))) (zAd ad 9)) 0 0 (zAd ad 9) := by
  refine z_met (lv := [(0, .ref (ad 0)), (1, .int x1)]) plX3 rfl rfl (Nat.le_of_ble_eq_true rfl) rfl ?_
  intro p e s m below meth c hC hr hin
  unfold mR_readFactor at hm
  refine z_aload_n hC dX3_readFactor_0 rfl 0 rfl ?_
  refine gR_X3_25_o (v := (R_at u)) hC dX3_readFactor_1 rfl ?_
  refine z_aload_n hC dX3_readFactor_4 rfl 0 rfl ?_
  refine gR_X3_21_o (v := (R_length u)) hC dX3_readFactor_5 rfl ?_
  refine z_icmp_ge (tgt := 39) hC hm dX3_readFactor_8 (by decide) (fun hm => ?_) (fun hm => ?_)
  · refine z_aload_n hC dX3_readFactor_39 rfl 0 rfl ?_
    refine xR_X3_121 hI.1 hC (by omega) (fun _ h => h) hm dX3_readFactor_40 (Nat.le_of_ble_eq_true rfl) (fun q1 hm => ?_)
    refine zuR (u2 := (R_put_at_h_stepCount_h_steps (q1.2.1, q1.2.2.1, q1.2.2.2) u)) rfl ?_
    refine z_g (zgb_some hm) (fun hb hm => ?_)
    exact riR (fin := fun z => R_put_at_h_stepCount_h_steps z u) hC hr (zb_nar hb) dX3_readFactor_43 hm rfl
  · refine z_aload_n hC dX3_readFactor_11 rfl 0 rfl ?_
    refine gR_X3_9_o hC dX3_readFactor_12 ?_
    refine z_aload_n hC dX3_readFactor_15 rfl 0 rfl ?_
    refine gR_X3_25_o (v := (R_at u)) hC dX3_readFactor_16 rfl ?_
    refine aR_text hC hm dX3_readFactor_19 (fun hm => ?_)
    refine z_bipush hC dX3_readFactor_20 kB_40 ?_
    refine z_icmp_eq (tgt := 44) hC hm dX3_readFactor_22 (by decide) (fun hm => ?_) (fun hm => ?_)
    · refine z_lv hC [0, 1] rfl ?_
      exact jR_readFactor_44 hI hC hr hm
    · refine z_aload_n hC dX3_readFactor_25 rfl 0 rfl ?_
      refine gR_X3_9_o hC dX3_readFactor_26 ?_
      refine z_aload_n hC dX3_readFactor_29 rfl 0 rfl ?_
      refine gR_X3_25_o (v := (R_at u)) hC dX3_readFactor_30 rfl ?_
      refine aR_text hC hm dX3_readFactor_33 (fun hm => ?_)
      refine z_bipush hC dX3_readFactor_34 kB_33 ?_
      refine z_icmp_eq (tgt := 44) hC hm dX3_readFactor_36 (by decide) (fun hm => ?_) (fun hm => ?_)
      · refine z_lv hC [0, 1] rfl ?_
        exact jR_readFactor_44 hI hC hr hm
      · refine z_aload_n hC dX3_readFactor_39 rfl 0 rfl ?_
        refine xR_X3_121 hI.1 hC (by omega) (fun _ h => h) hm dX3_readFactor_40 (Nat.le_of_ble_eq_true rfl) (fun q7 hm => ?_)
        refine zuR (u2 := (R_put_at_h_stepCount_h_steps (q7.2.1, q7.2.2.1, q7.2.2.2) u)) rfl ?_
        refine z_g (zgb_some hm) (fun hb hm => ?_)
        exact riR (fin := fun z => R_put_at_h_stepCount_h_steps z u) hC hr (zb_nar hb) dX3_readFactor_43 hm rfl
def mR_F : Nat → Int32 → SR → Option (Int32 × Int32 × Int32 × (Nat → Int32))
  | 0, _, _ => none
  | n + 1, x, u => mR_readFactor (mR_readAny (mR_readAll (mR_F n))) (mR_F n) x u
def mR_dF : Nat → Nat
  | 0 => 0
  | n + 1 => mR_dF n + 18
theorem cR_F {l : Launch} {D : va_G} {cA : Nat → ClassId} {ad : Nat → Nat} {tK tB : Nat} {kS vS : Nat → Nat} (hI : zInj ad 9) : ∀ (n : Nat) (x1 : Int32) (u : SR) (r : Int32) (w1 : Int32 × Int32 × (Nat → Int32)), mR_F n x1 u = some (r, w1) → Met l yX3_readFactor (zWs yX3_readFactor cX3_readFactor 2 (some .boolean)) (zRm (mR_dF n)) (va_Pc [.ref (ad 0), .int x1] (zPre D (zTy cA) (zE tK tB kS vS) (zAd ad 9) (wR cA ad (.ref (ad 1)) (.ref (ad 2)) u))) (zQi r (zBw D (wR cA ad (.ref (ad 1)) (.ref (ad 2)) (R_put_at_h_stepCount_h_steps w1 u))) (zAd ad 9)) 0 0 (zAd ad 9) := by
  intro n
  induction n with
  | zero => intro x1 u r w1 hm; exact z_none hm
  | succ n ih =>
    intro x1 u r w1 hm
    exact cR_readFactor (RA := mR_readAny (mR_readAll (mR_F n))) (RF := mR_F n) ⟨hI, fun x1 u r w1 h => cR_readAny (dF := mR_dF n + 6) ⟨hI, fun x1 u r w1 h => cR_readAll ⟨hI, ih⟩ x1 u h⟩ x1 u h, ih⟩ x1 u hm
def mR_readAnyC (x1 : Int32) (u : SR) : Option (Int32 × Int32 × Int32 × (Nat → Int32)) := mR_readAny (mR_readAll (mR_F 8)) x1 u
theorem cR_readAnyC {l : Launch} {D : va_G} {cA : Nat → ClassId} {ad : Nat → Nat} {tK tB : Nat} {kS vS : Nat → Nat} (hI : zInj ad 9) (x1 : Int32) (u : SR) {r : Int32} {w1 : Int32 × Int32 × (Nat → Int32)} (hm : mR_readAnyC x1 u = some (r, w1)) : Met l yX3_readAny (zWs yX3_readAny cX3_readAny 3 (some .boolean)) (zRm 156) (va_Pc [.ref (ad 0), .int x1] (zPre D (zTy cA) (zE tK tB kS vS) (zAd ad 9) (wR cA ad (.ref (ad 1)) (.ref (ad 2)) u))) (zQi r (zBw D (wR cA ad (.ref (ad 1)) (.ref (ad 2)) (R_put_at_h_stepCount_h_steps w1 u))) (zAd ad 9)) 0 0 (zAd ad 9) :=
  cR_readAny (dF := mR_dF 8 + 6) ⟨hI, fun x1 u r w1 h => cR_readAll ⟨hI, cR_F hI 8⟩ x1 u h⟩ x1 u hm
theorem xR_X3_45 {p : Program} {l : Launch} {e : Env} {s : State} {m : MethodId} {args : Array Value} {below : List Frame} {meth : Method} {c : Code} {Q : State → Prop} {D : va_G} {A : Nat → Prop} {cc : ByteArray} {nL : Nat} {lv : List (Nat × Value)} {pc : Nat} {st : List Value} {cA : Nat → ClassId} {ad : Nat → Nat} {tK tB : Nat} {kS vS : Nat → Nat} {d : Nat} {u : SR} (hI : zInj ad 9) (C : zC p s m args meth c cc nL RX3 zTS D (zTy cA) A (zE tK tB kS vS)) (hdm : 5 + 1 ≤ d) (hA : ∀ q, zAd ad 9 q → A q) {β : Type} {f : (Int32 × Int32) → Option β} {o : β} (hm : (mR_readWord u).bind f = some o) (hd : decode cc pc = .ok (.invokevirtual 45, 3)) (h8 : (st.map fun v => v.category).sum ≤ 8) (g : ∀ q, f q = some o → zG p l e (zRm d) s m args below meth c nL D A Q (wR cA ad (.ref (ad 1)) (.ref (ad 2)) (R_put_at q.2 u)) lv (pc + 3) (.int q.1 :: st)) : zG p l e (zRm d) s m args below meth c nL D A Q (wR cA ad (.ref (ad 1)) (.ref (ad 2)) u) lv pc (.ref (ad 0) :: st) := by
  obtain ⟨q, h1, h2⟩ := zb_some hm
  exact z_calliV C (cR_readWord (ad := ad) (cA := cA) hI  u h1) (cwX3_45 C.1.2.2.2.2 rfl rfl ⟨hdm, by have := hdm; simp only [zRm]; omega⟩) hd rfl rfl h8 ⟨_, rfl, rfl⟩ (List.mem_of_getElem? (heR_o cA ad _ _ u)) (fun _ h => h) hA zJ_same (g q h2)
def R_putm_readClause (p : Int32 × Int32 × Int32 × Int32 × (Nat → Int32) × (Nat → Int32) × (Nat → Int32) × (Nat → Int32) × (Nat → Int32) × (Nat → Int32)) (u : SR) : SR := (((u.1.1.1, (p.1, p.2.1)), (p.2.2.1, (p.2.2.2.1, u.1.2.2.2))), ((p.2.2.2.2.1, (p.2.2.2.2.2.1, p.2.2.2.2.2.2.1)), (p.2.2.2.2.2.2.2.1, (p.2.2.2.2.2.2.2.2.1, p.2.2.2.2.2.2.2.2.2))))
theorem xR_X3_49 {p : Program} {l : Launch} {e : Env} {s : State} {m : MethodId} {args : Array Value} {below : List Frame} {meth : Method} {c : Code} {Q : State → Prop} {D : va_G} {A : Nat → Prop} {cc : ByteArray} {nL : Nat} {lv : List (Nat × Value)} {pc : Nat} {st : List Value} {cA : Nat → ClassId} {ad : Nat → Nat} {tK tB : Nat} {kS vS : Nat → Nat} {d : Nat} {u : SR} (hI : zInj ad 9) (C : zC p s m args meth c cc nL RX3 zTS D (zTy cA) A (zE tK tB kS vS)) (hdm : 1 + 1 ≤ d) (hA : ∀ q, zAd ad 9 q → A q) {β : Type} {f : (Int32 × Int32 × Int32) → Option β} {o : β} (hm : (mR_readLate u).bind f = some o) (hd : decode cc pc = .ok (.invokevirtual 49, 3)) (h8 : (st.map fun v => v.category).sum ≤ 8) (g : ∀ q, f q = some o → zG p l e (zRm d) s m args below meth c nL D A Q (wR cA ad (.ref (ad 1)) (.ref (ad 2)) (R_put_at_h_late q.2 u)) lv (pc + 3) (.int q.1 :: st)) : zG p l e (zRm d) s m args below meth c nL D A Q (wR cA ad (.ref (ad 1)) (.ref (ad 2)) u) lv pc (.ref (ad 0) :: st) := by
  obtain ⟨q, h1, h2⟩ := zb_some hm
  exact z_calliV C (cR_readLate (ad := ad) (cA := cA) hI  u h1) (cwX3_49 C.1.2.2.2.2 rfl rfl ⟨hdm, by have := hdm; simp only [zRm]; omega⟩) hd rfl rfl h8 ⟨_, rfl, rfl⟩ (List.mem_of_getElem? (heR_o cA ad _ _ u)) (fun _ h => h) hA zJ_same (g q h2)
theorem xR_X3_52 {p : Program} {l : Launch} {e : Env} {s : State} {m : MethodId} {args : Array Value} {below : List Frame} {meth : Method} {c : Code} {Q : State → Prop} {D : va_G} {A : Nat → Prop} {cc : ByteArray} {nL : Nat} {lv : List (Nat × Value)} {pc : Nat} {st : List Value} {cA : Nat → ClassId} {ad : Nat → Nat} {tK tB : Nat} {kS vS : Nat → Nat} {d : Nat} {u : SR} (hI : zInj ad 9) (C : zC p s m args meth c cc nL RX3 zTS D (zTy cA) A (zE tK tB kS vS)) (hdm : 2 + 1 ≤ d) (hA : ∀ q, zAd ad 9 q → A q) {β : Type} {f : (Int32 × Int32 × (Nat → Int32)) → Option β} {o : β} (hm : (mR_readHears u).bind f = some o) (hd : decode cc pc = .ok (.invokevirtual 52, 3)) (h8 : (st.map fun v => v.category).sum ≤ 8) (g : ∀ q, f q = some o → zG p l e (zRm d) s m args below meth c nL D A Q (wR cA ad (.ref (ad 1)) (.ref (ad 2)) (R_put_at_h_sounds q.2 u)) lv (pc + 3) (.int q.1 :: st)) : zG p l e (zRm d) s m args below meth c nL D A Q (wR cA ad (.ref (ad 1)) (.ref (ad 2)) u) lv pc (.ref (ad 0) :: st) := by
  obtain ⟨q, h1, h2⟩ := zb_some hm
  exact z_calliV C (cR_readHears (ad := ad) (cA := cA) hI  u h1) (cwX3_52 C.1.2.2.2.2 rfl rfl ⟨hdm, by have := hdm; simp only [zRm]; omega⟩) hd rfl rfl h8 ⟨_, rfl, rfl⟩ (List.mem_of_getElem? (heR_o cA ad _ _ u)) (fun _ h => h) hA zJ_same (g q h2)
theorem xR_X3_55 {p : Program} {l : Launch} {e : Env} {s : State} {m : MethodId} {args : Array Value} {below : List Frame} {meth : Method} {c : Code} {Q : State → Prop} {D : va_G} {A : Nat → Prop} {cc : ByteArray} {nL : Nat} {lv : List (Nat × Value)} {pc : Nat} {st : List Value} {cA : Nat → ClassId} {ad : Nat → Nat} {tK tB : Nat} {kS vS : Nat → Nat} {d : Nat} {u : SR} (hI : zInj ad 9) (C : zC p s m args meth c cc nL RX3 zTS D (zTy cA) A (zE tK tB kS vS)) (hdm : 2 + 1 ≤ d) (hA : ∀ q, zAd ad 9 q → A q) {β : Type} {f : (Int32 × Int32 × (Nat → Int32)) → Option β} {o : β} (hm : (mR_readSwap u).bind f = some o) (hd : decode cc pc = .ok (.invokevirtual 55, 3)) (h8 : (st.map fun v => v.category).sum ≤ 8) (g : ∀ q, f q = some o → zG p l e (zRm d) s m args below meth c nL D A Q (wR cA ad (.ref (ad 1)) (.ref (ad 2)) (R_put_at_h_swaps q.2 u)) lv (pc + 3) (.int q.1 :: st)) : zG p l e (zRm d) s m args below meth c nL D A Q (wR cA ad (.ref (ad 1)) (.ref (ad 2)) u) lv pc (.ref (ad 0) :: st) := by
  obtain ⟨q, h1, h2⟩ := zb_some hm
  exact z_calliV C (cR_readSwap (ad := ad) (cA := cA) hI  u h1) (cwX3_55 C.1.2.2.2.2 rfl rfl ⟨hdm, by have := hdm; simp only [zRm]; omega⟩) hd rfl rfl h8 ⟨_, rfl, rfl⟩ (List.mem_of_getElem? (heR_o cA ad _ _ u)) (fun _ h => h) hA zJ_same (g q h2)
theorem xR_X3_61 {p : Program} {l : Launch} {e : Env} {s : State} {m : MethodId} {args : Array Value} {below : List Frame} {meth : Method} {c : Code} {Q : State → Prop} {D : va_G} {A : Nat → Prop} {cc : ByteArray} {nL : Nat} {lv : List (Nat × Value)} {pc : Nat} {st : List Value} {cA : Nat → ClassId} {ad : Nat → Nat} {tK tB : Nat} {kS vS : Nat → Nat} {d : Nat} {x1 : Int32} {u : SR} (hI : zInj ad 9) (C : zC p s m args meth c cc nL RX3 zTS D (zTy cA) A (zE tK tB kS vS)) (hdm : 156 + 1 ≤ d) (hA : ∀ q, zAd ad 9 q → A q) {β : Type} {f : (Int32 × Int32 × Int32 × (Nat → Int32)) → Option β} {o : β} (hm : (mR_readAnyC x1 u).bind f = some o) (hd : decode cc pc = .ok (.invokevirtual 61, 3)) (h8 : (st.map fun v => v.category).sum ≤ 8) (g : ∀ q, f q = some o → zG p l e (zRm d) s m args below meth c nL D A Q (wR cA ad (.ref (ad 1)) (.ref (ad 2)) (R_put_at_h_stepCount_h_steps q.2 u)) lv (pc + 3) (.int q.1 :: st)) : zG p l e (zRm d) s m args below meth c nL D A Q (wR cA ad (.ref (ad 1)) (.ref (ad 2)) u) lv pc (.int x1 :: .ref (ad 0) :: st) := by
  obtain ⟨q, h1, h2⟩ := zb_some hm
  exact z_calliV C (cR_readAnyC (ad := ad) (cA := cA) hI x1 u h1) (cwX3_61 C.1.2.2.2.2 rfl rfl ⟨hdm, by have := hdm; simp only [zRm]; omega⟩) hd rfl rfl h8 ⟨_, rfl, rfl⟩ (List.mem_of_getElem? (heR_o cA ad _ _ u)) (fun _ h => h) hA zJ_same (g q h2)
theorem xR_X3_65_2 {p : Program} {l : Launch} {e : Env} {s : State} {m : MethodId} {args : Array Value} {below : List Frame} {meth : Method} {c : Code} {Q : State → Prop} {D : va_G} {A : Nat → Prop} {cc : ByteArray} {nL : Nat} {lv : List (Nat × Value)} {pc : Nat} {st : List Value} {cA : Nat → ClassId} {ad : Nat → Nat} {tK tB : Nat} {kS vS : Nat → Nat} {vT : Value} {vH : Value} {d : Nat} {x1 : Int32} {x2 : Int32} {u : SR} (hI : zInj ad 9) (C : zC p s m args meth c cc nL RX3 zTS D (zTy cA) A (zE tK tB kS vS)) (hdm : 0 + 1 ≤ d) (hA : ∀ q, zAd ad 9 q → A q) {β : Type} {f : (Int32 × (Nat → Int32) × (Nat → Int32) × (Nat → Int32)) → Option β} {o : β} (hm : (mH_addClause x1 x2 (R_toH2 u)).bind f = some o) (hd : decode cc pc = .ok (.invokevirtual 65, 3)) (h8 : (st.map fun v => v.category).sum ≤ 8) (g : ∀ q, f q = some o → zG p l e (zRm d) s m args below meth c nL D A Q (wR cA ad vT vH (R_set_h_clauses q.1 (R_set_h_senses q.2.1 (R_set_h_amounts q.2.2.1 (R_set_h_ends q.2.2.2 u))))) lv (pc + 3) (st)) : zG p l e (zRm d) s m args below meth c nL D A Q (wR cA ad vT vH u) lv pc (.int x2 :: .int x1 :: .ref (ad 2) :: st) := by
  obtain ⟨q, h1, h2⟩ := zb_some hm
  exact z_callvV C (cH_addClause (ad := (fun i => ad (2 + i))) (cA := cA) (zInj_sh (k := 2) (n := 7) hI (by decide)) x1 x2 (R_toH2 u) h1) (cwX3_65 C.1.2.2.2.2 rfl rfl ⟨hdm, by have := hdm; simp only [zRm]; omega⟩) hd rfl rfl h8 ⟨_, rfl, rfl⟩ (List.mem_of_getElem? (heR_h cA ad _ _ u)) (z_blk_mem (bR_toH2 cA ad _ _ u)) (fun q h => hA q (zAd_sh (k := 2) (n := 7) (by decide) q h)) (zJ_blk hI (wR_fst cA ad _ _ u) (by decide) rfl) (g q h2)
def mR_readClause (u : SR) : Option (Int32 × Int32 × Int32 × Int32 × Int32 × (Nat → Int32) × (Nat → Int32) × (Nat → Int32) × (Nat → Int32) × (Nat → Int32) × (Nat → Int32)) :=
  (mR_readWord u).bind fun q1 => (if q1.1 = (2 : Int32) then ((mR_readLate (R_putm_readClause (q1.2, (R_h_late u), (R_h_clauses u), (R_h_stepCount u), (R_h_sounds u), (R_h_swaps u), (R_h_senses u), (R_h_amounts u), (R_h_ends u), (R_h_steps u)) u)).bind fun q2 => (zgb q2.1 (some (q2.1, (q2.2.1, q2.2.2, (R_h_clauses u), (R_h_stepCount u), (R_h_sounds u), (R_h_swaps u), (R_h_senses u), (R_h_amounts u), (R_h_ends u), (R_h_steps u)))))) else (if q1.1 = (3 : Int32) then ((mR_readHears (R_putm_readClause (q1.2, (R_h_late u), (R_h_clauses u), (R_h_stepCount u), (R_h_sounds u), (R_h_swaps u), (R_h_senses u), (R_h_amounts u), (R_h_ends u), (R_h_steps u)) u)).bind fun q3 => (zgb q3.1 (some (q3.1, (q3.2.1, (R_h_late u), (R_h_clauses u), (R_h_stepCount u), q3.2.2, (R_h_swaps u), (R_h_senses u), (R_h_amounts u), (R_h_ends u), (R_h_steps u)))))) else (if q1.1 = (4 : Int32) then ((mR_readSwap (R_putm_readClause (q1.2, (R_h_late u), (R_h_clauses u), (R_h_stepCount u), (R_h_sounds u), (R_h_swaps u), (R_h_senses u), (R_h_amounts u), (R_h_ends u), (R_h_steps u)) u)).bind fun q4 => (zgb q4.1 (some (q4.1, (q4.2.1, (R_h_late u), (R_h_clauses u), (R_h_stepCount u), (R_h_sounds u), q4.2.2, (R_h_senses u), (R_h_amounts u), (R_h_ends u), (R_h_steps u)))))) else (if q1.1 < 0 then (some ((0 : Int32), (q1.2, (R_h_late u), (R_h_clauses u), (R_h_stepCount u), (R_h_sounds u), (R_h_swaps u), (R_h_senses u), (R_h_amounts u), (R_h_ends u), (R_h_steps u)))) else ((mR_skip (32 : Int32) (R_putm_readClause (q1.2, (R_h_late u), (R_h_clauses u), (R_h_stepCount u), (R_h_sounds u), (R_h_swaps u), (R_h_senses u), (R_h_amounts u), (R_h_ends u), (R_h_steps u)) u)).bind fun q5 => (if q5.1 = 0 then (some ((0 : Int32), (q5.2, (R_h_late u), (R_h_clauses u), (R_h_stepCount u), (R_h_sounds u), (R_h_swaps u), (R_h_senses u), (R_h_amounts u), (R_h_ends u), (R_h_steps u)))) else ((mR_readNumber (R_putm_readClause (q5.2, (R_h_late u), (R_h_clauses u), (R_h_stepCount u), (R_h_sounds u), (R_h_swaps u), (R_h_senses u), (R_h_amounts u), (R_h_ends u), (R_h_steps u)) u)).bind fun q6 => (if q6.1 < 0 then (some ((0 : Int32), (q6.2, (R_h_late u), (R_h_clauses u), (R_h_stepCount u), (R_h_sounds u), (R_h_swaps u), (R_h_senses u), (R_h_amounts u), (R_h_ends u), (R_h_steps u)))) else ((mR_skip (32 : Int32) (R_putm_readClause (q6.2, (R_h_late u), (R_h_clauses u), (R_h_stepCount u), (R_h_sounds u), (R_h_swaps u), (R_h_senses u), (R_h_amounts u), (R_h_ends u), (R_h_steps u)) u)).bind fun q7 => (if q7.1 = 0 then (some ((0 : Int32), (q7.2, (R_h_late u), (R_h_clauses u), (R_h_stepCount u), (R_h_sounds u), (R_h_swaps u), (R_h_senses u), (R_h_amounts u), (R_h_ends u), (R_h_steps u)))) else ((mR_readAnyC (0 : Int32) (R_putm_readClause (q7.2, (R_h_late u), (R_h_clauses u), (R_h_stepCount u), (R_h_sounds u), (R_h_swaps u), (R_h_senses u), (R_h_amounts u), (R_h_ends u), (R_h_steps u)) u)).bind fun q8 => (if q8.1 = 0 then (some ((0 : Int32), (q8.2.1, (R_h_late u), (R_h_clauses u), q8.2.2.1, (R_h_sounds u), (R_h_swaps u), (R_h_senses u), (R_h_amounts u), (R_h_ends u), q8.2.2.2))) else ((mH_addClause q1.1 q6.1 (R_toH2 (R_putm_readClause (q8.2.1, (R_h_late u), (R_h_clauses u), q8.2.2.1, (R_h_sounds u), (R_h_swaps u), (R_h_senses u), (R_h_amounts u), (R_h_ends u), q8.2.2.2) u))).bind fun q9 => (some ((1 : Int32), (q8.2.1, (R_h_late u), q9.1, q8.2.2.1, (R_h_sounds u), (R_h_swaps u), q9.2.1, q9.2.2.1, q9.2.2.2, q8.2.2.2))))))))))))))))
set_option maxRecDepth 100000 in
set_option maxHeartbeats 4000000 in
theorem cR_readClause {l : Launch} {D : va_G} {cA : Nat → ClassId} {ad : Nat → Nat} {tK tB : Nat} {kS vS : Nat → Nat} (hI : zInj ad 9) (u : SR) {r : Int32} {w' : Int32 × Int32 × Int32 × Int32 × (Nat → Int32) × (Nat → Int32) × (Nat → Int32) × (Nat → Int32) × (Nat → Int32) × (Nat → Int32)} (hm : mR_readClause u = some (r, w')) : Met l yX3_readClause (zWs yX3_readClause cX3_readClause 3 (some .boolean)) (zRm 157) (va_Pc [.ref (ad 0)] (zPre D (zTy cA) (zE tK tB kS vS) (zAd ad 9) (wR cA ad (.ref (ad 1)) (.ref (ad 2)) u))) (zQi r (zBw D (wR cA ad (.ref (ad 1)) (.ref (ad 2)) (R_putm_readClause w' u))) (zAd ad 9)) 0 0 (zAd ad 9) := by
  refine z_met (lv := [(0, .ref (ad 0))]) plX3 rfl rfl (Nat.le_of_ble_eq_true rfl) rfl ?_
  intro p e s m below meth c hC hr hin
  unfold mR_readClause at hm
  refine z_aload_n hC dX3_readClause_0 rfl 0 rfl ?_
  refine xR_X3_45 hI hC (Nat.le_of_ble_eq_true rfl) (fun _ h => h) hm dX3_readClause_1 (Nat.le_of_ble_eq_true rfl) (fun q1 hm => ?_)
  refine zuR (u2 := (R_putm_readClause (q1.2, (R_h_late u), (R_h_clauses u), (R_h_stepCount u), (R_h_sounds u), (R_h_swaps u), (R_h_senses u), (R_h_amounts u), (R_h_ends u), (R_h_steps u)) u)) rfl ?_
  refine z_istore_n (lv' := [(1, .int q1.1), (0, .ref (ad 0))]) hC dX3_readClause_4 rfl (by decide) rfl ?_
  refine z_iload_n hC dX3_readClause_5 rfl 0 rfl ?_
  refine z_ite hm (fun h6_0 hm => ?_) (fun h6_0 hm => ?_)
  · refine z_tin hC dX3_readClause_6 h6_0 kc_2 (by decide) (by decide) (off := 26) rfl (tgt := 32) (by decide) ?_
    refine z_aload_n hC dX3_readClause_32 rfl 1 rfl ?_
    refine xR_X3_49 hI hC (Nat.le_of_ble_eq_true rfl) (fun _ h => h) hm dX3_readClause_33 (Nat.le_of_ble_eq_true rfl) (fun q2 hm => ?_)
    refine zuR (u2 := (R_putm_readClause (q2.2.1, q2.2.2, (R_h_clauses u), (R_h_stepCount u), (R_h_sounds u), (R_h_swaps u), (R_h_senses u), (R_h_amounts u), (R_h_ends u), (R_h_steps u)) u)) rfl ?_
    refine z_g (zgb_some hm) (fun hb hm => ?_)
    exact riR (fin := fun z => R_putm_readClause z u) hC hr (zb_nar hb) dX3_readClause_36 hm rfl
  · refine z_ite hm (fun h6_1 hm => ?_) (fun h6_1 hm => ?_)
    · refine z_tin hC dX3_readClause_6 h6_1 kc_3 (by decide) (by decide) (off := 31) rfl (tgt := 37) (by decide) ?_
      refine z_aload_n hC dX3_readClause_37 rfl 1 rfl ?_
      refine xR_X3_52 hI hC (Nat.le_of_ble_eq_true rfl) (fun _ h => h) hm dX3_readClause_38 (Nat.le_of_ble_eq_true rfl) (fun q3 hm => ?_)
      refine zuR (u2 := (R_putm_readClause (q3.2.1, (R_h_late u), (R_h_clauses u), (R_h_stepCount u), q3.2.2, (R_h_swaps u), (R_h_senses u), (R_h_amounts u), (R_h_ends u), (R_h_steps u)) u)) rfl ?_
      refine z_g (zgb_some hm) (fun hb hm => ?_)
      exact riR (fin := fun z => R_putm_readClause z u) hC hr (zb_nar hb) dX3_readClause_41 hm rfl
    · refine z_ite hm (fun h6_2 hm => ?_) (fun h6_2 hm => ?_)
      · refine z_tin hC dX3_readClause_6 h6_2 kc_4 (by decide) (by decide) (off := 36) rfl (tgt := 42) (by decide) ?_
        refine z_aload_n hC dX3_readClause_42 rfl 1 rfl ?_
        refine xR_X3_55 hI hC (Nat.le_of_ble_eq_true rfl) (fun _ h => h) hm dX3_readClause_43 (Nat.le_of_ble_eq_true rfl) (fun q4 hm => ?_)
        refine zuR (u2 := (R_putm_readClause (q4.2.1, (R_h_late u), (R_h_clauses u), (R_h_stepCount u), (R_h_sounds u), q4.2.2, (R_h_senses u), (R_h_amounts u), (R_h_ends u), (R_h_steps u)) u)) rfl ?_
        refine z_g (zgb_some hm) (fun hb hm => ?_)
        exact riR (fin := fun z => R_putm_readClause z u) hC hr (zb_nar hb) dX3_readClause_46 hm rfl
      · refine z_tout (n := 3) hC dX3_readClause_6 (z_allc (z_tneq kc_2 h6_0) (z_allc (z_tneq kc_3 h6_1) (z_allc (z_tneq kc_4 h6_2) z_all0))) (by decide) (tgt := 47) (by decide) ?_
        refine z_iload_n hC dX3_readClause_47 rfl 0 rfl ?_
        refine z_if_lt (tgt := 60) hC hm dX3_readClause_48 (by decide) (fun hm => ?_) (fun hm => ?_)
        · refine z_iconst hC dX3_readClause_60 kI_0 ?_
          exact riR (fin := fun z => R_putm_readClause z u) hC hr rfl dX3_readClause_61 hm rfl
        · refine z_aload_n hC dX3_readClause_51 rfl 1 rfl ?_
          refine z_bipush hC dX3_readClause_52 kB_32 ?_
          refine xR_X3_41 hI hC (Nat.le_of_ble_eq_true rfl) (fun _ h => h) hm dX3_readClause_54 (Nat.le_of_ble_eq_true rfl) (fun q5 hm => ?_)
          refine zuR (u2 := (R_putm_readClause (q5.2, (R_h_late u), (R_h_clauses u), (R_h_stepCount u), (R_h_sounds u), (R_h_swaps u), (R_h_senses u), (R_h_amounts u), (R_h_ends u), (R_h_steps u)) u)) rfl ?_
          refine z_if_ne (tgt := 62) hC hm dX3_readClause_57 (by decide) (fun hm => ?_) (fun hm => ?_)
          · refine z_iconst hC dX3_readClause_60 kI_0 ?_
            exact riR (fin := fun z => R_putm_readClause z u) hC hr rfl dX3_readClause_61 hm rfl
          · refine z_aload_n hC dX3_readClause_62 rfl 1 rfl ?_
            refine xR_X3_58 hI hC (Nat.le_of_ble_eq_true rfl) (fun _ h => h) hm dX3_readClause_63 (Nat.le_of_ble_eq_true rfl) (fun q6 hm => ?_)
            refine zuR (u2 := (R_putm_readClause (q6.2, (R_h_late u), (R_h_clauses u), (R_h_stepCount u), (R_h_sounds u), (R_h_swaps u), (R_h_senses u), (R_h_amounts u), (R_h_ends u), (R_h_steps u)) u)) rfl ?_
            refine z_istore_n (lv' := [(2, .int q6.1), (1, .int q1.1), (0, .ref (ad 0))]) hC dX3_readClause_66 rfl (by decide) rfl ?_
            refine z_iload_n hC dX3_readClause_67 rfl 0 rfl ?_
            refine z_if_lt (tgt := 88) hC hm dX3_readClause_68 (by decide) (fun hm => ?_) (fun hm => ?_)
            · refine z_iconst hC dX3_readClause_88 kI_0 ?_
              exact riR (fin := fun z => R_putm_readClause z u) hC hr rfl dX3_readClause_89 hm rfl
            · refine z_aload_n hC dX3_readClause_71 rfl 2 rfl ?_
              refine z_bipush hC dX3_readClause_72 kB_32 ?_
              refine xR_X3_41 hI hC (Nat.le_of_ble_eq_true rfl) (fun _ h => h) hm dX3_readClause_74 (Nat.le_of_ble_eq_true rfl) (fun q7 hm => ?_)
              refine zuR (u2 := (R_putm_readClause (q7.2, (R_h_late u), (R_h_clauses u), (R_h_stepCount u), (R_h_sounds u), (R_h_swaps u), (R_h_senses u), (R_h_amounts u), (R_h_ends u), (R_h_steps u)) u)) rfl ?_
              refine z_if_eq (tgt := 88) hC hm dX3_readClause_77 (by decide) (fun hm => ?_) (fun hm => ?_)
              · refine z_iconst hC dX3_readClause_88 kI_0 ?_
                exact riR (fin := fun z => R_putm_readClause z u) hC hr rfl dX3_readClause_89 hm rfl
              · refine z_aload_n hC dX3_readClause_80 rfl 2 rfl ?_
                refine z_iconst hC dX3_readClause_81 kI_0 ?_
                refine xR_X3_61 hI hC (Nat.le_of_ble_eq_true rfl) (fun _ h => h) hm dX3_readClause_82 (Nat.le_of_ble_eq_true rfl) (fun q8 hm => ?_)
                refine zuR (u2 := (R_putm_readClause (q8.2.1, (R_h_late u), (R_h_clauses u), q8.2.2.1, (R_h_sounds u), (R_h_swaps u), (R_h_senses u), (R_h_amounts u), (R_h_ends u), q8.2.2.2) u)) rfl ?_
                refine z_if_ne (tgt := 90) hC hm dX3_readClause_85 (by decide) (fun hm => ?_) (fun hm => ?_)
                · refine z_iconst hC dX3_readClause_88 kI_0 ?_
                  exact riR (fin := fun z => R_putm_readClause z u) hC hr rfl dX3_readClause_89 hm rfl
                · refine z_aload_n hC dX3_readClause_90 rfl 2 rfl ?_
                  refine gR_X3_28_o hC dX3_readClause_91 ?_
                  refine z_iload_n hC dX3_readClause_94 rfl 1 rfl ?_
                  refine z_iload_n hC dX3_readClause_95 rfl 0 rfl ?_
                  refine xR_X3_65_2 hI hC (Nat.le_of_ble_eq_true rfl) (fun _ h => h) hm dX3_readClause_96 (Nat.le_of_ble_eq_true rfl) (fun q9 hm => ?_)
                  refine zuR (u2 := (R_putm_readClause (q8.2.1, (R_h_late u), q9.1, q8.2.2.1, (R_h_sounds u), (R_h_swaps u), q9.2.1, q9.2.2.1, q9.2.2.2, q8.2.2.2) u)) rfl ?_
                  refine z_iconst hC dX3_readClause_99 kI_1 ?_
                  exact riR (fin := fun z => R_putm_readClause z u) hC hr rfl dX3_readClause_100 hm rfl
theorem pR_X3_9_o {p : Program} {l : Launch} {e : Env} {R : Room} {s : State} {m : MethodId} {args : Array Value} {below : List Frame} {meth : Method} {c : Code} {Q : State → Prop} {D : va_G} {A : Nat → Prop} {cc : ByteArray} {nL : Nat} {lv : List (Nat × Value)} {pc : Nat} {st : List Value} {cA : Nat → ClassId} {ad : Nat → Nat} {E : zEt} {vT : Value} {vH : Value} {u : SR} {v : Nat} (C : zC p s m args meth c cc nL RX3 zTS D (zTy cA) A E) (hI : zInj ad 9) (hA : ∀ q, zAd ad 9 q → A q) (hd : decode cc pc = .ok (.putfield 9, 3)) (g : zG p l e R s m args below meth c nL D A Q (wR cA ad (.ref v) vH u) lv (pc + 3) st) : zG p l e R s m args below meth c nL D A Q (wR cA ad vT vH u) lv pc (.ref v :: .ref (ad 0) :: st) := fun H locs ls hP hS hL => va_put (D := D) (ci := 3) (C := RX3) (T := TX3) (N := 4) C.1.1 C.1.2.1 C.1.2.2.2.2 inlX3 tyX3 tyX3_ok nmX3 C.1.2.2.2.1 C.2.1 hP (zD_mono (wR_D hI cA vT vH u) hA) hS 0 (heR_o cA ad vT vH u) rfl 0 (by decide) (C.1.2.2.2.2 _ mfX3_9) (fun _ h9 => h9) rfl (ty := (.array .char)) (by decide +kernel) rfl rfl (Nat.le_of_ble_eq_true rfl) hd (fun H1 locs1 hP1 _ hS1 => g H1 locs1 ls hP1 hS1 hL)
theorem nR_text {p : Program} {l : Launch} {e : Env} {R : Room} {s : State} {m : MethodId} {args : Array Value} {below : List Frame} {meth : Method} {c : Code} {Q : State → Prop} {D : va_G} {A : Nat → Prop} {cc : ByteArray} {nL : Nat} {lv : List (Nat × Value)} {pc : Nat} {st : List Value} {cA : Nat → ClassId} {ad : Nat → Nat} {E : zEt} {vT : Value} {vH : Value} {own : String} {u : SR} (C : zC p s m args meth c cc nL own zTS D (zTy cA) A E) (hd : decode cc pc = .ok (.arraylength, 1)) (g : zG p l e R s m args below meth c nL D A Q (wR cA ad vT vH u) lv (pc + 1) (.int (100 : Int32) :: st)) : zG p l e R s m args below meth c nL D A Q (wR cA ad vT vH u) lv pc (.ref (ad 1) :: st) := fun H locs ls hP hS hL => va_alen C.1.1 C.1.2.1 C.2.1 hP 1 3 (heR_text cA ad vT vH u) rfl (show Int32.ofNat 100 = (100 : Int32) by decide) hd (g H locs ls hP hS hL)
theorem pR_X3_21_o {p : Program} {l : Launch} {e : Env} {R : Room} {s : State} {m : MethodId} {args : Array Value} {below : List Frame} {meth : Method} {c : Code} {Q : State → Prop} {D : va_G} {A : Nat → Prop} {cc : ByteArray} {nL : Nat} {lv : List (Nat × Value)} {pc : Nat} {st : List Value} {cA : Nat → ClassId} {ad : Nat → Nat} {E : zEt} {vT : Value} {vH : Value} {u : SR} {v : Int32} (C : zC p s m args meth c cc nL RX3 zTS D (zTy cA) A E) (hI : zInj ad 9) (hA : ∀ q, zAd ad 9 q → A q) (hd : decode cc pc = .ok (.putfield 21, 3)) (g : zG p l e R s m args below meth c nL D A Q (wR cA ad vT vH (R_set_length v u)) lv (pc + 3) st) : zG p l e R s m args below meth c nL D A Q (wR cA ad vT vH u) lv pc (.int v :: .ref (ad 0) :: st) := fun H locs ls hP hS hL => va_put (D := D) (ci := 3) (C := RX3) (T := TX3) (N := 4) C.1.1 C.1.2.1 C.1.2.2.2.2 inlX3 tyX3 tyX3_ok nmX3 C.1.2.2.2.1 C.2.1 hP (zD_mono (wR_D hI cA vT vH u) hA) hS 0 (heR_o cA ad vT vH u) rfl 1 (by decide) (C.1.2.2.2.2 _ mfX3_21) (fun _ h9 => h9) rfl (ty := .int) (by decide +kernel) rfl rfl (Nat.le_of_ble_eq_true rfl) hd (fun H1 locs1 hP1 _ hS1 => g H1 locs1 ls hP1 hS1 hL)
def R_putm_faultOf (p : Int32 × Int32 × Int32 × Int32 × Int32 × (Nat → Int32) × (Nat → Int32) × (Nat → Int32) × (Nat → Int32) × (Nat → Int32) × (Nat → Int32)) (u : SR) : SR := (((p.1, (p.2.1, p.2.2.1)), (p.2.2.2.1, (p.2.2.2.2.1, u.1.2.2.2))), ((p.2.2.2.2.2.1, (p.2.2.2.2.2.2.1, p.2.2.2.2.2.2.2.1)), (p.2.2.2.2.2.2.2.2.1, (p.2.2.2.2.2.2.2.2.2.1, p.2.2.2.2.2.2.2.2.2.2))))
theorem pR_X3_28_o {p : Program} {l : Launch} {e : Env} {R : Room} {s : State} {m : MethodId} {args : Array Value} {below : List Frame} {meth : Method} {c : Code} {Q : State → Prop} {D : va_G} {A : Nat → Prop} {cc : ByteArray} {nL : Nat} {lv : List (Nat × Value)} {pc : Nat} {st : List Value} {cA : Nat → ClassId} {ad : Nat → Nat} {E : zEt} {vT : Value} {vH : Value} {u : SR} {v : Nat} (C : zC p s m args meth c cc nL RX3 zTS D (zTy cA) A E) (hI : zInj ad 9) (hA : ∀ q, zAd ad 9 q → A q) (hd : decode cc pc = .ok (.putfield 28, 3)) (g : zG p l e R s m args below meth c nL D A Q (wR cA ad vT (.ref v) u) lv (pc + 3) st) : zG p l e R s m args below meth c nL D A Q (wR cA ad vT vH u) lv pc (.ref v :: .ref (ad 0) :: st) := fun H locs ls hP hS hL => va_put (D := D) (ci := 3) (C := RX3) (T := TX3) (N := 4) C.1.1 C.1.2.1 C.1.2.2.2.2 inlX3 tyX3 tyX3_ok nmX3 C.1.2.2.2.1 C.2.1 hP (zD_mono (wR_D hI cA vT vH u) hA) hS 0 (heR_o cA ad vT vH u) rfl 3 (by decide) (C.1.2.2.2.2 _ mfX3_28) (fun _ h9 => h9) rfl (ty := (.object "FarVoice$House")) (by decide +kernel) rfl rfl (Nat.le_of_ble_eq_true rfl) hd (fun H1 locs1 hP1 _ hS1 => g H1 locs1 ls hP1 hS1 hL)
theorem xR_X3_32_2 {p : Program} {l : Launch} {e : Env} {s : State} {m : MethodId} {args : Array Value} {below : List Frame} {meth : Method} {c : Code} {Q : State → Prop} {D : va_G} {A : Nat → Prop} {cc : ByteArray} {nL : Nat} {lv : List (Nat × Value)} {pc : Nat} {st : List Value} {cA : Nat → ClassId} {ad : Nat → Nat} {tK tB : Nat} {kS vS : Nat → Nat} {vT : Value} {vH : Value} {d : Nat} {u : SR} (hI : zInj ad 9) (C : zC p s m args meth c cc nL RX3 zTS D (zTy cA) A (zE tK tB kS vS)) (hdm : 0 + 1 ≤ d) (hA : ∀ q, zAd ad 9 q → A q) {β : Type} {f : (Int32 × Int32 × Int32 × (Nat → Int32) × (Nat → Int32)) → Option β} {o : β} (hm : (mH_clear (R_toH2 u)).bind f = some o) (hd : decode cc pc = .ok (.invokevirtual 32, 3)) (h8 : (st.map fun v => v.category).sum ≤ 8) (g : ∀ q, f q = some o → zG p l e (zRm d) s m args below meth c nL D A Q (wR cA ad vT vH (R_set_h_late q.1 (R_set_h_clauses q.2.1 (R_set_h_stepCount q.2.2.1 (R_set_h_sounds q.2.2.2.1 (R_set_h_swaps q.2.2.2.2 u)))))) lv (pc + 3) (st)) : zG p l e (zRm d) s m args below meth c nL D A Q (wR cA ad vT vH u) lv pc (.ref (ad 2) :: st) := by
  obtain ⟨q, h1, h2⟩ := zb_some hm
  exact z_callvV C (cH_clear (ad := (fun i => ad (2 + i))) (cA := cA) (zInj_sh (k := 2) (n := 7) hI (by decide))  (R_toH2 u) h1) (cwX3_32 C.1.2.2.2.2 rfl rfl ⟨hdm, by have := hdm; simp only [zRm]; omega⟩) hd rfl rfl h8 ⟨_, rfl, rfl⟩ (List.mem_of_getElem? (heR_h cA ad _ _ u)) (z_blk_mem (bR_toH2 cA ad _ _ u)) (fun q h => hA q (zAd_sh (k := 2) (n := 7) (by decide) q h)) (zJ_blk hI (wR_fst cA ad _ _ u) (by decide) rfl) (g q h2)
theorem xR_X3_37 {p : Program} {l : Launch} {e : Env} {s : State} {m : MethodId} {args : Array Value} {below : List Frame} {meth : Method} {c : Code} {Q : State → Prop} {D : va_G} {A : Nat → Prop} {cc : ByteArray} {nL : Nat} {lv : List (Nat × Value)} {pc : Nat} {st : List Value} {cA : Nat → ClassId} {ad : Nat → Nat} {tK tB : Nat} {kS vS : Nat → Nat} {d : Nat} {u : SR} (hI : zInj ad 9) (C : zC p s m args meth c cc nL RX3 zTS D (zTy cA) A (zE tK tB kS vS)) (hdm : 157 + 1 ≤ d) (hA : ∀ q, zAd ad 9 q → A q) {β : Type} {f : (Int32 × Int32 × Int32 × Int32 × Int32 × (Nat → Int32) × (Nat → Int32) × (Nat → Int32) × (Nat → Int32) × (Nat → Int32) × (Nat → Int32)) → Option β} {o : β} (hm : (mR_readClause u).bind f = some o) (hd : decode cc pc = .ok (.invokevirtual 37, 3)) (h8 : (st.map fun v => v.category).sum ≤ 8) (g : ∀ q, f q = some o → zG p l e (zRm d) s m args below meth c nL D A Q (wR cA ad (.ref (ad 1)) (.ref (ad 2)) (R_putm_readClause q.2 u)) lv (pc + 3) (.int q.1 :: st)) : zG p l e (zRm d) s m args below meth c nL D A Q (wR cA ad (.ref (ad 1)) (.ref (ad 2)) u) lv pc (.ref (ad 0) :: st) := by
  obtain ⟨q, h1, h2⟩ := zb_some hm
  exact z_calliV C (cR_readClause (ad := ad) (cA := cA) hI  u h1) (cwX3_37 C.1.2.2.2.2 rfl rfl ⟨hdm, by have := hdm; simp only [zRm]; omega⟩) hd rfl rfl h8 ⟨_, rfl, rfl⟩ (List.mem_of_getElem? (heR_o cA ad _ _ u)) (fun _ h => h) hA zJ_same (g q h2)
def mR_faultOf_L35 : Nat → Int32 → SR → Option (Int32 × Int32 × Int32 × Int32 × Int32 × Int32 × (Nat → Int32) × (Nat → Int32) × (Nat → Int32) × (Nat → Int32) × (Nat → Int32) × (Nat → Int32))
  | 0, _, _ => none
  | n + 1, x4, u => if (10 : Int32) < x4 then (some ((R_at u), ((R_length u), (R_at u), (R_h_late u), (R_h_clauses u), (R_h_stepCount u), (R_h_sounds u), (R_h_swaps u), (R_h_senses u), (R_h_amounts u), (R_h_ends u), (R_h_steps u)))) else ((mR_readClause u).bind fun q2 => (if q2.1 = 0 then (some (q2.2.1, ((R_length u), q2.2.1, q2.2.2.1, q2.2.2.2.1, q2.2.2.2.2.1, q2.2.2.2.2.2.1, q2.2.2.2.2.2.2.1, q2.2.2.2.2.2.2.2.1, q2.2.2.2.2.2.2.2.2.1, q2.2.2.2.2.2.2.2.2.2.1, q2.2.2.2.2.2.2.2.2.2.2))) else (if q2.2.1 < (R_length u) then (if x4 = (10 : Int32) then (some (q2.2.1, ((R_length u), q2.2.1, q2.2.2.1, q2.2.2.2.1, q2.2.2.2.2.1, q2.2.2.2.2.2.1, q2.2.2.2.2.2.2.1, q2.2.2.2.2.2.2.2.1, q2.2.2.2.2.2.2.2.2.1, q2.2.2.2.2.2.2.2.2.2.1, q2.2.2.2.2.2.2.2.2.2.2))) else ((mR_skip (59 : Int32) (R_putm_faultOf ((R_length u), q2.2.1, q2.2.2.1, q2.2.2.2.1, q2.2.2.2.2.1, q2.2.2.2.2.2.1, q2.2.2.2.2.2.2.1, q2.2.2.2.2.2.2.2.1, q2.2.2.2.2.2.2.2.2.1, q2.2.2.2.2.2.2.2.2.2.1, q2.2.2.2.2.2.2.2.2.2.2) u)).bind fun q3 => (if q3.1 = 0 then (some (q3.2, ((R_length u), q3.2, q2.2.2.1, q2.2.2.2.1, q2.2.2.2.2.1, q2.2.2.2.2.2.1, q2.2.2.2.2.2.2.1, q2.2.2.2.2.2.2.2.1, q2.2.2.2.2.2.2.2.2.1, q2.2.2.2.2.2.2.2.2.2.1, q2.2.2.2.2.2.2.2.2.2.2))) else (mR_faultOf_L35 n (x4 + (1 : Int32)) (R_putm_faultOf ((R_length u), q3.2, q2.2.2.1, q2.2.2.2.1, q2.2.2.2.2.1, q2.2.2.2.2.2.1, q2.2.2.2.2.2.2.1, q2.2.2.2.2.2.2.2.1, q2.2.2.2.2.2.2.2.2.1, q2.2.2.2.2.2.2.2.2.2.1, q2.2.2.2.2.2.2.2.2.2.2) u))))) else (some ((-1 : Int32), ((R_length u), q2.2.1, q2.2.2.1, q2.2.2.2.1, q2.2.2.2.2.1, q2.2.2.2.2.2.1, q2.2.2.2.2.2.2.1, q2.2.2.2.2.2.2.2.1, q2.2.2.2.2.2.2.2.2.1, q2.2.2.2.2.2.2.2.2.2.1, q2.2.2.2.2.2.2.2.2.2.2))))))
set_option maxRecDepth 100000 in
set_option maxHeartbeats 4000000 in
theorem lR_faultOf_35 {l : Launch} {D : va_G} {cA : Nat → ClassId} {ad : Nat → Nat} {p : Program} {e : Env} {s : State} {m : MethodId} {args : Array Value} {below : List Frame} {meth : Method} {c : Code} {tK tB : Nat} {kS vS : Nat → Nat} {r : Int32} {w' : Int32 × Int32 × Int32 × Int32 × Int32 × (Nat → Int32) × (Nat → Int32) × (Nat → Int32) × (Nat → Int32) × (Nat → Int32) × (Nat → Int32)}  (hI : zInj ad 9) (hC : zC p s m args meth c cX3_faultOf 5 RX3 zTS D (zTy cA) (zAd ad 9) (zE tK tB kS vS)) (hr : meth.sig.returnType = (some .int)) : ∀ (n : Nat) (x4 : Int32) (u : SR), mR_faultOf_L35 n x4 u = some (r, w') → zG p l e (zRm 158) s m args below meth c 5 D (zAd ad 9) (MQ below (zQi r (zBw D (wR cA ad (.ref (ad 1)) (.ref (ad 2)) (R_putm_faultOf w' u))) (zAd ad 9)) args s 0 0 (zAd ad 9)) (wR cA ad (.ref (ad 1)) (.ref (ad 2)) u) [(0, .ref (ad 0)), (4, .int x4)] 35 [] := by
  intro n
  induction n with
  | zero => intro x4 u hm; exact z_none hm
  | succ n ih =>
    intro x4 u hm
    rw [mR_faultOf_L35] at hm
    refine z_iload hC dX3_faultOf_35 1 rfl ?_
    refine z_bipush hC dX3_faultOf_37 kB_10 ?_
    refine z_icmp_gt (tgt := 94) hC hm dX3_faultOf_39 (by decide) (fun hm => ?_) (fun hm => ?_)
    · refine z_aload_n hC dX3_faultOf_94 rfl 0 rfl ?_
      refine gR_X3_25_o (v := (R_at u)) hC dX3_faultOf_95 rfl ?_
      exact riR (fin := fun z => R_putm_faultOf z u) hC hr rfl dX3_faultOf_98 hm rfl
    · refine z_aload_n hC dX3_faultOf_42 rfl 0 rfl ?_
      refine xR_X3_37 hI hC (Nat.le_of_ble_eq_true rfl) (fun _ h => h) hm dX3_faultOf_43 (Nat.le_of_ble_eq_true rfl) (fun q2 hm => ?_)
      refine zuR (u2 := (R_putm_faultOf ((R_length u), q2.2.1, q2.2.2.1, q2.2.2.2.1, q2.2.2.2.2.1, q2.2.2.2.2.2.1, q2.2.2.2.2.2.2.1, q2.2.2.2.2.2.2.2.1, q2.2.2.2.2.2.2.2.2.1, q2.2.2.2.2.2.2.2.2.2.1, q2.2.2.2.2.2.2.2.2.2.2) u)) rfl ?_
      refine z_if_ne (tgt := 54) hC hm dX3_faultOf_46 (by decide) (fun hm => ?_) (fun hm => ?_)
      · refine z_aload_n hC dX3_faultOf_49 rfl 0 rfl ?_
        refine gR_X3_25_o (v := q2.2.1) hC dX3_faultOf_50 rfl ?_
        exact riR (fin := fun z => R_putm_faultOf z u) hC hr rfl dX3_faultOf_53 hm rfl
      · refine z_aload_n hC dX3_faultOf_54 rfl 0 rfl ?_
        refine gR_X3_25_o (v := q2.2.1) hC dX3_faultOf_55 rfl ?_
        refine z_aload_n hC dX3_faultOf_58 rfl 0 rfl ?_
        refine gR_X3_21_o (v := (R_length u)) hC dX3_faultOf_59 rfl ?_
        refine z_icmp_lt (tgt := 67) hC hm dX3_faultOf_62 (by decide) (fun hm => ?_) (fun hm => ?_)
        · refine z_iload hC dX3_faultOf_67 1 rfl ?_
          refine z_bipush hC dX3_faultOf_69 kB_10 ?_
          refine z_icmp_eq (tgt := 83) hC hm dX3_faultOf_71 (by decide) (fun hm => ?_) (fun hm => ?_)
          · refine z_aload_n hC dX3_faultOf_83 rfl 0 rfl ?_
            refine gR_X3_25_o (v := q2.2.1) hC dX3_faultOf_84 rfl ?_
            exact riR (fin := fun z => R_putm_faultOf z u) hC hr rfl dX3_faultOf_87 hm rfl
          · refine z_aload_n hC dX3_faultOf_74 rfl 0 rfl ?_
            refine z_bipush hC dX3_faultOf_75 kB_59 ?_
            refine xR_X3_41 hI hC (Nat.le_of_ble_eq_true rfl) (fun _ h => h) hm dX3_faultOf_77 (Nat.le_of_ble_eq_true rfl) (fun q3 hm => ?_)
            refine zuR (u2 := (R_putm_faultOf ((R_length u), q3.2, q2.2.2.1, q2.2.2.2.1, q2.2.2.2.2.1, q2.2.2.2.2.2.1, q2.2.2.2.2.2.2.1, q2.2.2.2.2.2.2.2.1, q2.2.2.2.2.2.2.2.2.1, q2.2.2.2.2.2.2.2.2.2.1, q2.2.2.2.2.2.2.2.2.2.2) u)) rfl ?_
            refine z_if_ne (tgt := 88) hC hm dX3_faultOf_80 (by decide) (fun hm => ?_) (fun hm => ?_)
            · refine z_aload_n hC dX3_faultOf_83 rfl 0 rfl ?_
              refine gR_X3_25_o (v := q3.2) hC dX3_faultOf_84 rfl ?_
              exact riR (fin := fun z => R_putm_faultOf z u) hC hr rfl dX3_faultOf_87 hm rfl
            · refine z_iinc (lv' := [(4, .int (x4 + (1 : Int32))), (0, .ref (ad 0))]) (k := 1) (v := (x4 + (1 : Int32))) hC dX3_faultOf_88 rfl rfl (by decide) rfl ?_
              refine z_goto (tgt := 35) hC dX3_faultOf_91 (by decide) ?_
              refine z_lv hC [1, 0] rfl ?_
              exact ih _ _ hm
        · refine z_iconst hC dX3_faultOf_65 kI_m1 ?_
          exact riR (fin := fun z => R_putm_faultOf z u) hC hr rfl dX3_faultOf_66 hm rfl
def mR_faultOf (x2 : Int32) (u : SR) : Option (Int32 × Int32 × Int32 × Int32 × Int32 × Int32 × (Nat → Int32) × (Nat → Int32) × (Nat → Int32) × (Nat → Int32) × (Nat → Int32) × (Nat → Int32)) :=
  (mH_clear (R_toH2 (R_putm_faultOf ((zmin x2 (100 : Int32)), (0 : Int32), (R_h_late u), (R_h_clauses u), (R_h_stepCount u), (R_h_sounds u), (R_h_swaps u), (R_h_senses u), (R_h_amounts u), (R_h_ends u), (R_h_steps u)) u))).bind fun q1 => (mR_faultOf_L35 256 (1 : Int32) (R_putm_faultOf ((zmin x2 (100 : Int32)), (0 : Int32), q1.1, q1.2.1, q1.2.2.1, q1.2.2.2.1, q1.2.2.2.2, (R_h_senses u), (R_h_amounts u), (R_h_ends u), (R_h_steps u)) u))
set_option maxRecDepth 100000 in
set_option maxHeartbeats 4000000 in
theorem cR_faultOf {l : Launch} {D : va_G} {cA : Nat → ClassId} {ad : Nat → Nat} {tK tB : Nat} {kS vS : Nat → Nat} {vT vH : Value} (hI : zInj ad 9) (x2 : Int32) (u : SR) {r : Int32} {w' : Int32 × Int32 × Int32 × Int32 × Int32 × (Nat → Int32) × (Nat → Int32) × (Nat → Int32) × (Nat → Int32) × (Nat → Int32) × (Nat → Int32)} (hm : mR_faultOf x2 u = some (r, w')) : Met l yX3_faultOf (zWs yX3_faultOf cX3_faultOf 5 (some .int)) (zRm 158) (va_Pc [.ref (ad 0), .ref (ad 1), .int x2, .ref (ad 2)] (zPre D (zTy cA) (zE tK tB kS vS) (zAd ad 9) (wR cA ad vT vH u))) (zQi r (zBw D (wR cA ad (.ref (ad 1)) (.ref (ad 2)) (R_putm_faultOf w' u))) (zAd ad 9)) 0 0 (zAd ad 9) := by
  refine z_met (lv := [(0, .ref (ad 0)), (1, .ref (ad 1)), (2, .int x2), (3, .ref (ad 2))]) plX3 rfl rfl (Nat.le_of_ble_eq_true rfl) rfl ?_
  intro p e s m below meth c hC hr hin
  unfold mR_faultOf at hm
  refine z_aload_n hC dX3_faultOf_0 rfl 0 rfl ?_
  refine z_aload_n hC dX3_faultOf_1 rfl 1 rfl ?_
  refine pR_X3_9_o hC hI (fun _ h => h) dX3_faultOf_2 ?_
  refine z_aload_n hC dX3_faultOf_5 rfl 0 rfl ?_
  refine z_iload_n hC dX3_faultOf_6 rfl 2 rfl ?_
  refine z_aload_n hC dX3_faultOf_7 rfl 1 rfl ?_
  refine nR_text hC dX3_faultOf_8 ?_
  refine z_min hC mmX3_15 (Nat.le_of_ble_eq_true rfl) (Nat.le_of_ble_eq_true rfl) dX3_faultOf_9 ?_
  refine pR_X3_21_o hC hI (fun _ h => h) dX3_faultOf_12 ?_
  refine zuR (u2 := (R_putm_faultOf ((zmin x2 (100 : Int32)), (R_at u), (R_h_late u), (R_h_clauses u), (R_h_stepCount u), (R_h_sounds u), (R_h_swaps u), (R_h_senses u), (R_h_amounts u), (R_h_ends u), (R_h_steps u)) u)) rfl ?_
  refine z_aload_n hC dX3_faultOf_15 rfl 0 rfl ?_
  refine z_iconst hC dX3_faultOf_16 kI_0 ?_
  refine pR_X3_25_o hC hI (fun _ h => h) dX3_faultOf_17 ?_
  refine zuR (u2 := (R_putm_faultOf ((zmin x2 (100 : Int32)), (0 : Int32), (R_h_late u), (R_h_clauses u), (R_h_stepCount u), (R_h_sounds u), (R_h_swaps u), (R_h_senses u), (R_h_amounts u), (R_h_ends u), (R_h_steps u)) u)) rfl ?_
  refine z_aload_n hC dX3_faultOf_20 rfl 0 rfl ?_
  refine z_aload_n hC dX3_faultOf_21 rfl 3 rfl ?_
  refine pR_X3_28_o hC hI (fun _ h => h) dX3_faultOf_22 ?_
  refine z_aload_n hC dX3_faultOf_25 rfl 0 rfl ?_
  refine gR_X3_28_o hC dX3_faultOf_26 ?_
  refine xR_X3_32_2 hI hC (Nat.le_of_ble_eq_true rfl) (fun _ h => h) hm dX3_faultOf_29 (Nat.le_of_ble_eq_true rfl) (fun q1 hm => ?_)
  refine zuR (u2 := (R_putm_faultOf ((zmin x2 (100 : Int32)), (0 : Int32), q1.1, q1.2.1, q1.2.2.1, q1.2.2.2.1, q1.2.2.2.2, (R_h_senses u), (R_h_amounts u), (R_h_ends u), (R_h_steps u)) u)) rfl ?_
  refine z_iconst hC dX3_faultOf_32 kI_1 ?_
  refine z_istore (lv' := [(4, .int (1 : Int32)), (0, .ref (ad 0)), (1, .ref (ad 1)), (2, .int x2), (3, .ref (ad 2))]) hC dX3_faultOf_33 (by decide) rfl ?_
  refine z_lv hC [1, 0] rfl ?_
  exact lR_faultOf_35 hI hC hr _ _ _ hm
