def mM_in (x1 : Int32) (x2 : Int32) (x3 : Int32) : Int32 :=
  if x1 < x2 then ((0 : Int32)) else (if x3 < x1 then ((0 : Int32)) else ((1 : Int32)))
theorem bM_in (x1 : Int32) (x2 : Int32) (x3 : Int32) : mM_in x1 x2 x3 = 0 ∨ mM_in x1 x2 x3 = 1 := by
  unfold mM_in
  (repeat' split) <;> first | exact Or.inl rfl | exact Or.inr rfl
set_option maxRecDepth 100000 in
set_option maxHeartbeats 4000000 in
theorem cM_in {l : Launch} {D : va_G} {cA : Nat → ClassId} {ad : Nat → Nat} {E : zEt} (hI : zInj ad 23) (x1 : Int32) (x2 : Int32) (x3 : Int32) (u : SM) {r : Int32} (hm : mM_in x1 x2 x3 = r) : Met l yX8_in (zWs yX8_in cX8_in 4 (some .boolean)) (zRm 0) (va_Pc [.ref (ad 0), .int x1, .int x2, .int x3] (zPre D (zTy cA) E zA0 (wM cA ad u))) (zQi r zB0 zA0) 0 0 zA0 := by
  refine z_met (lv := [(0, .ref (ad 0)), (1, .int x1), (2, .int x2), (3, .int x3)]) plX8 rfl rfl (Nat.le_of_ble_eq_true rfl) rfl ?_
  intro p e s m below meth c hC hr hin
  unfold mM_in at hm
  refine z_iload_n hC dX8_in_0 rfl 1 rfl ?_
  refine z_iload_n hC dX8_in_1 rfl 2 rfl ?_
  refine z_icmp_lt (tgt := 14) hC hm dX8_in_2 (by decide) (fun hm => ?_) (fun hm => ?_)
  · refine z_iconst hC dX8_in_14 kI_0 ?_
    exact z_iret hC hr rfl dX8_in_15 (fun _ _ => trivial) hm
  · refine z_iload_n hC dX8_in_5 rfl 1 rfl ?_
    refine z_iload_n hC dX8_in_6 rfl 3 rfl ?_
    refine z_icmp_gt (tgt := 14) hC hm dX8_in_7 (by decide) (fun hm => ?_) (fun hm => ?_)
    · refine z_iconst hC dX8_in_14 kI_0 ?_
      exact z_iret hC hr rfl dX8_in_15 (fun _ _ => trivial) hm
    · refine z_iconst hC dX8_in_10 kI_1 ?_
      refine z_goto (tgt := 15) hC dX8_in_11 (by decide) ?_
      exact z_iret hC hr rfl dX8_in_15 (fun _ _ => trivial) hm
def mM_min (x1 : Int32) (x2 : Int32) : Int32 :=
  if x2 ≤ x1 then (x2) else (x1)
set_option maxRecDepth 100000 in
set_option maxHeartbeats 4000000 in
theorem cM_min {l : Launch} {D : va_G} {cA : Nat → ClassId} {ad : Nat → Nat} {E : zEt} (hI : zInj ad 23) (x1 : Int32) (x2 : Int32) (u : SM) {r : Int32} (hm : mM_min x1 x2 = r) : Met l yX8_min (zWs yX8_min cX8_min 3 (some .int)) (zRm 0) (va_Pc [.ref (ad 0), .int x1, .int x2] (zPre D (zTy cA) E zA0 (wM cA ad u))) (zQi r zB0 zA0) 0 0 zA0 := by
  refine z_met (lv := [(0, .ref (ad 0)), (1, .int x1), (2, .int x2)]) plX8 rfl rfl (Nat.le_of_ble_eq_true rfl) rfl ?_
  intro p e s m below meth c hC hr hin
  unfold mM_min at hm
  refine z_iload_n hC dX8_min_0 rfl 1 rfl ?_
  refine z_iload_n hC dX8_min_1 rfl 2 rfl ?_
  refine z_icmp_ge (tgt := 9) hC hm dX8_min_2 (by decide) (fun hm => ?_) (fun hm => ?_)
  · refine z_iload_n hC dX8_min_9 rfl 2 rfl ?_
    exact z_iret hC hr rfl dX8_min_10 (fun _ _ => trivial) hm
  · refine z_iload_n hC dX8_min_5 rfl 1 rfl ?_
    refine z_goto (tgt := 10) hC dX8_min_6 (by decide) ?_
    exact z_iret hC hr rfl dX8_min_10 (fun _ _ => trivial) hm
def mM_apart (x1 : Int32) (x2 : Int32) : Int32 :=
  if x2 ≤ x1 then ((x1 - x2)) else ((x2 - x1))
set_option maxRecDepth 100000 in
set_option maxHeartbeats 4000000 in
theorem cM_apart {l : Launch} {D : va_G} {cA : Nat → ClassId} {ad : Nat → Nat} {E : zEt} (hI : zInj ad 23) (x1 : Int32) (x2 : Int32) (u : SM) {r : Int32} (hm : mM_apart x1 x2 = r) : Met l yX8_apart (zWs yX8_apart cX8_apart 3 (some .int)) (zRm 0) (va_Pc [.ref (ad 0), .int x1, .int x2] (zPre D (zTy cA) E zA0 (wM cA ad u))) (zQi r zB0 zA0) 0 0 zA0 := by
  refine z_met (lv := [(0, .ref (ad 0)), (1, .int x1), (2, .int x2)]) plX8 rfl rfl (Nat.le_of_ble_eq_true rfl) rfl ?_
  intro p e s m below meth c hC hr hin
  unfold mM_apart at hm
  refine z_iload_n hC dX8_apart_0 rfl 1 rfl ?_
  refine z_iload_n hC dX8_apart_1 rfl 2 rfl ?_
  refine z_icmp_ge (tgt := 11) hC hm dX8_apart_2 (by decide) (fun hm => ?_) (fun hm => ?_)
  · refine z_iload_n hC dX8_apart_11 rfl 1 rfl ?_
    refine z_iload_n hC dX8_apart_12 rfl 2 rfl ?_
    refine z_isub hC dX8_apart_13 ?_
    exact z_iret hC hr rfl dX8_apart_14 (fun _ _ => trivial) hm
  · refine z_iload_n hC dX8_apart_5 rfl 2 rfl ?_
    refine z_iload_n hC dX8_apart_6 rfl 1 rfl ?_
    refine z_isub hC dX8_apart_7 ?_
    refine z_goto (tgt := 14) hC dX8_apart_8 (by decide) ?_
    exact z_iret hC hr rfl dX8_apart_14 (fun _ _ => trivial) hm
theorem xM_X8_150 {p : Program} {l : Launch} {e : Env} {s : State} {m : MethodId} {args : Array Value} {below : List Frame} {meth : Method} {c : Code} {Q : State → Prop} {D : va_G} {A : Nat → Prop} {cc : ByteArray} {nL : Nat} {lv : List (Nat × Value)} {pc : Nat} {st : List Value} {cA : Nat → ClassId} {ad : Nat → Nat} {E : zEt} {d : Nat} {x1 : Int32} {x2 : Int32} {x3 : Int32} {u : SM} (hI : zInj ad 23) (C : zC p s m args meth c cc nL RX8 zTS D (zTy cA) A E) (hdm : 0 + 1 ≤ d) (hd : decode cc pc = .ok (.invokevirtual 150, 3)) (h8 : (st.map fun v => v.category).sum ≤ 8) (g : zG p l e (zRm d) s m args below meth c nL D A Q (wM cA ad u) lv (pc + 3) (.int (mM_in x1 x2 x3) :: st)) : zG p l e (zRm d) s m args below meth c nL D A Q (wM cA ad u) lv pc (.int x3 :: .int x2 :: .int x1 :: .ref (ad 0) :: st) :=
  z_calliV C (cM_in hI x1 x2 x3 u rfl) (cwX8_150 C.1.2.2.2.2 rfl rfl ⟨hdm, by have := hdm; simp only [zRm]; omega⟩) hd rfl rfl h8 ⟨_, rfl, rfl⟩ (List.mem_of_getElem? (heM_o cA ad u)) (fun _ h => h) (fun _ h => h.elim) zJ_ro g
def mM_isPlace (x1 : Int32) : Int32 :=
  (mM_in x1 (0 : Int32) (40 : Int32))
theorem bM_isPlace (x1 : Int32) : mM_isPlace x1 = 0 ∨ mM_isPlace x1 = 1 := by
  unfold mM_isPlace
  (repeat' split) <;> first | exact Or.inl rfl | exact Or.inr rfl | exact bM_in ..
set_option maxRecDepth 100000 in
set_option maxHeartbeats 4000000 in
theorem cM_isPlace {l : Launch} {D : va_G} {cA : Nat → ClassId} {ad : Nat → Nat} {E : zEt} (hI : zInj ad 23) (x1 : Int32) (u : SM) {r : Int32} (hm : mM_isPlace x1 = r) : Met l yX8_isPlace (zWs yX8_isPlace cX8_isPlace 2 (some .boolean)) (zRm 1) (va_Pc [.ref (ad 0), .int x1] (zPre D (zTy cA) E zA0 (wM cA ad u))) (zQi r zB0 zA0) 0 0 zA0 := by
  refine z_met (lv := [(0, .ref (ad 0)), (1, .int x1)]) plX8 rfl rfl (Nat.le_of_ble_eq_true rfl) rfl ?_
  intro p e s m below meth c hC hr hin
  unfold mM_isPlace at hm
  refine z_aload_n hC dX8_isPlace_0 rfl 0 rfl ?_
  refine z_iload_n hC dX8_isPlace_1 rfl 1 rfl ?_
  refine z_iconst hC dX8_isPlace_2 kI_0 ?_
  refine z_bipush hC dX8_isPlace_3 kB_40 ?_
  refine xM_X8_150 hI hC (Nat.le_of_ble_eq_true rfl) dX8_isPlace_5 (Nat.le_of_ble_eq_true rfl) ?_
  exact z_iret hC hr (zb_nar (bM_in ..)) dX8_isPlace_8 (fun _ _ => trivial) hm
theorem gM_X8_16_o {p : Program} {l : Launch} {e : Env} {R : Room} {s : State} {m : MethodId} {args : Array Value} {below : List Frame} {meth : Method} {c : Code} {Q : State → Prop} {D : va_G} {A : Nat → Prop} {cc : ByteArray} {nL : Nat} {lv : List (Nat × Value)} {pc : Nat} {st : List Value} {cA : Nat → ClassId} {ad : Nat → Nat} {E : zEt} {u : SM} (C : zC p s m args meth c cc nL RX8 zTS D (zTy cA) A E) (hd : decode cc pc = .ok (.getfield 16, 3)) {v : Int32} (hv : M_seats u = v) (g : zG p l e R s m args below meth c nL D A Q (wM cA ad u) lv (pc + 3) (.int v :: st)) : zG p l e R s m args below meth c nL D A Q (wM cA ad u) lv pc (.ref (ad 0) :: st) := by
  subst hv; exact fun H locs ls hP hS hL => va_get (D := D) (ci := 8) (C := RX8) (T := TX8) (N := 45) C.1.1 C.1.2.1 C.1.2.2.2.2 inlX8 C.1.2.2.2.1 C.2.1 hP 0 (heM_o cA ad u) rfl 2 (by decide) (C.1.2.2.2.2 _ mfX8_16) (fun _ h9 => h9) (v := .int (M_seats u)) rfl hd (g H locs ls hP hS hL)
def mM_isSeat (x1 : Int32) (u : SM) : Int32 :=
  (mM_in x1 (0 : Int32) ((M_seats u) - (1 : Int32)))
theorem bM_isSeat (x1 : Int32) (u : SM) : mM_isSeat x1 u = 0 ∨ mM_isSeat x1 u = 1 := by
  unfold mM_isSeat
  (repeat' split) <;> first | exact Or.inl rfl | exact Or.inr rfl | exact bM_in ..
set_option maxRecDepth 100000 in
set_option maxHeartbeats 4000000 in
theorem cM_isSeat {l : Launch} {D : va_G} {cA : Nat → ClassId} {ad : Nat → Nat} {E : zEt} (hI : zInj ad 23) (x1 : Int32) (u : SM) {r : Int32} (hm : mM_isSeat x1 u = r) : Met l yX8_isSeat (zWs yX8_isSeat cX8_isSeat 2 (some .boolean)) (zRm 1) (va_Pc [.ref (ad 0), .int x1] (zPre D (zTy cA) E zA0 (wM cA ad u))) (zQi r zB0 zA0) 0 0 zA0 := by
  refine z_met (lv := [(0, .ref (ad 0)), (1, .int x1)]) plX8 rfl rfl (Nat.le_of_ble_eq_true rfl) rfl ?_
  intro p e s m below meth c hC hr hin
  unfold mM_isSeat at hm
  refine z_aload_n hC dX8_isSeat_0 rfl 0 rfl ?_
  refine z_iload_n hC dX8_isSeat_1 rfl 1 rfl ?_
  refine z_iconst hC dX8_isSeat_2 kI_0 ?_
  refine z_aload_n hC dX8_isSeat_3 rfl 0 rfl ?_
  refine gM_X8_16_o (v := (M_seats u)) hC dX8_isSeat_4 rfl ?_
  refine z_iconst hC dX8_isSeat_7 kI_1 ?_
  refine z_isub hC dX8_isSeat_8 ?_
  refine xM_X8_150 hI hC (Nat.le_of_ble_eq_true rfl) dX8_isSeat_9 (Nat.le_of_ble_eq_true rfl) ?_
  exact z_iret hC hr (zb_nar (bM_in ..)) dX8_isSeat_12 (fun _ _ => trivial) hm
theorem xM_X8_154 {p : Program} {l : Launch} {e : Env} {s : State} {m : MethodId} {args : Array Value} {below : List Frame} {meth : Method} {c : Code} {Q : State → Prop} {D : va_G} {A : Nat → Prop} {cc : ByteArray} {nL : Nat} {lv : List (Nat × Value)} {pc : Nat} {st : List Value} {cA : Nat → ClassId} {ad : Nat → Nat} {E : zEt} {d : Nat} {x1 : Int32} {u : SM} (hI : zInj ad 23) (C : zC p s m args meth c cc nL RX8 zTS D (zTy cA) A E) (hdm : 1 + 1 ≤ d) (hd : decode cc pc = .ok (.invokevirtual 154, 3)) (h8 : (st.map fun v => v.category).sum ≤ 8) (g : zG p l e (zRm d) s m args below meth c nL D A Q (wM cA ad u) lv (pc + 3) (.int (mM_isPlace x1) :: st)) : zG p l e (zRm d) s m args below meth c nL D A Q (wM cA ad u) lv pc (.int x1 :: .ref (ad 0) :: st) :=
  z_calliV C (cM_isPlace hI x1 u rfl) (cwX8_154 C.1.2.2.2.2 rfl rfl ⟨hdm, by have := hdm; simp only [zRm]; omega⟩) hd rfl rfl h8 ⟨_, rfl, rfl⟩ (List.mem_of_getElem? (heM_o cA ad u)) (fun _ h => h) (fun _ h => h.elim) zJ_ro g
def M_put_mouth (p : Int32) (u : SM) : SM := (((((p, u.1.1.1.1.2), u.1.1.1.2), u.1.1.2), u.1.2), u.2)
theorem gM_X8_7_o {p : Program} {l : Launch} {e : Env} {R : Room} {s : State} {m : MethodId} {args : Array Value} {below : List Frame} {meth : Method} {c : Code} {Q : State → Prop} {D : va_G} {A : Nat → Prop} {cc : ByteArray} {nL : Nat} {lv : List (Nat × Value)} {pc : Nat} {st : List Value} {cA : Nat → ClassId} {ad : Nat → Nat} {E : zEt} {u : SM} (C : zC p s m args meth c cc nL RX8 zTS D (zTy cA) A E) (hd : decode cc pc = .ok (.getfield 7, 3)) {v : Int32} (hv : M_mouth u = v) (g : zG p l e R s m args below meth c nL D A Q (wM cA ad u) lv (pc + 3) (.int v :: st)) : zG p l e R s m args below meth c nL D A Q (wM cA ad u) lv pc (.ref (ad 0) :: st) := by
  subst hv; exact fun H locs ls hP hS hL => va_get (D := D) (ci := 8) (C := RX8) (T := TX8) (N := 45) C.1.1 C.1.2.1 C.1.2.2.2.2 inlX8 C.1.2.2.2.1 C.2.1 hP 0 (heM_o cA ad u) rfl 0 (by decide) (C.1.2.2.2.2 _ mfX8_7) (fun _ h9 => h9) (v := .int (M_mouth u)) rfl hd (g H locs ls hP hS hL)
theorem pM_X8_7_o {p : Program} {l : Launch} {e : Env} {R : Room} {s : State} {m : MethodId} {args : Array Value} {below : List Frame} {meth : Method} {c : Code} {Q : State → Prop} {D : va_G} {A : Nat → Prop} {cc : ByteArray} {nL : Nat} {lv : List (Nat × Value)} {pc : Nat} {st : List Value} {cA : Nat → ClassId} {ad : Nat → Nat} {E : zEt} {u : SM} {v : Int32} (C : zC p s m args meth c cc nL RX8 zTS D (zTy cA) A E) (hI : zInj ad 23) (hA : ∀ q, zAd ad 23 q → A q) (hd : decode cc pc = .ok (.putfield 7, 3)) (g : zG p l e R s m args below meth c nL D A Q (wM cA ad (M_set_mouth v u)) lv (pc + 3) st) : zG p l e R s m args below meth c nL D A Q (wM cA ad u) lv pc (.int v :: .ref (ad 0) :: st) := fun H locs ls hP hS hL => va_put (D := D) (ci := 8) (C := RX8) (T := TX8) (N := 45) C.1.1 C.1.2.1 C.1.2.2.2.2 inlX8 tyX8 tyX8_ok nmX8 C.1.2.2.2.1 C.2.1 hP (zD_mono (wM_D hI cA u) hA) hS 0 (heM_o cA ad u) rfl 0 (by decide) (C.1.2.2.2.2 _ mfX8_7) (fun _ h9 => h9) rfl (ty := .int) (by decide +kernel) rfl rfl (Nat.le_of_ble_eq_true rfl) hd (fun H1 locs1 hP1 _ hS1 => g H1 locs1 ls hP1 hS1 hL)
def mM_mouth (x1 : Int32) (u : SM) : Option (Int32 × Int32) :=
  if (mM_isPlace x1) = 0 then (some ((-1 : Int32), ((M_mouth u)))) else (some ((M_mouth u), (x1)))
set_option maxRecDepth 100000 in
set_option maxHeartbeats 4000000 in
theorem cM_mouth {l : Launch} {D : va_G} {cA : Nat → ClassId} {ad : Nat → Nat} {E : zEt} (hI : zInj ad 23) (x1 : Int32) (u : SM) {r : Int32} {w' : Int32} (hm : mM_mouth x1 u = some (r, w')) : Met l yX8_mouth (zWs yX8_mouth cX8_mouth 3 (some .int)) (zRm 2) (va_Pc [.ref (ad 0), .int x1] (zPre D (zTy cA) E (zAd ad 23) (wM cA ad u))) (zQi r (zBw D (wM cA ad (M_put_mouth w' u))) (zAd ad 23)) 0 0 (zAd ad 23) := by
  refine z_met (lv := [(0, .ref (ad 0)), (1, .int x1)]) plX8 rfl rfl (Nat.le_of_ble_eq_true rfl) rfl ?_
  intro p e s m below meth c hC hr hin
  unfold mM_mouth at hm
  refine z_aload_n hC dX8_mouth_0 rfl 0 rfl ?_
  refine z_iload_n hC dX8_mouth_1 rfl 1 rfl ?_
  refine xM_X8_154 hI hC (Nat.le_of_ble_eq_true rfl) dX8_mouth_2 (Nat.le_of_ble_eq_true rfl) ?_
  refine z_if_ne (tgt := 10) hC hm dX8_mouth_5 (by decide) (fun hm => ?_) (fun hm => ?_)
  · refine z_iconst hC dX8_mouth_8 kI_m1 ?_
    exact riM (fin := fun z => M_put_mouth z u) hC hr rfl dX8_mouth_9 hm rfl
  · refine z_aload_n hC dX8_mouth_10 rfl 0 rfl ?_
    refine gM_X8_7_o (v := (M_mouth u)) hC dX8_mouth_11 rfl ?_
    refine z_istore_n (lv' := [(2, .int (M_mouth u)), (0, .ref (ad 0)), (1, .int x1)]) hC dX8_mouth_14 rfl (by decide) rfl ?_
    refine z_aload_n hC dX8_mouth_15 rfl 1 rfl ?_
    refine z_iload_n hC dX8_mouth_16 rfl 2 rfl ?_
    refine pM_X8_7_o hC hI (fun _ h => h) dX8_mouth_17 ?_
    refine zuM (u2 := (M_put_mouth (x1) u)) rfl ?_
    refine z_iload_n hC dX8_mouth_20 rfl 0 rfl ?_
    exact riM (fin := fun z => M_put_mouth z u) hC hr rfl dX8_mouth_21 hm rfl
def M_put_jaw_moves (p : Int32 × Int64) (u : SM) : SM := (((((u.1.1.1.1.1, p.1), u.1.1.1.2), ((p.2, u.1.1.2.1.2), u.1.1.2.2)), u.1.2), u.2)
theorem gM_X8_13_o {p : Program} {l : Launch} {e : Env} {R : Room} {s : State} {m : MethodId} {args : Array Value} {below : List Frame} {meth : Method} {c : Code} {Q : State → Prop} {D : va_G} {A : Nat → Prop} {cc : ByteArray} {nL : Nat} {lv : List (Nat × Value)} {pc : Nat} {st : List Value} {cA : Nat → ClassId} {ad : Nat → Nat} {E : zEt} {u : SM} (C : zC p s m args meth c cc nL RX8 zTS D (zTy cA) A E) (hd : decode cc pc = .ok (.getfield 13, 3)) {v : Int32} (hv : M_jaw u = v) (g : zG p l e R s m args below meth c nL D A Q (wM cA ad u) lv (pc + 3) (.int v :: st)) : zG p l e R s m args below meth c nL D A Q (wM cA ad u) lv pc (.ref (ad 0) :: st) := by
  subst hv; exact fun H locs ls hP hS hL => va_get (D := D) (ci := 8) (C := RX8) (T := TX8) (N := 45) C.1.1 C.1.2.1 C.1.2.2.2.2 inlX8 C.1.2.2.2.1 C.2.1 hP 0 (heM_o cA ad u) rfl 1 (by decide) (C.1.2.2.2.2 _ mfX8_13) (fun _ h9 => h9) (v := .int (M_jaw u)) rfl hd (g H locs ls hP hS hL)
theorem pM_X8_13_o {p : Program} {l : Launch} {e : Env} {R : Room} {s : State} {m : MethodId} {args : Array Value} {below : List Frame} {meth : Method} {c : Code} {Q : State → Prop} {D : va_G} {A : Nat → Prop} {cc : ByteArray} {nL : Nat} {lv : List (Nat × Value)} {pc : Nat} {st : List Value} {cA : Nat → ClassId} {ad : Nat → Nat} {E : zEt} {u : SM} {v : Int32} (C : zC p s m args meth c cc nL RX8 zTS D (zTy cA) A E) (hI : zInj ad 23) (hA : ∀ q, zAd ad 23 q → A q) (hd : decode cc pc = .ok (.putfield 13, 3)) (g : zG p l e R s m args below meth c nL D A Q (wM cA ad (M_set_jaw v u)) lv (pc + 3) st) : zG p l e R s m args below meth c nL D A Q (wM cA ad u) lv pc (.int v :: .ref (ad 0) :: st) := fun H locs ls hP hS hL => va_put (D := D) (ci := 8) (C := RX8) (T := TX8) (N := 45) C.1.1 C.1.2.1 C.1.2.2.2.2 inlX8 tyX8 tyX8_ok nmX8 C.1.2.2.2.1 C.2.1 hP (zD_mono (wM_D hI cA u) hA) hS 0 (heM_o cA ad u) rfl 1 (by decide) (C.1.2.2.2.2 _ mfX8_13) (fun _ h9 => h9) rfl (ty := .int) (by decide +kernel) rfl rfl (Nat.le_of_ble_eq_true rfl) hd (fun H1 locs1 hP1 _ hS1 => g H1 locs1 ls hP1 hS1 hL)
theorem pM_X8_25_o {p : Program} {l : Launch} {e : Env} {R : Room} {s : State} {m : MethodId} {args : Array Value} {below : List Frame} {meth : Method} {c : Code} {Q : State → Prop} {D : va_G} {A : Nat → Prop} {cc : ByteArray} {nL : Nat} {lv : List (Nat × Value)} {pc : Nat} {st : List Value} {cA : Nat → ClassId} {ad : Nat → Nat} {E : zEt} {u : SM} {v : Int64} (C : zC p s m args meth c cc nL RX8 zTS D (zTy cA) A E) (hI : zInj ad 23) (hA : ∀ q, zAd ad 23 q → A q) (hd : decode cc pc = .ok (.putfield 25, 3)) (g : zG p l e R s m args below meth c nL D A Q (wM cA ad (M_set_moves v u)) lv (pc + 3) st) : zG p l e R s m args below meth c nL D A Q (wM cA ad u) lv pc (.long v :: .ref (ad 0) :: st) := fun H locs ls hP hS hL => va_put (D := D) (ci := 8) (C := RX8) (T := TX8) (N := 45) C.1.1 C.1.2.1 C.1.2.2.2.2 inlX8 tyX8 tyX8_ok nmX8 C.1.2.2.2.1 C.2.1 hP (zD_mono (wM_D hI cA u) hA) hS 0 (heM_o cA ad u) rfl 5 (by decide) (C.1.2.2.2.2 _ mfX8_25) (fun _ h9 => h9) rfl (ty := .long) (by decide +kernel) rfl rfl (Nat.le_of_ble_eq_true rfl) hd (fun H1 locs1 hP1 _ hS1 => g H1 locs1 ls hP1 hS1 hL)
def mM_jaw (x1 : Int32) (x2 : Int64) (u : SM) : Option (Int32 × Int32 × Int64) :=
  if (mM_isPlace x1) = 0 then (some ((-1 : Int32), ((M_jaw u), (M_moves u)))) else (if (lg_cmp x2 (0 : Int64)) < 0 then (some ((-2 : Int32), ((M_jaw u), (M_moves u)))) else (if (lg_cmp x2 (1099511627775 : Int64)) ≤ 0 then (some ((M_jaw u), (x1, x2))) else (some ((-2 : Int32), ((M_jaw u), (M_moves u))))))
set_option maxRecDepth 100000 in
set_option maxHeartbeats 4000000 in
theorem cM_jaw {l : Launch} {D : va_G} {cA : Nat → ClassId} {ad : Nat → Nat} {E : zEt} (hI : zInj ad 23) (x1 : Int32) (x2 : Int64) (u : SM) {r : Int32} {w' : Int32 × Int64} (hm : mM_jaw x1 x2 u = some (r, w')) : Met l yX8_jaw (zWs yX8_jaw cX8_jaw 5 (some .int)) (zRm 2) (va_Pc [.ref (ad 0), .int x1, .long x2] (zPre D (zTy cA) E (zAd ad 23) (wM cA ad u))) (zQi r (zBw D (wM cA ad (M_put_jaw_moves w' u))) (zAd ad 23)) 0 0 (zAd ad 23) := by
  refine z_met (lv := [(0, .ref (ad 0)), (1, .int x1), (2, .long x2)]) plX8 rfl rfl (Nat.le_of_ble_eq_true rfl) rfl ?_
  intro p e s m below meth c hC hr hin
  unfold mM_jaw at hm
  refine z_aload_n hC dX8_jaw_0 rfl 0 rfl ?_
  refine z_iload_n hC dX8_jaw_1 rfl 1 rfl ?_
  refine xM_X8_154 hI hC (Nat.le_of_ble_eq_true rfl) dX8_jaw_2 (Nat.le_of_ble_eq_true rfl) ?_
  refine z_if_ne (tgt := 10) hC hm dX8_jaw_5 (by decide) (fun hm => ?_) (fun hm => ?_)
  · refine z_iconst hC dX8_jaw_8 kI_m1 ?_
    exact riM (fin := fun z => M_put_jaw_moves z u) hC hr rfl dX8_jaw_9 hm rfl
  · refine z_lload_n hC dX8_jaw_10 rfl 2 rfl ?_
    refine z_lconst hC dX8_jaw_11 kL_0 ?_
    refine z_lcmp hC dX8_jaw_12 ?_
    refine z_if_lt (tgt := 24) hC hm dX8_jaw_13 (by decide) (fun hm => ?_) (fun hm => ?_)
    · refine z_bipush hC dX8_jaw_24 kB_m2 ?_
      exact riM (fin := fun z => M_put_jaw_moves z u) hC hr rfl dX8_jaw_26 hm rfl
    · refine z_lload_n hC dX8_jaw_16 rfl 2 rfl ?_
      refine z_ldc2 hC mcX8_158 dX8_jaw_17 ?_
      refine z_lcmp hC dX8_jaw_20 ?_
      refine z_if_le (tgt := 27) hC hm dX8_jaw_21 (by decide) (fun hm => ?_) (fun hm => ?_)
      · refine z_aload_n hC dX8_jaw_27 rfl 0 rfl ?_
        refine gM_X8_13_o (v := (M_jaw u)) hC dX8_jaw_28 rfl ?_
        refine z_istore (lv' := [(4, .int (M_jaw u)), (0, .ref (ad 0)), (1, .int x1), (2, .long x2)]) hC dX8_jaw_31 (by decide) rfl ?_
        refine z_aload_n hC dX8_jaw_33 rfl 1 rfl ?_
        refine z_iload_n hC dX8_jaw_34 rfl 2 rfl ?_
        refine pM_X8_13_o hC hI (fun _ h => h) dX8_jaw_35 ?_
        refine zuM (u2 := (M_put_jaw_moves (x1, (M_moves u)) u)) rfl ?_
        refine z_aload_n hC dX8_jaw_38 rfl 1 rfl ?_
        refine z_lload_n hC dX8_jaw_39 rfl 3 rfl ?_
        refine pM_X8_25_o hC hI (fun _ h => h) dX8_jaw_40 ?_
        refine zuM (u2 := (M_put_jaw_moves (x1, x2) u)) rfl ?_
        refine z_iload hC dX8_jaw_43 0 rfl ?_
        exact riM (fin := fun z => M_put_jaw_moves z u) hC hr rfl dX8_jaw_45 hm rfl
      · refine z_bipush hC dX8_jaw_24 kB_m2 ?_
        exact riM (fin := fun z => M_put_jaw_moves z u) hC hr rfl dX8_jaw_26 hm rfl
def M_put_seats_far_side (p : Int32 × (Nat → Int32) × (Nat → Int32)) (u : SM) : SM := ((((u.1.1.1.1, (p.1, u.1.1.1.2.2)), u.1.1.2), u.1.2), ((((u.2.1.1.1.1, p.2.1), (p.2.2, u.2.1.1.2.2)), u.2.1.2), u.2.2))
theorem gM_X8_29_o {p : Program} {l : Launch} {e : Env} {R : Room} {s : State} {m : MethodId} {args : Array Value} {below : List Frame} {meth : Method} {c : Code} {Q : State → Prop} {D : va_G} {A : Nat → Prop} {cc : ByteArray} {nL : Nat} {lv : List (Nat × Value)} {pc : Nat} {st : List Value} {cA : Nat → ClassId} {ad : Nat → Nat} {E : zEt} {u : SM} (C : zC p s m args meth c cc nL RX8 zTS D (zTy cA) A E) (hd : decode cc pc = .ok (.getfield 29, 3)) (g : zG p l e R s m args below meth c nL D A Q (wM cA ad u) lv (pc + 3) (.ref (ad 1) :: st)) : zG p l e R s m args below meth c nL D A Q (wM cA ad u) lv pc (.ref (ad 0) :: st) := by
  exact fun H locs ls hP hS hL => va_get (D := D) (ci := 8) (C := RX8) (T := TX8) (N := 45) C.1.1 C.1.2.1 C.1.2.2.2.2 inlX8 C.1.2.2.2.1 C.2.1 hP 0 (heM_o cA ad u) rfl 6 (by decide) (C.1.2.2.2.2 _ mfX8_29) (fun _ h9 => h9) (v := .ref (ad 1)) rfl hd (g H locs ls hP hS hL)
theorem sM_far {p : Program} {l : Launch} {e : Env} {R : Room} {s : State} {m : MethodId} {args : Array Value} {below : List Frame} {meth : Method} {c : Code} {Q : State → Prop} {D : va_G} {A : Nat → Prop} {cc : ByteArray} {nL : Nat} {lv : List (Nat × Value)} {pc : Nat} {st : List Value} {cA : Nat → ClassId} {ad : Nat → Nat} {E : zEt} {own : String} {u : SM} {i : Int32} {x : Int32} {β : Type} {k : Option β} {r : β} (C : zC p s m args meth c cc nL own zTS D (zTy cA) A E) (hI : zInj ad 23) (hA : ∀ q, zAd ad 23 q → A q) (hm : zgi i 8 k = some r) (hd : decode cc pc = .ok (.iastore, 1)) (g : k = some r → zG p l e R s m args below meth c nL D A Q (wM cA ad (M_set_far (upd (M_far u) i.toNatClampNeg x) u)) lv (pc + 1) st) : zG p l e R s m args below meth c nL D A Q (wM cA ad u) lv pc (.int x :: .int i :: .ref (ad 1) :: st) := fun H locs ls hP hS hL => va_iast C.1.1 C.1.2.1 C.2.1 hP (zD_mono (wM_D hI cA u) hA) hS 1 0 (heM_far cA ad u) rfl (zgi_some hm).1 hd (fun H1 locs1 hP1 _ hS1 => g (zgi_some hm).2 H1 locs1 ls hP1 hS1 hL)
theorem gM_X8_33_o {p : Program} {l : Launch} {e : Env} {R : Room} {s : State} {m : MethodId} {args : Array Value} {below : List Frame} {meth : Method} {c : Code} {Q : State → Prop} {D : va_G} {A : Nat → Prop} {cc : ByteArray} {nL : Nat} {lv : List (Nat × Value)} {pc : Nat} {st : List Value} {cA : Nat → ClassId} {ad : Nat → Nat} {E : zEt} {u : SM} (C : zC p s m args meth c cc nL RX8 zTS D (zTy cA) A E) (hd : decode cc pc = .ok (.getfield 33, 3)) (g : zG p l e R s m args below meth c nL D A Q (wM cA ad u) lv (pc + 3) (.ref (ad 2) :: st)) : zG p l e R s m args below meth c nL D A Q (wM cA ad u) lv pc (.ref (ad 0) :: st) := by
  exact fun H locs ls hP hS hL => va_get (D := D) (ci := 8) (C := RX8) (T := TX8) (N := 45) C.1.1 C.1.2.1 C.1.2.2.2.2 inlX8 C.1.2.2.2.1 C.2.1 hP 0 (heM_o cA ad u) rfl 7 (by decide) (C.1.2.2.2.2 _ mfX8_33) (fun _ h9 => h9) (v := .ref (ad 2)) rfl hd (g H locs ls hP hS hL)
theorem sM_side {p : Program} {l : Launch} {e : Env} {R : Room} {s : State} {m : MethodId} {args : Array Value} {below : List Frame} {meth : Method} {c : Code} {Q : State → Prop} {D : va_G} {A : Nat → Prop} {cc : ByteArray} {nL : Nat} {lv : List (Nat × Value)} {pc : Nat} {st : List Value} {cA : Nat → ClassId} {ad : Nat → Nat} {E : zEt} {own : String} {u : SM} {i : Int32} {x : Int32} {β : Type} {k : Option β} {r : β} (C : zC p s m args meth c cc nL own zTS D (zTy cA) A E) (hI : zInj ad 23) (hA : ∀ q, zAd ad 23 q → A q) (hm : zgi i 8 k = some r) (hd : decode cc pc = .ok (.iastore, 1)) (g : k = some r → zG p l e R s m args below meth c nL D A Q (wM cA ad (M_set_side (upd (M_side u) i.toNatClampNeg x) u)) lv (pc + 1) st) : zG p l e R s m args below meth c nL D A Q (wM cA ad u) lv pc (.int x :: .int i :: .ref (ad 2) :: st) := fun H locs ls hP hS hL => va_iast C.1.1 C.1.2.1 C.2.1 hP (zD_mono (wM_D hI cA u) hA) hS 2 0 (heM_side cA ad u) rfl (zgi_some hm).1 hd (fun H1 locs1 hP1 _ hS1 => g (zgi_some hm).2 H1 locs1 ls hP1 hS1 hL)
theorem pM_X8_16_o {p : Program} {l : Launch} {e : Env} {R : Room} {s : State} {m : MethodId} {args : Array Value} {below : List Frame} {meth : Method} {c : Code} {Q : State → Prop} {D : va_G} {A : Nat → Prop} {cc : ByteArray} {nL : Nat} {lv : List (Nat × Value)} {pc : Nat} {st : List Value} {cA : Nat → ClassId} {ad : Nat → Nat} {E : zEt} {u : SM} {v : Int32} (C : zC p s m args meth c cc nL RX8 zTS D (zTy cA) A E) (hI : zInj ad 23) (hA : ∀ q, zAd ad 23 q → A q) (hd : decode cc pc = .ok (.putfield 16, 3)) (g : zG p l e R s m args below meth c nL D A Q (wM cA ad (M_set_seats v u)) lv (pc + 3) st) : zG p l e R s m args below meth c nL D A Q (wM cA ad u) lv pc (.int v :: .ref (ad 0) :: st) := fun H locs ls hP hS hL => va_put (D := D) (ci := 8) (C := RX8) (T := TX8) (N := 45) C.1.1 C.1.2.1 C.1.2.2.2.2 inlX8 tyX8 tyX8_ok nmX8 C.1.2.2.2.1 C.2.1 hP (zD_mono (wM_D hI cA u) hA) hS 0 (heM_o cA ad u) rfl 2 (by decide) (C.1.2.2.2.2 _ mfX8_16) (fun _ h9 => h9) rfl (ty := .int) (by decide +kernel) rfl rfl (Nat.le_of_ble_eq_true rfl) hd (fun H1 locs1 hP1 _ hS1 => g H1 locs1 ls hP1 hS1 hL)
def mM_seat (x1 : Int32) (x2 : Int32) (u : SM) : Option (Int32 × Int32 × (Nat → Int32) × (Nat → Int32)) :=
  if (mM_in x1 (1 : Int32) (40 : Int32)) = 0 then (some ((-2 : Int32), ((M_seats u), (M_far u), (M_side u)))) else (if (mM_isPlace x2) = 0 then (some ((-1 : Int32), ((M_seats u), (M_far u), (M_side u)))) else (if (M_seats u) = (8 : Int32) then (some ((-4 : Int32), ((M_seats u), (M_far u), (M_side u)))) else (zgi (M_seats u) 8 (zgi (M_seats u) 8 (some ((((M_seats u) + (1 : Int32)) - (1 : Int32)), (((M_seats u) + (1 : Int32)), (upd (M_far u) ((M_seats u)).toNatClampNeg x1), (upd (M_side u) ((M_seats u)).toNatClampNeg x2))))))))
set_option maxRecDepth 100000 in
set_option maxHeartbeats 4000000 in
theorem cM_seat {l : Launch} {D : va_G} {cA : Nat → ClassId} {ad : Nat → Nat} {E : zEt} (hI : zInj ad 23) (x1 : Int32) (x2 : Int32) (u : SM) {r : Int32} {w' : Int32 × (Nat → Int32) × (Nat → Int32)} (hm : mM_seat x1 x2 u = some (r, w')) : Met l yX8_seat (zWs yX8_seat cX8_seat 3 (some .int)) (zRm 2) (va_Pc [.ref (ad 0), .int x1, .int x2] (zPre D (zTy cA) E (zAd ad 23) (wM cA ad u))) (zQi r (zBw D (wM cA ad (M_put_seats_far_side w' u))) (zAd ad 23)) 0 0 (zAd ad 23) := by
  refine z_met (lv := [(0, .ref (ad 0)), (1, .int x1), (2, .int x2)]) plX8 rfl rfl (Nat.le_of_ble_eq_true rfl) rfl ?_
  intro p e s m below meth c hC hr hin
  unfold mM_seat at hm
  refine z_aload_n hC dX8_seat_0 rfl 0 rfl ?_
  refine z_iload_n hC dX8_seat_1 rfl 1 rfl ?_
  refine z_iconst hC dX8_seat_2 kI_1 ?_
  refine z_bipush hC dX8_seat_3 kB_40 ?_
  refine xM_X8_150 hI hC (Nat.le_of_ble_eq_true rfl) dX8_seat_5 (Nat.le_of_ble_eq_true rfl) ?_
  refine z_if_ne (tgt := 14) hC hm dX8_seat_8 (by decide) (fun hm => ?_) (fun hm => ?_)
  · refine z_bipush hC dX8_seat_11 kB_m2 ?_
    exact riM (fin := fun z => M_put_seats_far_side z u) hC hr rfl dX8_seat_13 hm rfl
  · refine z_aload_n hC dX8_seat_14 rfl 0 rfl ?_
    refine z_iload_n hC dX8_seat_15 rfl 2 rfl ?_
    refine xM_X8_154 hI hC (Nat.le_of_ble_eq_true rfl) dX8_seat_16 (Nat.le_of_ble_eq_true rfl) ?_
    refine z_if_ne (tgt := 24) hC hm dX8_seat_19 (by decide) (fun hm => ?_) (fun hm => ?_)
    · refine z_iconst hC dX8_seat_22 kI_m1 ?_
      exact riM (fin := fun z => M_put_seats_far_side z u) hC hr rfl dX8_seat_23 hm rfl
    · refine z_aload_n hC dX8_seat_24 rfl 0 rfl ?_
      refine gM_X8_16_o (v := (M_seats u)) hC dX8_seat_25 rfl ?_
      refine z_bipush hC dX8_seat_28 kB_8 ?_
      refine z_icmp_ne (tgt := 36) hC hm dX8_seat_30 (by decide) (fun hm => ?_) (fun hm => ?_)
      · refine z_bipush hC dX8_seat_33 kB_m4 ?_
        exact riM (fin := fun z => M_put_seats_far_side z u) hC hr rfl dX8_seat_35 hm rfl
      · refine z_aload_n hC dX8_seat_36 rfl 0 rfl ?_
        refine gM_X8_29_o hC dX8_seat_37 ?_
        refine z_aload_n hC dX8_seat_40 rfl 0 rfl ?_
        refine gM_X8_16_o (v := (M_seats u)) hC dX8_seat_41 rfl ?_
        refine z_iload_n hC dX8_seat_44 rfl 1 rfl ?_
        refine sM_far hC hI (fun _ h => h) hm dX8_seat_45 (fun hm => ?_)
        refine zuM (u2 := (M_put_seats_far_side ((M_seats u), (upd (M_far u) ((M_seats u)).toNatClampNeg x1), (M_side u)) u)) rfl ?_
        refine z_aload_n hC dX8_seat_46 rfl 0 rfl ?_
        refine gM_X8_33_o hC dX8_seat_47 ?_
        refine z_aload_n hC dX8_seat_50 rfl 0 rfl ?_
        refine gM_X8_16_o (v := (M_seats u)) hC dX8_seat_51 rfl ?_
        refine z_iload_n hC dX8_seat_54 rfl 2 rfl ?_
        refine sM_side hC hI (fun _ h => h) hm dX8_seat_55 (fun hm => ?_)
        refine zuM (u2 := (M_put_seats_far_side ((M_seats u), (upd (M_far u) ((M_seats u)).toNatClampNeg x1), (upd (M_side u) ((M_seats u)).toNatClampNeg x2)) u)) rfl ?_
        refine z_aload_n hC dX8_seat_56 rfl 0 rfl ?_
        refine z_dup hC dX8_seat_57 rfl ?_
        refine gM_X8_16_o (v := (M_seats u)) hC dX8_seat_58 rfl ?_
        refine z_iconst hC dX8_seat_61 kI_1 ?_
        refine z_iadd hC dX8_seat_62 ?_
        refine pM_X8_16_o hC hI (fun _ h => h) dX8_seat_63 ?_
        refine zuM (u2 := (M_put_seats_far_side (((M_seats u) + (1 : Int32)), (upd (M_far u) ((M_seats u)).toNatClampNeg x1), (upd (M_side u) ((M_seats u)).toNatClampNeg x2)) u)) rfl ?_
        refine z_aload_n hC dX8_seat_66 rfl 0 rfl ?_
        refine gM_X8_16_o (v := ((M_seats u) + (1 : Int32))) hC dX8_seat_67 rfl ?_
        refine z_iconst hC dX8_seat_70 kI_1 ?_
        refine z_isub hC dX8_seat_71 ?_
        exact riM (fin := fun z => M_put_seats_far_side z u) hC hr rfl dX8_seat_72 hm rfl
theorem xM_X8_160 {p : Program} {l : Launch} {e : Env} {s : State} {m : MethodId} {args : Array Value} {below : List Frame} {meth : Method} {c : Code} {Q : State → Prop} {D : va_G} {A : Nat → Prop} {cc : ByteArray} {nL : Nat} {lv : List (Nat × Value)} {pc : Nat} {st : List Value} {cA : Nat → ClassId} {ad : Nat → Nat} {E : zEt} {d : Nat} {x1 : Int32} {u : SM} (hI : zInj ad 23) (C : zC p s m args meth c cc nL RX8 zTS D (zTy cA) A E) (hdm : 1 + 1 ≤ d) (hd : decode cc pc = .ok (.invokevirtual 160, 3)) (h8 : (st.map fun v => v.category).sum ≤ 8) (g : zG p l e (zRm d) s m args below meth c nL D A Q (wM cA ad u) lv (pc + 3) (.int (mM_isSeat x1 u) :: st)) : zG p l e (zRm d) s m args below meth c nL D A Q (wM cA ad u) lv pc (.int x1 :: .ref (ad 0) :: st) :=
  z_calliV C (cM_isSeat hI x1 u rfl) (cwX8_160 C.1.2.2.2.2 rfl rfl ⟨hdm, by have := hdm; simp only [zRm]; omega⟩) hd rfl rfl h8 ⟨_, rfl, rfl⟩ (List.mem_of_getElem? (heM_o cA ad u)) (fun _ h => h) (fun _ h => h.elim) zJ_ro g
theorem aM_far {p : Program} {l : Launch} {e : Env} {R : Room} {s : State} {m : MethodId} {args : Array Value} {below : List Frame} {meth : Method} {c : Code} {Q : State → Prop} {D : va_G} {A : Nat → Prop} {cc : ByteArray} {nL : Nat} {lv : List (Nat × Value)} {pc : Nat} {st : List Value} {cA : Nat → ClassId} {ad : Nat → Nat} {E : zEt} {own : String} {u : SM} {i : Int32} {β : Type} {k : Option β} {r : β} (C : zC p s m args meth c cc nL own zTS D (zTy cA) A E) (hm : zgi i 8 k = some r) (hd : decode cc pc = .ok (.iaload, 1)) (g : k = some r → zG p l e R s m args below meth c nL D A Q (wM cA ad u) lv (pc + 1) (.int (M_far u i.toNatClampNeg) :: st)) : zG p l e R s m args below meth c nL D A Q (wM cA ad u) lv pc (.int i :: .ref (ad 1) :: st) := fun H locs ls hP hS hL => va_iald C.1.1 C.1.2.1 C.2.1 hP 1 0 (heM_far cA ad u) rfl (zgi_some hm).1 hd (g (zgi_some hm).2 H locs ls hP hS hL)
theorem aM_side {p : Program} {l : Launch} {e : Env} {R : Room} {s : State} {m : MethodId} {args : Array Value} {below : List Frame} {meth : Method} {c : Code} {Q : State → Prop} {D : va_G} {A : Nat → Prop} {cc : ByteArray} {nL : Nat} {lv : List (Nat × Value)} {pc : Nat} {st : List Value} {cA : Nat → ClassId} {ad : Nat → Nat} {E : zEt} {own : String} {u : SM} {i : Int32} {β : Type} {k : Option β} {r : β} (C : zC p s m args meth c cc nL own zTS D (zTy cA) A E) (hm : zgi i 8 k = some r) (hd : decode cc pc = .ok (.iaload, 1)) (g : k = some r → zG p l e R s m args below meth c nL D A Q (wM cA ad u) lv (pc + 1) (.int (M_side u i.toNatClampNeg) :: st)) : zG p l e R s m args below meth c nL D A Q (wM cA ad u) lv pc (.int i :: .ref (ad 2) :: st) := fun H locs ls hP hS hL => va_iald C.1.1 C.1.2.1 C.2.1 hP 2 0 (heM_side cA ad u) rfl (zgi_some hm).1 hd (g (zgi_some hm).2 H locs ls hP hS hL)
def mM_of (x1 : Int32) (x2 : Int32) (u : SM) : Option Int32 :=
  if (mM_isSeat x1 u) = 0 then (some (-1 : Int32)) else (if (mM_in x2 (0 : Int32) (1 : Int32)) = 0 then (some (-1 : Int32)) else (if x2 = 0 then (zgi x1 8 (some ((M_far u) (x1).toNatClampNeg))) else (zgi x1 8 (some ((M_side u) (x1).toNatClampNeg)))))
set_option maxRecDepth 100000 in
set_option maxHeartbeats 4000000 in
theorem cM_of {l : Launch} {D : va_G} {cA : Nat → ClassId} {ad : Nat → Nat} {E : zEt} (hI : zInj ad 23) (x1 : Int32) (x2 : Int32) (u : SM) {r : Int32} (hm : mM_of x1 x2 u = some r) : Met l yX8_of (zWs yX8_of cX8_of 3 (some .int)) (zRm 2) (va_Pc [.ref (ad 0), .int x1, .int x2] (zPre D (zTy cA) E zA0 (wM cA ad u))) (zQi r zB0 zA0) 0 0 zA0 := by
  refine z_met (lv := [(0, .ref (ad 0)), (1, .int x1), (2, .int x2)]) plX8 rfl rfl (Nat.le_of_ble_eq_true rfl) rfl ?_
  intro p e s m below meth c hC hr hin
  unfold mM_of at hm
  refine z_aload_n hC dX8_of_0 rfl 0 rfl ?_
  refine z_iload_n hC dX8_of_1 rfl 1 rfl ?_
  refine xM_X8_160 hI hC (Nat.le_of_ble_eq_true rfl) dX8_of_2 (Nat.le_of_ble_eq_true rfl) ?_
  refine z_if_eq (tgt := 18) hC hm dX8_of_5 (by decide) (fun hm => ?_) (fun hm => ?_)
  · refine z_iconst hC dX8_of_18 kI_m1 ?_
    refine z_goto (tgt := 41) hC dX8_of_19 (by decide) ?_
    exact z_iret hC hr rfl dX8_of_41 (fun _ _ => trivial) (Option.some.inj hm)
  · refine z_aload_n hC dX8_of_8 rfl 0 rfl ?_
    refine z_iload_n hC dX8_of_9 rfl 2 rfl ?_
    refine z_iconst hC dX8_of_10 kI_0 ?_
    refine z_iconst hC dX8_of_11 kI_1 ?_
    refine xM_X8_150 hI hC (Nat.le_of_ble_eq_true rfl) dX8_of_12 (Nat.le_of_ble_eq_true rfl) ?_
    refine z_if_ne (tgt := 22) hC hm dX8_of_15 (by decide) (fun hm => ?_) (fun hm => ?_)
    · refine z_iconst hC dX8_of_18 kI_m1 ?_
      refine z_goto (tgt := 41) hC dX8_of_19 (by decide) ?_
      exact z_iret hC hr rfl dX8_of_41 (fun _ _ => trivial) (Option.some.inj hm)
    · refine z_iload_n hC dX8_of_22 rfl 2 rfl ?_
      refine z_if_ne (tgt := 35) hC hm dX8_of_23 (by decide) (fun hm => ?_) (fun hm => ?_)
      · refine z_aload_n hC dX8_of_26 rfl 0 rfl ?_
        refine gM_X8_29_o hC dX8_of_27 ?_
        refine z_iload_n hC dX8_of_30 rfl 1 rfl ?_
        refine aM_far hC hm dX8_of_31 (fun hm => ?_)
        refine z_goto (tgt := 41) hC dX8_of_32 (by decide) ?_
        exact z_iret hC hr rfl dX8_of_41 (fun _ _ => trivial) (Option.some.inj hm)
      · refine z_aload_n hC dX8_of_35 rfl 0 rfl ?_
        refine gM_X8_33_o hC dX8_of_36 ?_
        refine z_iload_n hC dX8_of_39 rfl 1 rfl ?_
        refine aM_side hC hm dX8_of_40 (fun hm => ?_)
        exact z_iret hC hr rfl dX8_of_41 (fun _ _ => trivial) (Option.some.inj hm)
theorem pM_X8_19_o {p : Program} {l : Launch} {e : Env} {R : Room} {s : State} {m : MethodId} {args : Array Value} {below : List Frame} {meth : Method} {c : Code} {Q : State → Prop} {D : va_G} {A : Nat → Prop} {cc : ByteArray} {nL : Nat} {lv : List (Nat × Value)} {pc : Nat} {st : List Value} {cA : Nat → ClassId} {ad : Nat → Nat} {E : zEt} {u : SM} {v : Int32} (C : zC p s m args meth c cc nL RX8 zTS D (zTy cA) A E) (hI : zInj ad 23) (hA : ∀ q, zAd ad 23 q → A q) (hd : decode cc pc = .ok (.putfield 19, 3)) (g : zG p l e R s m args below meth c nL D A Q (wM cA ad (M_set_letters v u)) lv (pc + 3) st) : zG p l e R s m args below meth c nL D A Q (wM cA ad u) lv pc (.int v :: .ref (ad 0) :: st) := fun H locs ls hP hS hL => va_put (D := D) (ci := 8) (C := RX8) (T := TX8) (N := 45) C.1.1 C.1.2.1 C.1.2.2.2.2 inlX8 tyX8 tyX8_ok nmX8 C.1.2.2.2.1 C.2.1 hP (zD_mono (wM_D hI cA u) hA) hS 0 (heM_o cA ad u) rfl 3 (by decide) (C.1.2.2.2.2 _ mfX8_19) (fun _ h9 => h9) rfl (ty := .int) (by decide +kernel) rfl rfl (Nat.le_of_ble_eq_true rfl) hd (fun H1 locs1 hP1 _ hS1 => g H1 locs1 ls hP1 hS1 hL)
def M_put_letters_letter (p : Int32 × (Nat → Int32)) (u : SM) : SM := ((((u.1.1.1.1, (u.1.1.1.2.1, (p.1, u.1.1.1.2.2.2))), u.1.1.2), u.1.2), (((u.2.1.1.1, (u.2.1.1.2.1, (p.2, u.2.1.1.2.2.2))), u.2.1.2), u.2.2))
theorem gM_X8_19_o {p : Program} {l : Launch} {e : Env} {R : Room} {s : State} {m : MethodId} {args : Array Value} {below : List Frame} {meth : Method} {c : Code} {Q : State → Prop} {D : va_G} {A : Nat → Prop} {cc : ByteArray} {nL : Nat} {lv : List (Nat × Value)} {pc : Nat} {st : List Value} {cA : Nat → ClassId} {ad : Nat → Nat} {E : zEt} {u : SM} (C : zC p s m args meth c cc nL RX8 zTS D (zTy cA) A E) (hd : decode cc pc = .ok (.getfield 19, 3)) {v : Int32} (hv : M_letters u = v) (g : zG p l e R s m args below meth c nL D A Q (wM cA ad u) lv (pc + 3) (.int v :: st)) : zG p l e R s m args below meth c nL D A Q (wM cA ad u) lv pc (.ref (ad 0) :: st) := by
  subst hv; exact fun H locs ls hP hS hL => va_get (D := D) (ci := 8) (C := RX8) (T := TX8) (N := 45) C.1.1 C.1.2.1 C.1.2.2.2.2 inlX8 C.1.2.2.2.1 C.2.1 hP 0 (heM_o cA ad u) rfl 3 (by decide) (C.1.2.2.2.2 _ mfX8_19) (fun _ h9 => h9) (v := .int (M_letters u)) rfl hd (g H locs ls hP hS hL)
theorem gM_X8_36_o {p : Program} {l : Launch} {e : Env} {R : Room} {s : State} {m : MethodId} {args : Array Value} {below : List Frame} {meth : Method} {c : Code} {Q : State → Prop} {D : va_G} {A : Nat → Prop} {cc : ByteArray} {nL : Nat} {lv : List (Nat × Value)} {pc : Nat} {st : List Value} {cA : Nat → ClassId} {ad : Nat → Nat} {E : zEt} {u : SM} (C : zC p s m args meth c cc nL RX8 zTS D (zTy cA) A E) (hd : decode cc pc = .ok (.getfield 36, 3)) (g : zG p l e R s m args below meth c nL D A Q (wM cA ad u) lv (pc + 3) (.ref (ad 3) :: st)) : zG p l e R s m args below meth c nL D A Q (wM cA ad u) lv pc (.ref (ad 0) :: st) := by
  exact fun H locs ls hP hS hL => va_get (D := D) (ci := 8) (C := RX8) (T := TX8) (N := 45) C.1.1 C.1.2.1 C.1.2.2.2.2 inlX8 C.1.2.2.2.1 C.2.1 hP 0 (heM_o cA ad u) rfl 8 (by decide) (C.1.2.2.2.2 _ mfX8_36) (fun _ h9 => h9) (v := .ref (ad 3)) rfl hd (g H locs ls hP hS hL)
theorem sM_letter {p : Program} {l : Launch} {e : Env} {R : Room} {s : State} {m : MethodId} {args : Array Value} {below : List Frame} {meth : Method} {c : Code} {Q : State → Prop} {D : va_G} {A : Nat → Prop} {cc : ByteArray} {nL : Nat} {lv : List (Nat × Value)} {pc : Nat} {st : List Value} {cA : Nat → ClassId} {ad : Nat → Nat} {E : zEt} {own : String} {u : SM} {i : Int32} {x : Int32} {β : Type} {k : Option β} {r : β} (C : zC p s m args meth c cc nL own zTS D (zTy cA) A E) (hI : zInj ad 23) (hA : ∀ q, zAd ad 23 q → A q) (hm : zgi i 20 k = some r) (hd : decode cc pc = .ok (.iastore, 1)) (g : k = some r → zG p l e R s m args below meth c nL D A Q (wM cA ad (M_set_letter (upd (M_letter u) i.toNatClampNeg x) u)) lv (pc + 1) st) : zG p l e R s m args below meth c nL D A Q (wM cA ad u) lv pc (.int x :: .int i :: .ref (ad 3) :: st) := fun H locs ls hP hS hL => va_iast C.1.1 C.1.2.1 C.2.1 hP (zD_mono (wM_D hI cA u) hA) hS 3 0 (heM_letter cA ad u) rfl (zgi_some hm).1 hd (fun H1 locs1 hP1 _ hS1 => g (zgi_some hm).2 H1 locs1 ls hP1 hS1 hL)
def mM_say (x1 : Int32) (u : SM) : Option (Int32 × Int32 × (Nat → Int32)) :=
  if x1 = (-1 : Int32) then (some ((0 : Int32), ((0 : Int32), (M_letter u)))) else (if (mM_in x1 (0 : Int32) (9 : Int32)) = 0 then (some ((-1 : Int32), ((M_letters u), (M_letter u)))) else (if (M_letters u) = (20 : Int32) then (some ((-4 : Int32), ((M_letters u), (M_letter u)))) else (zgi (M_letters u) 20 (some (((M_letters u) + (1 : Int32)), (((M_letters u) + (1 : Int32)), (upd (M_letter u) ((M_letters u)).toNatClampNeg x1)))))))
set_option maxRecDepth 100000 in
set_option maxHeartbeats 4000000 in
theorem cM_say {l : Launch} {D : va_G} {cA : Nat → ClassId} {ad : Nat → Nat} {E : zEt} (hI : zInj ad 23) (x1 : Int32) (u : SM) {r : Int32} {w' : Int32 × (Nat → Int32)} (hm : mM_say x1 u = some (r, w')) : Met l yX8_say (zWs yX8_say cX8_say 2 (some .int)) (zRm 1) (va_Pc [.ref (ad 0), .int x1] (zPre D (zTy cA) E (zAd ad 23) (wM cA ad u))) (zQi r (zBw D (wM cA ad (M_put_letters_letter w' u))) (zAd ad 23)) 0 0 (zAd ad 23) := by
  refine z_met (lv := [(0, .ref (ad 0)), (1, .int x1)]) plX8 rfl rfl (Nat.le_of_ble_eq_true rfl) rfl ?_
  intro p e s m below meth c hC hr hin
  unfold mM_say at hm
  refine z_iload_n hC dX8_say_0 rfl 1 rfl ?_
  refine z_iconst hC dX8_say_1 kI_m1 ?_
  refine z_icmp_ne (tgt := 12) hC hm dX8_say_2 (by decide) (fun hm => ?_) (fun hm => ?_)
  · refine z_aload_n hC dX8_say_5 rfl 0 rfl ?_
    refine z_iconst hC dX8_say_6 kI_0 ?_
    refine pM_X8_19_o hC hI (fun _ h => h) dX8_say_7 ?_
    refine zuM (u2 := (M_put_letters_letter ((0 : Int32), (M_letter u)) u)) rfl ?_
    refine z_iconst hC dX8_say_10 kI_0 ?_
    exact riM (fin := fun z => M_put_letters_letter z u) hC hr rfl dX8_say_11 hm rfl
  · refine z_aload_n hC dX8_say_12 rfl 0 rfl ?_
    refine z_iload_n hC dX8_say_13 rfl 1 rfl ?_
    refine z_iconst hC dX8_say_14 kI_0 ?_
    refine z_bipush hC dX8_say_15 kB_9 ?_
    refine xM_X8_150 hI hC (Nat.le_of_ble_eq_true rfl) dX8_say_17 (Nat.le_of_ble_eq_true rfl) ?_
    refine z_if_ne (tgt := 25) hC hm dX8_say_20 (by decide) (fun hm => ?_) (fun hm => ?_)
    · refine z_iconst hC dX8_say_23 kI_m1 ?_
      exact riM (fin := fun z => M_put_letters_letter z u) hC hr rfl dX8_say_24 hm rfl
    · refine z_aload_n hC dX8_say_25 rfl 0 rfl ?_
      refine gM_X8_19_o (v := (M_letters u)) hC dX8_say_26 rfl ?_
      refine z_bipush hC dX8_say_29 kB_20 ?_
      refine z_icmp_ne (tgt := 37) hC hm dX8_say_31 (by decide) (fun hm => ?_) (fun hm => ?_)
      · refine z_bipush hC dX8_say_34 kB_m4 ?_
        exact riM (fin := fun z => M_put_letters_letter z u) hC hr rfl dX8_say_36 hm rfl
      · refine z_aload_n hC dX8_say_37 rfl 0 rfl ?_
        refine gM_X8_36_o hC dX8_say_38 ?_
        refine z_aload_n hC dX8_say_41 rfl 0 rfl ?_
        refine gM_X8_19_o (v := (M_letters u)) hC dX8_say_42 rfl ?_
        refine z_iload_n hC dX8_say_45 rfl 1 rfl ?_
        refine sM_letter hC hI (fun _ h => h) hm dX8_say_46 (fun hm => ?_)
        refine zuM (u2 := (M_put_letters_letter ((M_letters u), (upd (M_letter u) ((M_letters u)).toNatClampNeg x1)) u)) rfl ?_
        refine z_aload_n hC dX8_say_47 rfl 0 rfl ?_
        refine z_dup hC dX8_say_48 rfl ?_
        refine gM_X8_19_o (v := (M_letters u)) hC dX8_say_49 rfl ?_
        refine z_iconst hC dX8_say_52 kI_1 ?_
        refine z_iadd hC dX8_say_53 ?_
        refine pM_X8_19_o hC hI (fun _ h => h) dX8_say_54 ?_
        refine zuM (u2 := (M_put_letters_letter (((M_letters u) + (1 : Int32)), (upd (M_letter u) ((M_letters u)).toNatClampNeg x1)) u)) rfl ?_
        refine z_aload_n hC dX8_say_57 rfl 0 rfl ?_
        refine gM_X8_19_o (v := ((M_letters u) + (1 : Int32))) hC dX8_say_58 rfl ?_
        exact riM (fin := fun z => M_put_letters_letter z u) hC hr rfl dX8_say_61 hm rfl
def M_put_fed_text (p : Int32 × (Nat → Int32)) (u : SM) : SM := (((u.1.1.1, (u.1.1.2.1, (p.1, u.1.1.2.2.2))), u.1.2), (((u.2.1.1.1, (u.2.1.1.2.1, (u.2.1.1.2.2.1, p.2))), u.2.1.2), u.2.2))
theorem gM_X8_45_o {p : Program} {l : Launch} {e : Env} {R : Room} {s : State} {m : MethodId} {args : Array Value} {below : List Frame} {meth : Method} {c : Code} {Q : State → Prop} {D : va_G} {A : Nat → Prop} {cc : ByteArray} {nL : Nat} {lv : List (Nat × Value)} {pc : Nat} {st : List Value} {cA : Nat → ClassId} {ad : Nat → Nat} {E : zEt} {u : SM} (C : zC p s m args meth c cc nL RX8 zTS D (zTy cA) A E) (hd : decode cc pc = .ok (.getfield 45, 3)) {v : Int32} (hv : M_fed u = v) (g : zG p l e R s m args below meth c nL D A Q (wM cA ad u) lv (pc + 3) (.int v :: st)) : zG p l e R s m args below meth c nL D A Q (wM cA ad u) lv pc (.ref (ad 0) :: st) := by
  subst hv; exact fun H locs ls hP hS hL => va_get (D := D) (ci := 8) (C := RX8) (T := TX8) (N := 45) C.1.1 C.1.2.1 C.1.2.2.2.2 inlX8 C.1.2.2.2.1 C.2.1 hP 0 (heM_o cA ad u) rfl 11 (by decide) (C.1.2.2.2.2 _ mfX8_45) (fun _ h9 => h9) (v := .int (M_fed u)) rfl hd (g H locs ls hP hS hL)
theorem gM_X8_54_o {p : Program} {l : Launch} {e : Env} {R : Room} {s : State} {m : MethodId} {args : Array Value} {below : List Frame} {meth : Method} {c : Code} {Q : State → Prop} {D : va_G} {A : Nat → Prop} {cc : ByteArray} {nL : Nat} {lv : List (Nat × Value)} {pc : Nat} {st : List Value} {cA : Nat → ClassId} {ad : Nat → Nat} {E : zEt} {u : SM} (C : zC p s m args meth c cc nL RX8 zTS D (zTy cA) A E) (hd : decode cc pc = .ok (.getfield 54, 3)) (g : zG p l e R s m args below meth c nL D A Q (wM cA ad u) lv (pc + 3) (.ref (ad 4) :: st)) : zG p l e R s m args below meth c nL D A Q (wM cA ad u) lv pc (.ref (ad 0) :: st) := by
  exact fun H locs ls hP hS hL => va_get (D := D) (ci := 8) (C := RX8) (T := TX8) (N := 45) C.1.1 C.1.2.1 C.1.2.2.2.2 inlX8 C.1.2.2.2.1 C.2.1 hP 0 (heM_o cA ad u) rfl 14 (by decide) (C.1.2.2.2.2 _ mfX8_54) (fun _ h9 => h9) (v := .ref (ad 4)) rfl hd (g H locs ls hP hS hL)
theorem sM_text {p : Program} {l : Launch} {e : Env} {R : Room} {s : State} {m : MethodId} {args : Array Value} {below : List Frame} {meth : Method} {c : Code} {Q : State → Prop} {D : va_G} {A : Nat → Prop} {cc : ByteArray} {nL : Nat} {lv : List (Nat × Value)} {pc : Nat} {st : List Value} {cA : Nat → ClassId} {ad : Nat → Nat} {E : zEt} {own : String} {u : SM} {i : Int32} {x : Int32} {β : Type} {k : Option β} {r : β} (C : zC p s m args meth c cc nL own zTS D (zTy cA) A E) (hI : zInj ad 23) (hA : ∀ q, zAd ad 23 q → A q) (hm : zgi i 100 k = some r) (hd : decode cc pc = .ok (.iastore, 1)) (g : k = some r → zG p l e R s m args below meth c nL D A Q (wM cA ad (M_set_text (upd (M_text u) i.toNatClampNeg x) u)) lv (pc + 1) st) : zG p l e R s m args below meth c nL D A Q (wM cA ad u) lv pc (.int x :: .int i :: .ref (ad 4) :: st) := fun H locs ls hP hS hL => va_iast C.1.1 C.1.2.1 C.2.1 hP (zD_mono (wM_D hI cA u) hA) hS 4 0 (heM_text cA ad u) rfl (zgi_some hm).1 hd (fun H1 locs1 hP1 _ hS1 => g (zgi_some hm).2 H1 locs1 ls hP1 hS1 hL)
theorem pM_X8_45_o {p : Program} {l : Launch} {e : Env} {R : Room} {s : State} {m : MethodId} {args : Array Value} {below : List Frame} {meth : Method} {c : Code} {Q : State → Prop} {D : va_G} {A : Nat → Prop} {cc : ByteArray} {nL : Nat} {lv : List (Nat × Value)} {pc : Nat} {st : List Value} {cA : Nat → ClassId} {ad : Nat → Nat} {E : zEt} {u : SM} {v : Int32} (C : zC p s m args meth c cc nL RX8 zTS D (zTy cA) A E) (hI : zInj ad 23) (hA : ∀ q, zAd ad 23 q → A q) (hd : decode cc pc = .ok (.putfield 45, 3)) (g : zG p l e R s m args below meth c nL D A Q (wM cA ad (M_set_fed v u)) lv (pc + 3) st) : zG p l e R s m args below meth c nL D A Q (wM cA ad u) lv pc (.int v :: .ref (ad 0) :: st) := fun H locs ls hP hS hL => va_put (D := D) (ci := 8) (C := RX8) (T := TX8) (N := 45) C.1.1 C.1.2.1 C.1.2.2.2.2 inlX8 tyX8 tyX8_ok nmX8 C.1.2.2.2.1 C.2.1 hP (zD_mono (wM_D hI cA u) hA) hS 0 (heM_o cA ad u) rfl 11 (by decide) (C.1.2.2.2.2 _ mfX8_45) (fun _ h9 => h9) rfl (ty := .int) (by decide +kernel) rfl rfl (Nat.le_of_ble_eq_true rfl) hd (fun H1 locs1 hP1 _ hS1 => g H1 locs1 ls hP1 hS1 hL)
def mM_feed_L31 (x1 : Int32) : Nat → Int32 → SM → Option (Int32 × Int32 × (Nat → Int32))
  | 0, _, _ => none
  | n + 1, x3, u => if x3 < 0 then (some ((M_fed u), ((M_fed u), (M_text u)))) else (zgi (M_fed u) 100 (mM_feed_L31 x1 n (x3 + (-1 : Int32)) (M_put_fed_text (((M_fed u) + (1 : Int32)), (upd (M_text u) ((M_fed u)).toNatClampNeg (((x1 >>> (((8 : Int32) * x3) &&& 31))).toInt8.toInt32))) u)))
set_option maxRecDepth 100000 in
set_option maxHeartbeats 4000000 in
theorem lM_feed_31 {l : Launch} {D : va_G} {cA : Nat → ClassId} {ad : Nat → Nat} {p : Program} {e : Env} {s : State} {m : MethodId} {args : Array Value} {below : List Frame} {meth : Method} {c : Code} {E : zEt} {r : Int32} {w' : Int32 × (Nat → Int32)}  {x1 : Int32} (hI : zInj ad 23) (hC : zC p s m args meth c cX8_feed 4 RX8 zTS D (zTy cA) (zAd ad 23) E) (hr : meth.sig.returnType = (some .int)) : ∀ (n : Nat) (x3 : Int32) (u : SM), mM_feed_L31 x1 n x3 u = some (r, w') → zG p l e (zRm 1) s m args below meth c 4 D (zAd ad 23) (MQ below (zQi r (zBw D (wM cA ad (M_put_fed_text w' u))) (zAd ad 23)) args s 0 0 (zAd ad 23)) (wM cA ad u) [(0, .ref (ad 0)), (1, .int x1), (3, .int x3)] 31 [] := by
  intro n
  induction n with
  | zero => intro x3 u hm; exact z_none hm
  | succ n ih =>
    intro x3 u hm
    rw [mM_feed_L31] at hm
    refine z_iload_n hC dX8_feed_31 rfl 2 rfl ?_
    refine z_if_lt (tgt := 67) hC hm dX8_feed_32 (by decide) (fun hm => ?_) (fun hm => ?_)
    · refine z_aload_n hC dX8_feed_67 rfl 0 rfl ?_
      refine gM_X8_45_o (v := (M_fed u)) hC dX8_feed_68 rfl ?_
      exact riM (fin := fun z => M_put_fed_text z u) hC hr rfl dX8_feed_71 hm rfl
    · refine z_aload_n hC dX8_feed_35 rfl 0 rfl ?_
      refine gM_X8_54_o hC dX8_feed_36 ?_
      refine z_aload_n hC dX8_feed_39 rfl 0 rfl ?_
      refine gM_X8_45_o (v := (M_fed u)) hC dX8_feed_40 rfl ?_
      refine z_iload_n hC dX8_feed_43 rfl 1 rfl ?_
      refine z_bipush hC dX8_feed_44 kB_8 ?_
      refine z_iload_n hC dX8_feed_46 rfl 2 rfl ?_
      refine z_imul hC dX8_feed_47 ?_
      refine z_ishr hC dX8_feed_48 ?_
      refine z_i2b hC dX8_feed_49 ?_
      refine sM_text hC hI (fun _ h => h) hm dX8_feed_50 (fun hm => ?_)
      refine zuM (u2 := (M_put_fed_text ((M_fed u), (upd (M_text u) ((M_fed u)).toNatClampNeg (((x1 >>> (((8 : Int32) * x3) &&& 31))).toInt8.toInt32))) u)) rfl ?_
      refine z_aload_n hC dX8_feed_51 rfl 0 rfl ?_
      refine z_dup hC dX8_feed_52 rfl ?_
      refine gM_X8_45_o (v := (M_fed u)) hC dX8_feed_53 rfl ?_
      refine z_iconst hC dX8_feed_56 kI_1 ?_
      refine z_iadd hC dX8_feed_57 ?_
      refine pM_X8_45_o hC hI (fun _ h => h) dX8_feed_58 ?_
      refine zuM (u2 := (M_put_fed_text (((M_fed u) + (1 : Int32)), (upd (M_text u) ((M_fed u)).toNatClampNeg (((x1 >>> (((8 : Int32) * x3) &&& 31))).toInt8.toInt32))) u)) rfl ?_
      refine z_iinc (lv' := [(3, .int (x3 + (-1 : Int32))), (0, .ref (ad 0)), (1, .int x1)]) (k := 2) (v := (x3 + (-1 : Int32))) hC dX8_feed_61 rfl rfl (by decide) rfl ?_
      refine z_goto (tgt := 31) hC dX8_feed_64 (by decide) ?_
      refine z_lv hC [1, 2, 0] rfl ?_
      exact ih _ _ hm
def mM_feed (x1 : Int32) (x2 : Int32) (u : SM) : Option (Int32 × Int32 × (Nat → Int32)) :=
  if (mM_in x2 (0 : Int32) (4 : Int32)) = 0 then (some ((-2 : Int32), ((M_fed u), (M_text u)))) else (if ((M_fed u) + x2) ≤ (100 : Int32) then (mM_feed_L31 x1 256 (x2 - (1 : Int32)) u) else (some ((-4 : Int32), ((M_fed u), (M_text u)))))
set_option maxRecDepth 100000 in
set_option maxHeartbeats 4000000 in
theorem cM_feed {l : Launch} {D : va_G} {cA : Nat → ClassId} {ad : Nat → Nat} {E : zEt} (hI : zInj ad 23) (x1 : Int32) (x2 : Int32) (u : SM) {r : Int32} {w' : Int32 × (Nat → Int32)} (hm : mM_feed x1 x2 u = some (r, w')) : Met l yX8_feed (zWs yX8_feed cX8_feed 4 (some .int)) (zRm 1) (va_Pc [.ref (ad 0), .int x1, .int x2] (zPre D (zTy cA) E (zAd ad 23) (wM cA ad u))) (zQi r (zBw D (wM cA ad (M_put_fed_text w' u))) (zAd ad 23)) 0 0 (zAd ad 23) := by
  refine z_met (lv := [(0, .ref (ad 0)), (1, .int x1), (2, .int x2)]) plX8 rfl rfl (Nat.le_of_ble_eq_true rfl) rfl ?_
  intro p e s m below meth c hC hr hin
  unfold mM_feed at hm
  refine z_aload_n hC dX8_feed_0 rfl 0 rfl ?_
  refine z_iload_n hC dX8_feed_1 rfl 2 rfl ?_
  refine z_iconst hC dX8_feed_2 kI_0 ?_
  refine z_iconst hC dX8_feed_3 kI_4 ?_
  refine xM_X8_150 hI hC (Nat.le_of_ble_eq_true rfl) dX8_feed_4 (Nat.le_of_ble_eq_true rfl) ?_
  refine z_if_ne (tgt := 13) hC hm dX8_feed_7 (by decide) (fun hm => ?_) (fun hm => ?_)
  · refine z_bipush hC dX8_feed_10 kB_m2 ?_
    exact riM (fin := fun z => M_put_fed_text z u) hC hr rfl dX8_feed_12 hm rfl
  · refine z_aload_n hC dX8_feed_13 rfl 0 rfl ?_
    refine gM_X8_45_o (v := (M_fed u)) hC dX8_feed_14 rfl ?_
    refine z_iload_n hC dX8_feed_17 rfl 2 rfl ?_
    refine z_iadd hC dX8_feed_18 ?_
    refine z_bipush hC dX8_feed_19 kB_100 ?_
    refine z_icmp_le (tgt := 27) hC hm dX8_feed_21 (by decide) (fun hm => ?_) (fun hm => ?_)
    · refine z_iload_n hC dX8_feed_27 rfl 2 rfl ?_
      refine z_iconst hC dX8_feed_28 kI_1 ?_
      refine z_isub hC dX8_feed_29 ?_
      refine z_istore_n (lv' := [(3, .int (x2 - (1 : Int32))), (0, .ref (ad 0)), (1, .int x1), (2, .int x2)]) hC dX8_feed_30 rfl (by decide) rfl ?_
      refine z_lv hC [1, 2, 0] rfl ?_
      exact lM_feed_31 hI hC hr _ _ _ hm
    · refine z_bipush hC dX8_feed_24 kB_m4 ?_
      exact riM (fin := fun z => M_put_fed_text z u) hC hr rfl dX8_feed_26 hm rfl
theorem gM_X8_48_o {p : Program} {l : Launch} {e : Env} {R : Room} {s : State} {m : MethodId} {args : Array Value} {below : List Frame} {meth : Method} {c : Code} {Q : State → Prop} {D : va_G} {A : Nat → Prop} {cc : ByteArray} {nL : Nat} {lv : List (Nat × Value)} {pc : Nat} {st : List Value} {cA : Nat → ClassId} {ad : Nat → Nat} {E : zEt} {u : SM} (C : zC p s m args meth c cc nL RX8 zTS D (zTy cA) A E) (hd : decode cc pc = .ok (.getfield 48, 3)) {v : Int32} (hv : M_at u = v) (g : zG p l e R s m args below meth c nL D A Q (wM cA ad u) lv (pc + 3) (.int v :: st)) : zG p l e R s m args below meth c nL D A Q (wM cA ad u) lv pc (.ref (ad 0) :: st) := by
  subst hv; exact fun H locs ls hP hS hL => va_get (D := D) (ci := 8) (C := RX8) (T := TX8) (N := 45) C.1.1 C.1.2.1 C.1.2.2.2.2 inlX8 C.1.2.2.2.1 C.2.1 hP 0 (heM_o cA ad u) rfl 12 (by decide) (C.1.2.2.2.2 _ mfX8_48) (fun _ h9 => h9) (v := .int (M_at u)) rfl hd (g H locs ls hP hS hL)
theorem aM_text {p : Program} {l : Launch} {e : Env} {R : Room} {s : State} {m : MethodId} {args : Array Value} {below : List Frame} {meth : Method} {c : Code} {Q : State → Prop} {D : va_G} {A : Nat → Prop} {cc : ByteArray} {nL : Nat} {lv : List (Nat × Value)} {pc : Nat} {st : List Value} {cA : Nat → ClassId} {ad : Nat → Nat} {E : zEt} {own : String} {u : SM} {i : Int32} {β : Type} {k : Option β} {r : β} (C : zC p s m args meth c cc nL own zTS D (zTy cA) A E) (hm : zgi i 100 k = some r) (hd : decode cc pc = .ok (.iaload, 1)) (g : k = some r → zG p l e R s m args below meth c nL D A Q (wM cA ad u) lv (pc + 1) (.int (M_text u i.toNatClampNeg) :: st)) : zG p l e R s m args below meth c nL D A Q (wM cA ad u) lv pc (.int i :: .ref (ad 4) :: st) := fun H locs ls hP hS hL => va_iald C.1.1 C.1.2.1 C.2.1 hP 4 0 (heM_text cA ad u) rfl (zgi_some hm).1 hd (g (zgi_some hm).2 H locs ls hP hS hL)
def mM_next (u : SM) : Option Int32 :=
  if (M_fed u) ≤ (M_at u) then (some (-1 : Int32)) else (zgi (M_at u) 100 (some ((M_text u) ((M_at u)).toNatClampNeg)))
set_option maxRecDepth 100000 in
set_option maxHeartbeats 4000000 in
theorem cM_next {l : Launch} {D : va_G} {cA : Nat → ClassId} {ad : Nat → Nat} {E : zEt} (hI : zInj ad 23) (u : SM) {r : Int32} (hm : mM_next u = some r) : Met l yX8_next (zWs yX8_next cX8_next 1 (some .int)) (zRm 0) (va_Pc [.ref (ad 0)] (zPre D (zTy cA) E zA0 (wM cA ad u))) (zQi r zB0 zA0) 0 0 zA0 := by
  refine z_met (lv := [(0, .ref (ad 0))]) plX8 rfl rfl (Nat.le_of_ble_eq_true rfl) rfl ?_
  intro p e s m below meth c hC hr hin
  unfold mM_next at hm
  refine z_aload_n hC dX8_next_0 rfl 0 rfl ?_
  refine gM_X8_48_o (v := (M_at u)) hC dX8_next_1 rfl ?_
  refine z_aload_n hC dX8_next_4 rfl 0 rfl ?_
  refine gM_X8_45_o (v := (M_fed u)) hC dX8_next_5 rfl ?_
  refine z_icmp_ge (tgt := 23) hC hm dX8_next_8 (by decide) (fun hm => ?_) (fun hm => ?_)
  · refine z_iconst hC dX8_next_23 kI_m1 ?_
    exact z_iret hC hr rfl dX8_next_24 (fun _ _ => trivial) (Option.some.inj hm)
  · refine z_aload_n hC dX8_next_11 rfl 0 rfl ?_
    refine gM_X8_54_o hC dX8_next_12 ?_
    refine z_aload_n hC dX8_next_15 rfl 0 rfl ?_
    refine gM_X8_48_o (v := (M_at u)) hC dX8_next_16 rfl ?_
    refine aM_text hC hm dX8_next_19 (fun hm => ?_)
    refine z_goto (tgt := 24) hC dX8_next_20 (by decide) ?_
    exact z_iret hC hr rfl dX8_next_24 (fun _ _ => trivial) (Option.some.inj hm)
def mM_second (u : SM) : Option Int32 :=
  if (M_fed u) ≤ ((M_at u) + (1 : Int32)) then (some (-1 : Int32)) else (zgi ((M_at u) + (1 : Int32)) 100 (some ((M_text u) (((M_at u) + (1 : Int32))).toNatClampNeg)))
set_option maxRecDepth 100000 in
set_option maxHeartbeats 4000000 in
theorem cM_second {l : Launch} {D : va_G} {cA : Nat → ClassId} {ad : Nat → Nat} {E : zEt} (hI : zInj ad 23) (u : SM) {r : Int32} (hm : mM_second u = some r) : Met l yX8_second (zWs yX8_second cX8_second 1 (some .int)) (zRm 0) (va_Pc [.ref (ad 0)] (zPre D (zTy cA) E zA0 (wM cA ad u))) (zQi r zB0 zA0) 0 0 zA0 := by
  refine z_met (lv := [(0, .ref (ad 0))]) plX8 rfl rfl (Nat.le_of_ble_eq_true rfl) rfl ?_
  intro p e s m below meth c hC hr hin
  unfold mM_second at hm
  refine z_aload_n hC dX8_second_0 rfl 0 rfl ?_
  refine gM_X8_48_o (v := (M_at u)) hC dX8_second_1 rfl ?_
  refine z_iconst hC dX8_second_4 kI_1 ?_
  refine z_iadd hC dX8_second_5 ?_
  refine z_aload_n hC dX8_second_6 rfl 0 rfl ?_
  refine gM_X8_45_o (v := (M_fed u)) hC dX8_second_7 rfl ?_
  refine z_icmp_ge (tgt := 27) hC hm dX8_second_10 (by decide) (fun hm => ?_) (fun hm => ?_)
  · refine z_iconst hC dX8_second_27 kI_m1 ?_
    exact z_iret hC hr rfl dX8_second_28 (fun _ _ => trivial) (Option.some.inj hm)
  · refine z_aload_n hC dX8_second_13 rfl 0 rfl ?_
    refine gM_X8_54_o hC dX8_second_14 ?_
    refine z_aload_n hC dX8_second_17 rfl 0 rfl ?_
    refine gM_X8_48_o (v := (M_at u)) hC dX8_second_18 rfl ?_
    refine z_iconst hC dX8_second_21 kI_1 ?_
    refine z_iadd hC dX8_second_22 ?_
    refine aM_text hC hm dX8_second_23 (fun hm => ?_)
    refine z_goto (tgt := 28) hC dX8_second_24 (by decide) ?_
    exact z_iret hC hr rfl dX8_second_28 (fun _ _ => trivial) (Option.some.inj hm)
theorem xM_X8_163 {p : Program} {l : Launch} {e : Env} {s : State} {m : MethodId} {args : Array Value} {below : List Frame} {meth : Method} {c : Code} {Q : State → Prop} {D : va_G} {A : Nat → Prop} {cc : ByteArray} {nL : Nat} {lv : List (Nat × Value)} {pc : Nat} {st : List Value} {cA : Nat → ClassId} {ad : Nat → Nat} {E : zEt} {d : Nat} {u : SM} (hI : zInj ad 23) (C : zC p s m args meth c cc nL RX8 zTS D (zTy cA) A E) (hdm : 0 + 1 ≤ d) {β : Type} {f : Int32 → Option β} {o : β} (hm : (mM_next u).bind f = some o) (hd : decode cc pc = .ok (.invokevirtual 163, 3)) (h8 : (st.map fun v => v.category).sum ≤ 8) (g : ∀ q, f q = some o → zG p l e (zRm d) s m args below meth c nL D A Q (wM cA ad u) lv (pc + 3) (.int q :: st)) : zG p l e (zRm d) s m args below meth c nL D A Q (wM cA ad u) lv pc (.ref (ad 0) :: st) := by
  obtain ⟨q, h1, h2⟩ := zb_some hm
  exact z_calliV C (cM_next hI  u h1) (cwX8_163 C.1.2.2.2.2 rfl rfl ⟨hdm, by have := hdm; simp only [zRm]; omega⟩) hd rfl rfl h8 ⟨_, rfl, rfl⟩ (List.mem_of_getElem? (heM_o cA ad u)) (fun _ h => h) (fun _ h => h.elim) zJ_ro (g q h2)
theorem pM_X8_48_o {p : Program} {l : Launch} {e : Env} {R : Room} {s : State} {m : MethodId} {args : Array Value} {below : List Frame} {meth : Method} {c : Code} {Q : State → Prop} {D : va_G} {A : Nat → Prop} {cc : ByteArray} {nL : Nat} {lv : List (Nat × Value)} {pc : Nat} {st : List Value} {cA : Nat → ClassId} {ad : Nat → Nat} {E : zEt} {u : SM} {v : Int32} (C : zC p s m args meth c cc nL RX8 zTS D (zTy cA) A E) (hI : zInj ad 23) (hA : ∀ q, zAd ad 23 q → A q) (hd : decode cc pc = .ok (.putfield 48, 3)) (g : zG p l e R s m args below meth c nL D A Q (wM cA ad (M_set_at v u)) lv (pc + 3) st) : zG p l e R s m args below meth c nL D A Q (wM cA ad u) lv pc (.int v :: .ref (ad 0) :: st) := fun H locs ls hP hS hL => va_put (D := D) (ci := 8) (C := RX8) (T := TX8) (N := 45) C.1.1 C.1.2.1 C.1.2.2.2.2 inlX8 tyX8 tyX8_ok nmX8 C.1.2.2.2.1 C.2.1 hP (zD_mono (wM_D hI cA u) hA) hS 0 (heM_o cA ad u) rfl 12 (by decide) (C.1.2.2.2.2 _ mfX8_48) (fun _ h9 => h9) rfl (ty := .int) (by decide +kernel) rfl rfl (Nat.le_of_ble_eq_true rfl) hd (fun H1 locs1 hP1 _ hS1 => g H1 locs1 ls hP1 hS1 hL)
def M_put_at (p : Int32) (u : SM) : SM := (((u.1.1.1, (u.1.1.2.1, (u.1.1.2.2.1, (p, u.1.1.2.2.2.2)))), u.1.2), u.2)
def mM_takesSign (x1 : Int32) (u : SM) : Option (Int32 × Int32) :=
  (mM_next u).bind fun q1 => (if q1 = x1 then (some ((1 : Int32), (((M_at u) + (1 : Int32))))) else (some ((0 : Int32), ((M_at u)))))
set_option maxRecDepth 100000 in
set_option maxHeartbeats 4000000 in
theorem cM_takesSign {l : Launch} {D : va_G} {cA : Nat → ClassId} {ad : Nat → Nat} {E : zEt} (hI : zInj ad 23) (x1 : Int32) (u : SM) {r : Int32} {w' : Int32} (hm : mM_takesSign x1 u = some (r, w')) : Met l yX8_takesSign (zWs yX8_takesSign cX8_takesSign 2 (some .boolean)) (zRm 1) (va_Pc [.ref (ad 0), .int x1] (zPre D (zTy cA) E (zAd ad 23) (wM cA ad u))) (zQi r (zBw D (wM cA ad (M_put_at w' u))) (zAd ad 23)) 0 0 (zAd ad 23) := by
  refine z_met (lv := [(0, .ref (ad 0)), (1, .int x1)]) plX8 rfl rfl (Nat.le_of_ble_eq_true rfl) rfl ?_
  intro p e s m below meth c hC hr hin
  unfold mM_takesSign at hm
  refine z_aload_n hC dX8_takesSign_0 rfl 0 rfl ?_
  refine xM_X8_163 hI hC (Nat.le_of_ble_eq_true rfl) hm dX8_takesSign_1 (Nat.le_of_ble_eq_true rfl) (fun q1 hm => ?_)
  refine z_iload_n hC dX8_takesSign_4 rfl 1 rfl ?_
  refine z_icmp_eq (tgt := 10) hC hm dX8_takesSign_5 (by decide) (fun hm => ?_) (fun hm => ?_)
  · refine z_aload_n hC dX8_takesSign_10 rfl 0 rfl ?_
    refine z_dup hC dX8_takesSign_11 rfl ?_
    refine gM_X8_48_o (v := (M_at u)) hC dX8_takesSign_12 rfl ?_
    refine z_iconst hC dX8_takesSign_15 kI_1 ?_
    refine z_iadd hC dX8_takesSign_16 ?_
    refine pM_X8_48_o hC hI (fun _ h => h) dX8_takesSign_17 ?_
    refine zuM (u2 := (M_put_at (((M_at u) + (1 : Int32))) u)) rfl ?_
    refine z_iconst hC dX8_takesSign_20 kI_1 ?_
    exact riM (fin := fun z => M_put_at z u) hC hr rfl dX8_takesSign_21 hm rfl
  · refine z_iconst hC dX8_takesSign_8 kI_0 ?_
    exact riM (fin := fun z => M_put_at z u) hC hr rfl dX8_takesSign_9 hm rfl
theorem xM_X8_167 {p : Program} {l : Launch} {e : Env} {s : State} {m : MethodId} {args : Array Value} {below : List Frame} {meth : Method} {c : Code} {Q : State → Prop} {D : va_G} {A : Nat → Prop} {cc : ByteArray} {nL : Nat} {lv : List (Nat × Value)} {pc : Nat} {st : List Value} {cA : Nat → ClassId} {ad : Nat → Nat} {E : zEt} {d : Nat} {x1 : Int32} {u : SM} (hI : zInj ad 23) (C : zC p s m args meth c cc nL RX8 zTS D (zTy cA) A E) (hdm : 1 + 1 ≤ d) (hA : ∀ q, zAd ad 23 q → A q) {β : Type} {f : (Int32 × Int32) → Option β} {o : β} (hm : (mM_takesSign x1 u).bind f = some o) (hd : decode cc pc = .ok (.invokevirtual 167, 3)) (h8 : (st.map fun v => v.category).sum ≤ 8) (g : ∀ q, f q = some o → zG p l e (zRm d) s m args below meth c nL D A Q (wM cA ad (M_put_at q.2 u)) lv (pc + 3) (.int q.1 :: st)) : zG p l e (zRm d) s m args below meth c nL D A Q (wM cA ad u) lv pc (.int x1 :: .ref (ad 0) :: st) := by
  obtain ⟨q, h1, h2⟩ := zb_some hm
  exact z_calliV C (cM_takesSign hI x1 u h1) (cwX8_167 C.1.2.2.2.2 rfl rfl ⟨hdm, by have := hdm; simp only [zRm]; omega⟩) hd rfl rfl h8 ⟨_, rfl, rfl⟩ (List.mem_of_getElem? (heM_o cA ad u)) (fun _ h => h) hA zJ_same (g q h2)
theorem gM_X8_90_o {p : Program} {l : Launch} {e : Env} {R : Room} {s : State} {m : MethodId} {args : Array Value} {below : List Frame} {meth : Method} {c : Code} {Q : State → Prop} {D : va_G} {A : Nat → Prop} {cc : ByteArray} {nL : Nat} {lv : List (Nat × Value)} {pc : Nat} {st : List Value} {cA : Nat → ClassId} {ad : Nat → Nat} {E : zEt} {u : SM} (C : zC p s m args meth c cc nL RX8 zTS D (zTy cA) A E) (hd : decode cc pc = .ok (.getfield 90, 3)) (g : zG p l e R s m args below meth c nL D A Q (wM cA ad u) lv (pc + 3) (.ref (ad 13) :: st)) : zG p l e R s m args below meth c nL D A Q (wM cA ad u) lv pc (.ref (ad 0) :: st) := by
  exact fun H locs ls hP hS hL => va_get (D := D) (ci := 8) (C := RX8) (T := TX8) (N := 45) C.1.1 C.1.2.1 C.1.2.2.2.2 inlX8 C.1.2.2.2.1 C.2.1 hP 0 (heM_o cA ad u) rfl 26 (by decide) (C.1.2.2.2.2 _ mfX8_90) (fun _ h9 => h9) (v := .ref (ad 13)) rfl hd (g H locs ls hP hS hL)
theorem aM_letterOfWords {p : Program} {l : Launch} {e : Env} {R : Room} {s : State} {m : MethodId} {args : Array Value} {below : List Frame} {meth : Method} {c : Code} {Q : State → Prop} {D : va_G} {A : Nat → Prop} {cc : ByteArray} {nL : Nat} {lv : List (Nat × Value)} {pc : Nat} {st : List Value} {cA : Nat → ClassId} {ad : Nat → Nat} {E : zEt} {own : String} {u : SM} {i : Int32} {β : Type} {k : Option β} {r : β} (C : zC p s m args meth c cc nL own zTS D (zTy cA) A E) (hm : zgi i 19 k = some r) (hd : decode cc pc = .ok (.iaload, 1)) (g : k = some r → zG p l e R s m args below meth c nL D A Q (wM cA ad u) lv (pc + 1) (.int (M_letterOfWords u i.toNatClampNeg) :: st)) : zG p l e R s m args below meth c nL D A Q (wM cA ad u) lv pc (.int i :: .ref (ad 13) :: st) := fun H locs ls hP hS hL => va_iald C.1.1 C.1.2.1 C.2.1 hP 13 0 (heM_letterOfWords cA ad u) rfl (zgi_some hm).1 hd (g (zgi_some hm).2 H locs ls hP hS hL)
def mM_takesWord_L2 (x1 : Int32) (x2 : Int32) : Nat → Int32 → SM → Option (Int32 × Int32)
  | 0, _, _ => none
  | n + 1, x3, u => if x2 ≤ x3 then ((mM_takesSign (32 : Int32) u).bind fun q1 => (zgb q1.1 (some (q1.1, (q1.2))))) else (zgi (x1 + x3) 19 ((mM_takesSign ((M_letterOfWords u) ((x1 + x3)).toNatClampNeg) u).bind fun q2 => (if q2.1 = 0 then (some ((0 : Int32), (q2.2))) else (mM_takesWord_L2 x1 x2 n (x3 + (1 : Int32)) (M_put_at (q2.2) u)))))
set_option maxRecDepth 100000 in
set_option maxHeartbeats 4000000 in
theorem lM_takesWord_2 {l : Launch} {D : va_G} {cA : Nat → ClassId} {ad : Nat → Nat} {p : Program} {e : Env} {s : State} {m : MethodId} {args : Array Value} {below : List Frame} {meth : Method} {c : Code} {E : zEt} {r : Int32} {w' : Int32}  {x1 : Int32} {x2 : Int32} (hI : zInj ad 23) (hC : zC p s m args meth c cX8_takesWord 4 RX8 zTS D (zTy cA) (zAd ad 23) E) (hr : meth.sig.returnType = (some .boolean)) : ∀ (n : Nat) (x3 : Int32) (u : SM), mM_takesWord_L2 x1 x2 n x3 u = some (r, w') → zG p l e (zRm 2) s m args below meth c 4 D (zAd ad 23) (MQ below (zQi r (zBw D (wM cA ad (M_put_at w' u))) (zAd ad 23)) args s 0 0 (zAd ad 23)) (wM cA ad u) [(0, .ref (ad 0)), (1, .int x1), (2, .int x2), (3, .int x3)] 2 [] := by
  intro n
  induction n with
  | zero => intro x3 u hm; exact z_none hm
  | succ n ih =>
    intro x3 u hm
    rw [mM_takesWord_L2] at hm
    refine z_iload_n hC dX8_takesWord_2 rfl 3 rfl ?_
    refine z_iload_n hC dX8_takesWord_3 rfl 2 rfl ?_
    refine z_icmp_ge (tgt := 30) hC hm dX8_takesWord_4 (by decide) (fun hm => ?_) (fun hm => ?_)
    · refine z_aload_n hC dX8_takesWord_30 rfl 0 rfl ?_
      refine z_bipush hC dX8_takesWord_31 kB_32 ?_
      refine xM_X8_167 hI hC (Nat.le_of_ble_eq_true rfl) (fun _ h => h) hm dX8_takesWord_33 (Nat.le_of_ble_eq_true rfl) (fun q1 hm => ?_)
      refine zuM (u2 := (M_put_at (q1.2) u)) rfl ?_
      refine z_g (zgb_some hm) (fun hb hm => ?_)
      exact riM (fin := fun z => M_put_at z u) hC hr (zb_nar hb) dX8_takesWord_36 hm rfl
    · refine z_aload_n hC dX8_takesWord_7 rfl 0 rfl ?_
      refine z_aload_n hC dX8_takesWord_8 rfl 0 rfl ?_
      refine gM_X8_90_o hC dX8_takesWord_9 ?_
      refine z_iload_n hC dX8_takesWord_12 rfl 1 rfl ?_
      refine z_iload_n hC dX8_takesWord_13 rfl 3 rfl ?_
      refine z_iadd hC dX8_takesWord_14 ?_
      refine aM_letterOfWords hC hm dX8_takesWord_15 (fun hm => ?_)
      refine xM_X8_167 hI hC (Nat.le_of_ble_eq_true rfl) (fun _ h => h) hm dX8_takesWord_16 (Nat.le_of_ble_eq_true rfl) (fun q2 hm => ?_)
      refine zuM (u2 := (M_put_at (q2.2) u)) rfl ?_
      refine z_if_ne (tgt := 24) hC hm dX8_takesWord_19 (by decide) (fun hm => ?_) (fun hm => ?_)
      · refine z_iconst hC dX8_takesWord_22 kI_0 ?_
        exact riM (fin := fun z => M_put_at z u) hC hr rfl dX8_takesWord_23 hm rfl
      · refine z_iinc (lv' := [(3, .int (x3 + (1 : Int32))), (0, .ref (ad 0)), (1, .int x1), (2, .int x2)]) (k := 3) (v := (x3 + (1 : Int32))) hC dX8_takesWord_24 rfl rfl (by decide) rfl ?_
        refine z_goto (tgt := 2) hC dX8_takesWord_27 (by decide) ?_
        refine z_lv hC [1, 2, 3, 0] rfl ?_
        exact ih _ _ hm
def mM_takesWord (x1 : Int32) (x2 : Int32) (u : SM) : Option (Int32 × Int32) :=
  mM_takesWord_L2 x1 x2 256 (0 : Int32) u
set_option maxRecDepth 100000 in
set_option maxHeartbeats 4000000 in
theorem cM_takesWord {l : Launch} {D : va_G} {cA : Nat → ClassId} {ad : Nat → Nat} {E : zEt} (hI : zInj ad 23) (x1 : Int32) (x2 : Int32) (u : SM) {r : Int32} {w' : Int32} (hm : mM_takesWord x1 x2 u = some (r, w')) : Met l yX8_takesWord (zWs yX8_takesWord cX8_takesWord 4 (some .boolean)) (zRm 2) (va_Pc [.ref (ad 0), .int x1, .int x2] (zPre D (zTy cA) E (zAd ad 23) (wM cA ad u))) (zQi r (zBw D (wM cA ad (M_put_at w' u))) (zAd ad 23)) 0 0 (zAd ad 23) := by
  refine z_met (lv := [(0, .ref (ad 0)), (1, .int x1), (2, .int x2)]) plX8 rfl rfl (Nat.le_of_ble_eq_true rfl) rfl ?_
  intro p e s m below meth c hC hr hin
  unfold mM_takesWord at hm
  refine z_iconst hC dX8_takesWord_0 kI_0 ?_
  refine z_istore_n (lv' := [(3, .int (0 : Int32)), (0, .ref (ad 0)), (1, .int x1), (2, .int x2)]) hC dX8_takesWord_1 rfl (by decide) rfl ?_
  refine z_lv hC [1, 2, 3, 0] rfl ?_
  exact lM_takesWord_2 hI hC hr _ _ _ hm
def mM_isDigit (u : SM) : Option Int32 :=
  (mM_next u).bind fun q1 => (some (mM_in q1 (48 : Int32) (57 : Int32)))
set_option maxRecDepth 100000 in
set_option maxHeartbeats 4000000 in
theorem cM_isDigit {l : Launch} {D : va_G} {cA : Nat → ClassId} {ad : Nat → Nat} {E : zEt} (hI : zInj ad 23) (u : SM) {r : Int32} (hm : mM_isDigit u = some r) : Met l yX8_isDigit (zWs yX8_isDigit cX8_isDigit 1 (some .boolean)) (zRm 1) (va_Pc [.ref (ad 0)] (zPre D (zTy cA) E zA0 (wM cA ad u))) (zQi r zB0 zA0) 0 0 zA0 := by
  refine z_met (lv := [(0, .ref (ad 0))]) plX8 rfl rfl (Nat.le_of_ble_eq_true rfl) rfl ?_
  intro p e s m below meth c hC hr hin
  unfold mM_isDigit at hm
  refine z_aload_n hC dX8_isDigit_0 rfl 0 rfl ?_
  refine z_aload_n hC dX8_isDigit_1 rfl 0 rfl ?_
  refine xM_X8_163 hI hC (Nat.le_of_ble_eq_true rfl) hm dX8_isDigit_2 (Nat.le_of_ble_eq_true rfl) (fun q1 hm => ?_)
  refine z_bipush hC dX8_isDigit_5 kB_48 ?_
  refine z_bipush hC dX8_isDigit_7 kB_57 ?_
  refine xM_X8_150 hI hC (Nat.le_of_ble_eq_true rfl) dX8_isDigit_9 (Nat.le_of_ble_eq_true rfl) ?_
  exact z_iret hC hr (zb_nar (bM_in ..)) dX8_isDigit_12 (fun _ _ => trivial) (Option.some.inj hm)
theorem xM_X8_170 {p : Program} {l : Launch} {e : Env} {s : State} {m : MethodId} {args : Array Value} {below : List Frame} {meth : Method} {c : Code} {Q : State → Prop} {D : va_G} {A : Nat → Prop} {cc : ByteArray} {nL : Nat} {lv : List (Nat × Value)} {pc : Nat} {st : List Value} {cA : Nat → ClassId} {ad : Nat → Nat} {E : zEt} {d : Nat} {u : SM} (hI : zInj ad 23) (C : zC p s m args meth c cc nL RX8 zTS D (zTy cA) A E) (hdm : 1 + 1 ≤ d) {β : Type} {f : Int32 → Option β} {o : β} (hm : (mM_isDigit u).bind f = some o) (hd : decode cc pc = .ok (.invokevirtual 170, 3)) (h8 : (st.map fun v => v.category).sum ≤ 8) (g : ∀ q, f q = some o → zG p l e (zRm d) s m args below meth c nL D A Q (wM cA ad u) lv (pc + 3) (.int q :: st)) : zG p l e (zRm d) s m args below meth c nL D A Q (wM cA ad u) lv pc (.ref (ad 0) :: st) := by
  obtain ⟨q, h1, h2⟩ := zb_some hm
  exact z_calliV C (cM_isDigit hI  u h1) (cwX8_170 C.1.2.2.2.2 rfl rfl ⟨hdm, by have := hdm; simp only [zRm]; omega⟩) hd rfl rfl h8 ⟨_, rfl, rfl⟩ (List.mem_of_getElem? (heM_o cA ad u)) (fun _ h => h) (fun _ h => h.elim) zJ_ro (g q h2)
def M_put_at_digits (p : Int32 × Int32) (u : SM) : SM := (((u.1.1.1, (u.1.1.2.1, (u.1.1.2.2.1, (p.1, p.2)))), u.1.2), u.2)
theorem pM_X8_51_o {p : Program} {l : Launch} {e : Env} {R : Room} {s : State} {m : MethodId} {args : Array Value} {below : List Frame} {meth : Method} {c : Code} {Q : State → Prop} {D : va_G} {A : Nat → Prop} {cc : ByteArray} {nL : Nat} {lv : List (Nat × Value)} {pc : Nat} {st : List Value} {cA : Nat → ClassId} {ad : Nat → Nat} {E : zEt} {u : SM} {v : Int32} (C : zC p s m args meth c cc nL RX8 zTS D (zTy cA) A E) (hI : zInj ad 23) (hA : ∀ q, zAd ad 23 q → A q) (hd : decode cc pc = .ok (.putfield 51, 3)) (g : zG p l e R s m args below meth c nL D A Q (wM cA ad (M_set_digits v u)) lv (pc + 3) st) : zG p l e R s m args below meth c nL D A Q (wM cA ad u) lv pc (.int v :: .ref (ad 0) :: st) := fun H locs ls hP hS hL => va_put (D := D) (ci := 8) (C := RX8) (T := TX8) (N := 45) C.1.1 C.1.2.1 C.1.2.2.2.2 inlX8 tyX8 tyX8_ok nmX8 C.1.2.2.2.1 C.2.1 hP (zD_mono (wM_D hI cA u) hA) hS 0 (heM_o cA ad u) rfl 13 (by decide) (C.1.2.2.2.2 _ mfX8_51) (fun _ h9 => h9) rfl (ty := .int) (by decide +kernel) rfl rfl (Nat.le_of_ble_eq_true rfl) hd (fun H1 locs1 hP1 _ hS1 => g H1 locs1 ls hP1 hS1 hL)
theorem gM_X8_51_o {p : Program} {l : Launch} {e : Env} {R : Room} {s : State} {m : MethodId} {args : Array Value} {below : List Frame} {meth : Method} {c : Code} {Q : State → Prop} {D : va_G} {A : Nat → Prop} {cc : ByteArray} {nL : Nat} {lv : List (Nat × Value)} {pc : Nat} {st : List Value} {cA : Nat → ClassId} {ad : Nat → Nat} {E : zEt} {u : SM} (C : zC p s m args meth c cc nL RX8 zTS D (zTy cA) A E) (hd : decode cc pc = .ok (.getfield 51, 3)) {v : Int32} (hv : M_digits u = v) (g : zG p l e R s m args below meth c nL D A Q (wM cA ad u) lv (pc + 3) (.int v :: st)) : zG p l e R s m args below meth c nL D A Q (wM cA ad u) lv pc (.ref (ad 0) :: st) := by
  subst hv; exact fun H locs ls hP hS hL => va_get (D := D) (ci := 8) (C := RX8) (T := TX8) (N := 45) C.1.1 C.1.2.1 C.1.2.2.2.2 inlX8 C.1.2.2.2.1 C.2.1 hP 0 (heM_o cA ad u) rfl 13 (by decide) (C.1.2.2.2.2 _ mfX8_51) (fun _ h9 => h9) (v := .int (M_digits u)) rfl hd (g H locs ls hP hS hL)
def mM_takesNumber_L16 : Nat → Int32 → SM → Option (Int32 × Int32 × Int32)
  | 0, _, _ => none
  | n + 1, x1, u => if (2 : Int32) ≤ x1 then (some ((1 : Int32), ((M_at u), (M_digits u)))) else ((mM_isDigit u).bind fun q2 => (if q2 = 0 then (some ((1 : Int32), ((M_at u), (M_digits u)))) else ((mM_next u).bind fun q3 => (mM_takesNumber_L16 n (x1 + (1 : Int32)) (M_put_at_digits (((M_at u) + (1 : Int32)), ((((10 : Int32) * (M_digits u)) + q3) - (48 : Int32))) u)))))
set_option maxRecDepth 100000 in
set_option maxHeartbeats 4000000 in
theorem lM_takesNumber_16 {l : Launch} {D : va_G} {cA : Nat → ClassId} {ad : Nat → Nat} {p : Program} {e : Env} {s : State} {m : MethodId} {args : Array Value} {below : List Frame} {meth : Method} {c : Code} {E : zEt} {r : Int32} {w' : Int32 × Int32}  (hI : zInj ad 23) (hC : zC p s m args meth c cX8_takesNumber 2 RX8 zTS D (zTy cA) (zAd ad 23) E) (hr : meth.sig.returnType = (some .boolean)) : ∀ (n : Nat) (x1 : Int32) (u : SM), mM_takesNumber_L16 n x1 u = some (r, w') → zG p l e (zRm 2) s m args below meth c 2 D (zAd ad 23) (MQ below (zQi r (zBw D (wM cA ad (M_put_at_digits w' u))) (zAd ad 23)) args s 0 0 (zAd ad 23)) (wM cA ad u) [(0, .ref (ad 0)), (1, .int x1)] 16 [] := by
  intro n
  induction n with
  | zero => intro x1 u hm; exact z_none hm
  | succ n ih =>
    intro x1 u hm
    rw [mM_takesNumber_L16] at hm
    refine z_iload_n hC dX8_takesNumber_16 rfl 1 rfl ?_
    refine z_iconst hC dX8_takesNumber_17 kI_2 ?_
    refine z_icmp_ge (tgt := 63) hC hm dX8_takesNumber_18 (by decide) (fun hm => ?_) (fun hm => ?_)
    · refine z_iconst hC dX8_takesNumber_63 kI_1 ?_
      exact riM (fin := fun z => M_put_at_digits z u) hC hr rfl dX8_takesNumber_64 hm rfl
    · refine z_aload_n hC dX8_takesNumber_21 rfl 0 rfl ?_
      refine xM_X8_170 hI hC (Nat.le_of_ble_eq_true rfl) hm dX8_takesNumber_22 (Nat.le_of_ble_eq_true rfl) (fun q2 hm => ?_)
      refine z_if_eq (tgt := 63) hC hm dX8_takesNumber_25 (by decide) (fun hm => ?_) (fun hm => ?_)
      · refine z_iconst hC dX8_takesNumber_63 kI_1 ?_
        exact riM (fin := fun z => M_put_at_digits z u) hC hr rfl dX8_takesNumber_64 hm rfl
      · refine z_aload_n hC dX8_takesNumber_28 rfl 0 rfl ?_
        refine z_bipush hC dX8_takesNumber_29 kB_10 ?_
        refine z_aload_n hC dX8_takesNumber_31 rfl 0 rfl ?_
        refine gM_X8_51_o (v := (M_digits u)) hC dX8_takesNumber_32 rfl ?_
        refine z_imul hC dX8_takesNumber_35 ?_
        refine z_aload_n hC dX8_takesNumber_36 rfl 0 rfl ?_
        refine xM_X8_163 hI hC (Nat.le_of_ble_eq_true rfl) hm dX8_takesNumber_37 (Nat.le_of_ble_eq_true rfl) (fun q3 hm => ?_)
        refine z_iadd hC dX8_takesNumber_40 ?_
        refine z_bipush hC dX8_takesNumber_41 kB_48 ?_
        refine z_isub hC dX8_takesNumber_43 ?_
        refine pM_X8_51_o hC hI (fun _ h => h) dX8_takesNumber_44 ?_
        refine zuM (u2 := (M_put_at_digits ((M_at u), ((((10 : Int32) * (M_digits u)) + q3) - (48 : Int32))) u)) rfl ?_
        refine z_aload_n hC dX8_takesNumber_47 rfl 0 rfl ?_
        refine z_dup hC dX8_takesNumber_48 rfl ?_
        refine gM_X8_48_o (v := (M_at u)) hC dX8_takesNumber_49 rfl ?_
        refine z_iconst hC dX8_takesNumber_52 kI_1 ?_
        refine z_iadd hC dX8_takesNumber_53 ?_
        refine pM_X8_48_o hC hI (fun _ h => h) dX8_takesNumber_54 ?_
        refine zuM (u2 := (M_put_at_digits (((M_at u) + (1 : Int32)), ((((10 : Int32) * (M_digits u)) + q3) - (48 : Int32))) u)) rfl ?_
        refine z_iinc (lv' := [(1, .int (x1 + (1 : Int32))), (0, .ref (ad 0))]) (k := 1) (v := (x1 + (1 : Int32))) hC dX8_takesNumber_57 rfl rfl (by decide) rfl ?_
        refine z_goto (tgt := 16) hC dX8_takesNumber_60 (by decide) ?_
        refine z_lv hC [1, 0] rfl ?_
        exact ih _ _ hm
def mM_takesNumber (u : SM) : Option (Int32 × Int32 × Int32) :=
  (mM_isDigit u).bind fun q1 => (if q1 = 0 then (some ((0 : Int32), ((M_at u), (M_digits u)))) else (mM_takesNumber_L16 256 (0 : Int32) (M_put_at_digits ((M_at u), (0 : Int32)) u)))
set_option maxRecDepth 100000 in
set_option maxHeartbeats 4000000 in
theorem cM_takesNumber {l : Launch} {D : va_G} {cA : Nat → ClassId} {ad : Nat → Nat} {E : zEt} (hI : zInj ad 23) (u : SM) {r : Int32} {w' : Int32 × Int32} (hm : mM_takesNumber u = some (r, w')) : Met l yX8_takesNumber (zWs yX8_takesNumber cX8_takesNumber 2 (some .boolean)) (zRm 2) (va_Pc [.ref (ad 0)] (zPre D (zTy cA) E (zAd ad 23) (wM cA ad u))) (zQi r (zBw D (wM cA ad (M_put_at_digits w' u))) (zAd ad 23)) 0 0 (zAd ad 23) := by
  refine z_met (lv := [(0, .ref (ad 0))]) plX8 rfl rfl (Nat.le_of_ble_eq_true rfl) rfl ?_
  intro p e s m below meth c hC hr hin
  unfold mM_takesNumber at hm
  refine z_aload_n hC dX8_takesNumber_0 rfl 0 rfl ?_
  refine xM_X8_170 hI hC (Nat.le_of_ble_eq_true rfl) hm dX8_takesNumber_1 (Nat.le_of_ble_eq_true rfl) (fun q1 hm => ?_)
  refine z_if_ne (tgt := 9) hC hm dX8_takesNumber_4 (by decide) (fun hm => ?_) (fun hm => ?_)
  · refine z_iconst hC dX8_takesNumber_7 kI_0 ?_
    exact riM (fin := fun z => M_put_at_digits z u) hC hr rfl dX8_takesNumber_8 hm rfl
  · refine z_aload_n hC dX8_takesNumber_9 rfl 0 rfl ?_
    refine z_iconst hC dX8_takesNumber_10 kI_0 ?_
    refine pM_X8_51_o hC hI (fun _ h => h) dX8_takesNumber_11 ?_
    refine zuM (u2 := (M_put_at_digits ((M_at u), (0 : Int32)) u)) rfl ?_
    refine z_iconst hC dX8_takesNumber_14 kI_0 ?_
    refine z_istore_n (lv' := [(1, .int (0 : Int32)), (0, .ref (ad 0))]) hC dX8_takesNumber_15 rfl (by decide) rfl ?_
    refine z_lv hC [1, 0] rfl ?_
    exact lM_takesNumber_16 hI hC hr _ _ _ hm
theorem gM_X8_75_o {p : Program} {l : Launch} {e : Env} {R : Room} {s : State} {m : MethodId} {args : Array Value} {below : List Frame} {meth : Method} {c : Code} {Q : State → Prop} {D : va_G} {A : Nat → Prop} {cc : ByteArray} {nL : Nat} {lv : List (Nat × Value)} {pc : Nat} {st : List Value} {cA : Nat → ClassId} {ad : Nat → Nat} {E : zEt} {u : SM} (C : zC p s m args meth c cc nL RX8 zTS D (zTy cA) A E) (hd : decode cc pc = .ok (.getfield 75, 3)) (g : zG p l e R s m args below meth c nL D A Q (wM cA ad u) lv (pc + 3) (.ref (ad 11) :: st)) : zG p l e R s m args below meth c nL D A Q (wM cA ad u) lv pc (.ref (ad 0) :: st) := by
  exact fun H locs ls hP hS hL => va_get (D := D) (ci := 8) (C := RX8) (T := TX8) (N := 45) C.1.1 C.1.2.1 C.1.2.2.2.2 inlX8 C.1.2.2.2.1 C.2.1 hP 0 (heM_o cA ad u) rfl 21 (by decide) (C.1.2.2.2.2 _ mfX8_75) (fun _ h9 => h9) (v := .ref (ad 11)) rfl hd (g H locs ls hP hS hL)
theorem gM_X8_81_o {p : Program} {l : Launch} {e : Env} {R : Room} {s : State} {m : MethodId} {args : Array Value} {below : List Frame} {meth : Method} {c : Code} {Q : State → Prop} {D : va_G} {A : Nat → Prop} {cc : ByteArray} {nL : Nat} {lv : List (Nat × Value)} {pc : Nat} {st : List Value} {cA : Nat → ClassId} {ad : Nat → Nat} {E : zEt} {u : SM} (C : zC p s m args meth c cc nL RX8 zTS D (zTy cA) A E) (hd : decode cc pc = .ok (.getfield 81, 3)) {v : Int32} (hv : M_signs u = v) (g : zG p l e R s m args below meth c nL D A Q (wM cA ad u) lv (pc + 3) (.int v :: st)) : zG p l e R s m args below meth c nL D A Q (wM cA ad u) lv pc (.ref (ad 0) :: st) := by
  subst hv; exact fun H locs ls hP hS hL => va_get (D := D) (ci := 8) (C := RX8) (T := TX8) (N := 45) C.1.1 C.1.2.1 C.1.2.2.2.2 inlX8 C.1.2.2.2.1 C.2.1 hP 0 (heM_o cA ad u) rfl 23 (by decide) (C.1.2.2.2.2 _ mfX8_81) (fun _ h9 => h9) (v := .int (M_signs u)) rfl hd (g H locs ls hP hS hL)
theorem sM_sign {p : Program} {l : Launch} {e : Env} {R : Room} {s : State} {m : MethodId} {args : Array Value} {below : List Frame} {meth : Method} {c : Code} {Q : State → Prop} {D : va_G} {A : Nat → Prop} {cc : ByteArray} {nL : Nat} {lv : List (Nat × Value)} {pc : Nat} {st : List Value} {cA : Nat → ClassId} {ad : Nat → Nat} {E : zEt} {own : String} {u : SM} {i : Int32} {x : Int32} {β : Type} {k : Option β} {r : β} (C : zC p s m args meth c cc nL own zTS D (zTy cA) A E) (hI : zInj ad 23) (hA : ∀ q, zAd ad 23 q → A q) (hm : zgi i 500 k = some r) (hd : decode cc pc = .ok (.iastore, 1)) (g : k = some r → zG p l e R s m args below meth c nL D A Q (wM cA ad (M_set_sign (upd (M_sign u) i.toNatClampNeg x) u)) lv (pc + 1) st) : zG p l e R s m args below meth c nL D A Q (wM cA ad u) lv pc (.int x :: .int i :: .ref (ad 11) :: st) := fun H locs ls hP hS hL => va_iast C.1.1 C.1.2.1 C.2.1 hP (zD_mono (wM_D hI cA u) hA) hS 11 0 (heM_sign cA ad u) rfl (zgi_some hm).1 hd (fun H1 locs1 hP1 _ hS1 => g (zgi_some hm).2 H1 locs1 ls hP1 hS1 hL)
def M_put_signs_sign (p : Int32 × (Nat → Int32)) (u : SM) : SM := ((u.1.1, (((p.1, u.1.2.1.1.2), u.1.2.1.2), u.1.2.2)), (u.2.1, (((p.2, u.2.2.1.1.2), u.2.2.1.2), u.2.2.2)))
theorem pM_X8_81_o {p : Program} {l : Launch} {e : Env} {R : Room} {s : State} {m : MethodId} {args : Array Value} {below : List Frame} {meth : Method} {c : Code} {Q : State → Prop} {D : va_G} {A : Nat → Prop} {cc : ByteArray} {nL : Nat} {lv : List (Nat × Value)} {pc : Nat} {st : List Value} {cA : Nat → ClassId} {ad : Nat → Nat} {E : zEt} {u : SM} {v : Int32} (C : zC p s m args meth c cc nL RX8 zTS D (zTy cA) A E) (hI : zInj ad 23) (hA : ∀ q, zAd ad 23 q → A q) (hd : decode cc pc = .ok (.putfield 81, 3)) (g : zG p l e R s m args below meth c nL D A Q (wM cA ad (M_set_signs v u)) lv (pc + 3) st) : zG p l e R s m args below meth c nL D A Q (wM cA ad u) lv pc (.int v :: .ref (ad 0) :: st) := fun H locs ls hP hS hL => va_put (D := D) (ci := 8) (C := RX8) (T := TX8) (N := 45) C.1.1 C.1.2.1 C.1.2.2.2.2 inlX8 tyX8 tyX8_ok nmX8 C.1.2.2.2.1 C.2.1 hP (zD_mono (wM_D hI cA u) hA) hS 0 (heM_o cA ad u) rfl 23 (by decide) (C.1.2.2.2.2 _ mfX8_81) (fun _ h9 => h9) rfl (ty := .int) (by decide +kernel) rfl rfl (Nat.le_of_ble_eq_true rfl) hd (fun H1 locs1 hP1 _ hS1 => g H1 locs1 ls hP1 hS1 hL)
def mM_put (x1 : Int32) (u : SM) : Option (Int32 × (Nat → Int32)) :=
  zgi (M_signs u) 500 (some (((M_signs u) + (1 : Int32)), (upd (M_sign u) ((M_signs u)).toNatClampNeg x1)))
set_option maxRecDepth 100000 in
set_option maxHeartbeats 4000000 in
theorem cM_put {l : Launch} {D : va_G} {cA : Nat → ClassId} {ad : Nat → Nat} {E : zEt} (hI : zInj ad 23) (x1 : Int32) (u : SM) {w' : Int32 × (Nat → Int32)} (hm : mM_put x1 u = some w') : Met l yX8_put (zWs yX8_put cX8_put 2 none) (zRm 0) (va_Pc [.ref (ad 0), .int x1] (zPre D (zTy cA) E (zAd ad 23) (wM cA ad u))) (zQv (zBw D (wM cA ad (M_put_signs_sign w' u))) (zAd ad 23)) 0 0 (zAd ad 23) := by
  refine z_met (lv := [(0, .ref (ad 0)), (1, .int x1)]) plX8 rfl rfl (Nat.le_of_ble_eq_true rfl) rfl ?_
  intro p e s m below meth c hC hr hin
  unfold mM_put at hm
  refine z_aload_n hC dX8_put_0 rfl 0 rfl ?_
  refine gM_X8_75_o hC dX8_put_1 ?_
  refine z_aload_n hC dX8_put_4 rfl 0 rfl ?_
  refine gM_X8_81_o (v := (M_signs u)) hC dX8_put_5 rfl ?_
  refine z_iload_n hC dX8_put_8 rfl 1 rfl ?_
  refine sM_sign hC hI (fun _ h => h) hm dX8_put_9 (fun hm => ?_)
  refine zuM (u2 := (M_put_signs_sign ((M_signs u), (upd (M_sign u) ((M_signs u)).toNatClampNeg x1)) u)) rfl ?_
  refine z_aload_n hC dX8_put_10 rfl 0 rfl ?_
  refine z_dup hC dX8_put_11 rfl ?_
  refine gM_X8_81_o (v := (M_signs u)) hC dX8_put_12 rfl ?_
  refine z_iconst hC dX8_put_15 kI_1 ?_
  refine z_iadd hC dX8_put_16 ?_
  refine pM_X8_81_o hC hI (fun _ h => h) dX8_put_17 ?_
  refine zuM (u2 := (M_put_signs_sign (((M_signs u) + (1 : Int32)), (upd (M_sign u) ((M_signs u)).toNatClampNeg x1)) u)) rfl ?_
  exact rvM (fin := fun z => M_put_signs_sign z u) hC hr dX8_put_20 hm rfl
theorem gM_X8_84_o {p : Program} {l : Launch} {e : Env} {R : Room} {s : State} {m : MethodId} {args : Array Value} {below : List Frame} {meth : Method} {c : Code} {Q : State → Prop} {D : va_G} {A : Nat → Prop} {cc : ByteArray} {nL : Nat} {lv : List (Nat × Value)} {pc : Nat} {st : List Value} {cA : Nat → ClassId} {ad : Nat → Nat} {E : zEt} {u : SM} (C : zC p s m args meth c cc nL RX8 zTS D (zTy cA) A E) (hd : decode cc pc = .ok (.getfield 84, 3)) {v : Int32} (hv : M_waiting u = v) (g : zG p l e R s m args below meth c nL D A Q (wM cA ad u) lv (pc + 3) (.int v :: st)) : zG p l e R s m args below meth c nL D A Q (wM cA ad u) lv pc (.ref (ad 0) :: st) := by
  subst hv; exact fun H locs ls hP hS hL => va_get (D := D) (ci := 8) (C := RX8) (T := TX8) (N := 45) C.1.1 C.1.2.1 C.1.2.2.2.2 inlX8 C.1.2.2.2.1 C.2.1 hP 0 (heM_o cA ad u) rfl 24 (by decide) (C.1.2.2.2.2 _ mfX8_84) (fun _ h9 => h9) (v := .int (M_waiting u)) rfl hd (g H locs ls hP hS hL)
def M_put_signs_waiting_open_sign (p : Int32 × Int32 × Int32 × (Nat → Int32)) (u : SM) : SM := ((u.1.1, (((p.1, p.2.1), (p.2.2.1, u.1.2.1.2.2)), u.1.2.2)), (u.2.1, (((p.2.2.2, u.2.2.1.1.2), u.2.2.1.2), u.2.2.2)))
theorem gM_X8_78_o {p : Program} {l : Launch} {e : Env} {R : Room} {s : State} {m : MethodId} {args : Array Value} {below : List Frame} {meth : Method} {c : Code} {Q : State → Prop} {D : va_G} {A : Nat → Prop} {cc : ByteArray} {nL : Nat} {lv : List (Nat × Value)} {pc : Nat} {st : List Value} {cA : Nat → ClassId} {ad : Nat → Nat} {E : zEt} {u : SM} (C : zC p s m args meth c cc nL RX8 zTS D (zTy cA) A E) (hd : decode cc pc = .ok (.getfield 78, 3)) (g : zG p l e R s m args below meth c nL D A Q (wM cA ad u) lv (pc + 3) (.ref (ad 12) :: st)) : zG p l e R s m args below meth c nL D A Q (wM cA ad u) lv pc (.ref (ad 0) :: st) := by
  exact fun H locs ls hP hS hL => va_get (D := D) (ci := 8) (C := RX8) (T := TX8) (N := 45) C.1.1 C.1.2.1 C.1.2.2.2.2 inlX8 C.1.2.2.2.1 C.2.1 hP 0 (heM_o cA ad u) rfl 22 (by decide) (C.1.2.2.2.2 _ mfX8_78) (fun _ h9 => h9) (v := .ref (ad 12)) rfl hd (g H locs ls hP hS hL)
theorem aM_waits {p : Program} {l : Launch} {e : Env} {R : Room} {s : State} {m : MethodId} {args : Array Value} {below : List Frame} {meth : Method} {c : Code} {Q : State → Prop} {D : va_G} {A : Nat → Prop} {cc : ByteArray} {nL : Nat} {lv : List (Nat × Value)} {pc : Nat} {st : List Value} {cA : Nat → ClassId} {ad : Nat → Nat} {E : zEt} {own : String} {u : SM} {i : Int32} {β : Type} {k : Option β} {r : β} (C : zC p s m args meth c cc nL own zTS D (zTy cA) A E) (hm : zgi i 101 k = some r) (hd : decode cc pc = .ok (.iaload, 1)) (g : k = some r → zG p l e R s m args below meth c nL D A Q (wM cA ad u) lv (pc + 1) (.int (M_waits u i.toNatClampNeg) :: st)) : zG p l e R s m args below meth c nL D A Q (wM cA ad u) lv pc (.int i :: .ref (ad 12) :: st) := fun H locs ls hP hS hL => va_iald C.1.1 C.1.2.1 C.2.1 hP 12 0 (heM_waits cA ad u) rfl (zgi_some hm).1 hd (g (zgi_some hm).2 H locs ls hP hS hL)
theorem xM_X8_174 {p : Program} {l : Launch} {e : Env} {s : State} {m : MethodId} {args : Array Value} {below : List Frame} {meth : Method} {c : Code} {Q : State → Prop} {D : va_G} {A : Nat → Prop} {cc : ByteArray} {nL : Nat} {lv : List (Nat × Value)} {pc : Nat} {st : List Value} {cA : Nat → ClassId} {ad : Nat → Nat} {E : zEt} {d : Nat} {x1 : Int32} {u : SM} (hI : zInj ad 23) (C : zC p s m args meth c cc nL RX8 zTS D (zTy cA) A E) (hdm : 0 + 1 ≤ d) (hA : ∀ q, zAd ad 23 q → A q) {β : Type} {f : (Int32 × (Nat → Int32)) → Option β} {o : β} (hm : (mM_put x1 u).bind f = some o) (hd : decode cc pc = .ok (.invokevirtual 174, 3)) (h8 : (st.map fun v => v.category).sum ≤ 8) (g : ∀ q, f q = some o → zG p l e (zRm d) s m args below meth c nL D A Q (wM cA ad (M_put_signs_sign q u)) lv (pc + 3) (st)) : zG p l e (zRm d) s m args below meth c nL D A Q (wM cA ad u) lv pc (.int x1 :: .ref (ad 0) :: st) := by
  obtain ⟨q, h1, h2⟩ := zb_some hm
  exact z_callvV C (cM_put hI x1 u h1) (cwX8_174 C.1.2.2.2.2 rfl rfl ⟨hdm, by have := hdm; simp only [zRm]; omega⟩) hd rfl rfl h8 ⟨_, rfl, rfl⟩ (List.mem_of_getElem? (heM_o cA ad u)) (fun _ h => h) hA zJ_same (g q h2)
theorem pM_X8_84_o {p : Program} {l : Launch} {e : Env} {R : Room} {s : State} {m : MethodId} {args : Array Value} {below : List Frame} {meth : Method} {c : Code} {Q : State → Prop} {D : va_G} {A : Nat → Prop} {cc : ByteArray} {nL : Nat} {lv : List (Nat × Value)} {pc : Nat} {st : List Value} {cA : Nat → ClassId} {ad : Nat → Nat} {E : zEt} {u : SM} {v : Int32} (C : zC p s m args meth c cc nL RX8 zTS D (zTy cA) A E) (hI : zInj ad 23) (hA : ∀ q, zAd ad 23 q → A q) (hd : decode cc pc = .ok (.putfield 84, 3)) (g : zG p l e R s m args below meth c nL D A Q (wM cA ad (M_set_waiting v u)) lv (pc + 3) st) : zG p l e R s m args below meth c nL D A Q (wM cA ad u) lv pc (.int v :: .ref (ad 0) :: st) := fun H locs ls hP hS hL => va_put (D := D) (ci := 8) (C := RX8) (T := TX8) (N := 45) C.1.1 C.1.2.1 C.1.2.2.2.2 inlX8 tyX8 tyX8_ok nmX8 C.1.2.2.2.1 C.2.1 hP (zD_mono (wM_D hI cA u) hA) hS 0 (heM_o cA ad u) rfl 24 (by decide) (C.1.2.2.2.2 _ mfX8_84) (fun _ h9 => h9) rfl (ty := .int) (by decide +kernel) rfl rfl (Nat.le_of_ble_eq_true rfl) hd (fun H1 locs1 hP1 _ hS1 => g H1 locs1 ls hP1 hS1 hL)
theorem gM_X8_87_o {p : Program} {l : Launch} {e : Env} {R : Room} {s : State} {m : MethodId} {args : Array Value} {below : List Frame} {meth : Method} {c : Code} {Q : State → Prop} {D : va_G} {A : Nat → Prop} {cc : ByteArray} {nL : Nat} {lv : List (Nat × Value)} {pc : Nat} {st : List Value} {cA : Nat → ClassId} {ad : Nat → Nat} {E : zEt} {u : SM} (C : zC p s m args meth c cc nL RX8 zTS D (zTy cA) A E) (hd : decode cc pc = .ok (.getfield 87, 3)) {v : Int32} (hv : M_open u = v) (g : zG p l e R s m args below meth c nL D A Q (wM cA ad u) lv (pc + 3) (.int v :: st)) : zG p l e R s m args below meth c nL D A Q (wM cA ad u) lv pc (.ref (ad 0) :: st) := by
  subst hv; exact fun H locs ls hP hS hL => va_get (D := D) (ci := 8) (C := RX8) (T := TX8) (N := 45) C.1.1 C.1.2.1 C.1.2.2.2.2 inlX8 C.1.2.2.2.1 C.2.1 hP 0 (heM_o cA ad u) rfl 25 (by decide) (C.1.2.2.2.2 _ mfX8_87) (fun _ h9 => h9) (v := .int (M_open u)) rfl hd (g H locs ls hP hS hL)
theorem pM_X8_87_o {p : Program} {l : Launch} {e : Env} {R : Room} {s : State} {m : MethodId} {args : Array Value} {below : List Frame} {meth : Method} {c : Code} {Q : State → Prop} {D : va_G} {A : Nat → Prop} {cc : ByteArray} {nL : Nat} {lv : List (Nat × Value)} {pc : Nat} {st : List Value} {cA : Nat → ClassId} {ad : Nat → Nat} {E : zEt} {u : SM} {v : Int32} (C : zC p s m args meth c cc nL RX8 zTS D (zTy cA) A E) (hI : zInj ad 23) (hA : ∀ q, zAd ad 23 q → A q) (hd : decode cc pc = .ok (.putfield 87, 3)) (g : zG p l e R s m args below meth c nL D A Q (wM cA ad (M_set_open v u)) lv (pc + 3) st) : zG p l e R s m args below meth c nL D A Q (wM cA ad u) lv pc (.int v :: .ref (ad 0) :: st) := fun H locs ls hP hS hL => va_put (D := D) (ci := 8) (C := RX8) (T := TX8) (N := 45) C.1.1 C.1.2.1 C.1.2.2.2.2 inlX8 tyX8 tyX8_ok nmX8 C.1.2.2.2.1 C.2.1 hP (zD_mono (wM_D hI cA u) hA) hS 0 (heM_o cA ad u) rfl 25 (by decide) (C.1.2.2.2.2 _ mfX8_87) (fun _ h9 => h9) rfl (ty := .int) (by decide +kernel) rfl rfl (Nat.le_of_ble_eq_true rfl) hd (fun H1 locs1 hP1 _ hS1 => g H1 locs1 ls hP1 hS1 hL)
def mM_whole_L0 : Nat → SM → Option (Int32 × Int32 × Int32 × (Nat → Int32))
  | 0, _ => none
  | n + 1, u => if (M_waiting u) ≤ 0 then (some ((M_signs u), (M_waiting u), (M_open u), (M_sign u))) else (zgi ((M_waiting u) - (1 : Int32)) 101 (if ((M_waits u) (((M_waiting u) - (1 : Int32))).toNatClampNeg) = (33 : Int32) then ((mM_put (-33 : Int32) u).bind fun q1 => (mM_whole_L0 n (M_put_signs_waiting_open_sign (q1.1, ((M_waiting u) - (1 : Int32)), ((M_open u) - (1 : Int32)), q1.2) u))) else (some ((M_signs u), (M_waiting u), (M_open u), (M_sign u)))))
set_option maxRecDepth 100000 in
set_option maxHeartbeats 4000000 in
theorem lM_whole_0 {l : Launch} {D : va_G} {cA : Nat → ClassId} {ad : Nat → Nat} {p : Program} {e : Env} {s : State} {m : MethodId} {args : Array Value} {below : List Frame} {meth : Method} {c : Code} {E : zEt} {w' : Int32 × Int32 × Int32 × (Nat → Int32)}  (hI : zInj ad 23) (hC : zC p s m args meth c cX8_whole 1 RX8 zTS D (zTy cA) (zAd ad 23) E) (hr : meth.sig.returnType = none) : ∀ (n : Nat) (u : SM), mM_whole_L0 n u = some w' → zG p l e (zRm 1) s m args below meth c 1 D (zAd ad 23) (MQ below (zQv (zBw D (wM cA ad (M_put_signs_waiting_open_sign w' u))) (zAd ad 23)) args s 0 0 (zAd ad 23)) (wM cA ad u) [(0, .ref (ad 0))] 0 [] := by
  intro n
  induction n with
  | zero => intro u hm; exact z_none hm
  | succ n ih =>
    intro u hm
    rw [mM_whole_L0] at hm
    refine z_aload_n hC dX8_whole_0 rfl 0 rfl ?_
    refine gM_X8_84_o (v := (M_waiting u)) hC dX8_whole_1 rfl ?_
    refine z_if_le (tgt := 52) hC hm dX8_whole_4 (by decide) (fun hm => ?_) (fun hm => ?_)
    · exact rvM (fin := fun z => M_put_signs_waiting_open_sign z u) hC hr dX8_whole_52 hm rfl
    · refine z_aload_n hC dX8_whole_7 rfl 0 rfl ?_
      refine gM_X8_78_o hC dX8_whole_8 ?_
      refine z_aload_n hC dX8_whole_11 rfl 0 rfl ?_
      refine gM_X8_84_o (v := (M_waiting u)) hC dX8_whole_12 rfl ?_
      refine z_iconst hC dX8_whole_15 kI_1 ?_
      refine z_isub hC dX8_whole_16 ?_
      refine aM_waits hC hm dX8_whole_17 (fun hm => ?_)
      refine z_bipush hC dX8_whole_18 kB_33 ?_
      refine z_icmp_ne (tgt := 52) hC hm dX8_whole_20 (by decide) (fun hm => ?_) (fun hm => ?_)
      · refine z_aload_n hC dX8_whole_23 rfl 0 rfl ?_
        refine z_bipush hC dX8_whole_24 kB_m33 ?_
        refine xM_X8_174 hI hC (Nat.le_of_ble_eq_true rfl) (fun _ h => h) hm dX8_whole_26 (Nat.le_of_ble_eq_true rfl) (fun q1 hm => ?_)
        refine zuM (u2 := (M_put_signs_waiting_open_sign (q1.1, (M_waiting u), (M_open u), q1.2) u)) rfl ?_
        refine z_aload_n hC dX8_whole_29 rfl 0 rfl ?_
        refine z_dup hC dX8_whole_30 rfl ?_
        refine gM_X8_84_o (v := (M_waiting u)) hC dX8_whole_31 rfl ?_
        refine z_iconst hC dX8_whole_34 kI_1 ?_
        refine z_isub hC dX8_whole_35 ?_
        refine pM_X8_84_o hC hI (fun _ h => h) dX8_whole_36 ?_
        refine zuM (u2 := (M_put_signs_waiting_open_sign (q1.1, ((M_waiting u) - (1 : Int32)), (M_open u), q1.2) u)) rfl ?_
        refine z_aload_n hC dX8_whole_39 rfl 0 rfl ?_
        refine z_dup hC dX8_whole_40 rfl ?_
        refine gM_X8_87_o (v := (M_open u)) hC dX8_whole_41 rfl ?_
        refine z_iconst hC dX8_whole_44 kI_1 ?_
        refine z_isub hC dX8_whole_45 ?_
        refine pM_X8_87_o hC hI (fun _ h => h) dX8_whole_46 ?_
        refine zuM (u2 := (M_put_signs_waiting_open_sign (q1.1, ((M_waiting u) - (1 : Int32)), ((M_open u) - (1 : Int32)), q1.2) u)) rfl ?_
        refine z_goto (tgt := 0) hC dX8_whole_49 (by decide) ?_
        refine z_lv hC [0] rfl ?_
        exact ih _ hm
      · exact rvM (fin := fun z => M_put_signs_waiting_open_sign z u) hC hr dX8_whole_52 hm rfl
def mM_whole (u : SM) : Option (Int32 × Int32 × Int32 × (Nat → Int32)) :=
  mM_whole_L0 256 u
set_option maxRecDepth 100000 in
set_option maxHeartbeats 4000000 in
theorem cM_whole {l : Launch} {D : va_G} {cA : Nat → ClassId} {ad : Nat → Nat} {E : zEt} (hI : zInj ad 23) (u : SM) {w' : Int32 × Int32 × Int32 × (Nat → Int32)} (hm : mM_whole u = some w') : Met l yX8_whole (zWs yX8_whole cX8_whole 1 none) (zRm 1) (va_Pc [.ref (ad 0)] (zPre D (zTy cA) E (zAd ad 23) (wM cA ad u))) (zQv (zBw D (wM cA ad (M_put_signs_waiting_open_sign w' u))) (zAd ad 23)) 0 0 (zAd ad 23) := by
  refine z_met (lv := [(0, .ref (ad 0))]) plX8 rfl rfl (Nat.le_of_ble_eq_true rfl) rfl ?_
  intro p e s m below meth c hC hr hin
  unfold mM_whole at hm
  refine z_lv hC [0] rfl ?_
  exact lM_whole_0 hI hC hr _ _ hm
def M_put_signs_waiting_sign (p : Int32 × Int32 × (Nat → Int32)) (u : SM) : SM := ((u.1.1, (((p.1, p.2.1), u.1.2.1.2), u.1.2.2)), (u.2.1, (((p.2.2, u.2.2.1.1.2), u.2.2.1.2), u.2.2.2)))
def mM_settle_J45 (K0 : SM → Option (Int32 × Int32 × (Nat → Int32))) (x1 : Int32) (u : SM) : Option (Int32 × Int32 × (Nat → Int32)) :=
  zgi ((M_waiting u) - (1 : Int32)) 101 ((mM_put (-((M_waits u) (((M_waiting u) - (1 : Int32))).toNatClampNeg)) (M_put_signs_waiting_sign ((M_signs u), ((M_waiting u) - (1 : Int32)), (M_sign u)) u)).bind fun q1 => (K0 (M_put_signs_waiting_sign (q1.1, ((M_waiting u) - (1 : Int32)), q1.2) u)))
set_option maxRecDepth 100000 in
set_option maxHeartbeats 4000000 in
theorem jM_settle_45 {l : Launch} {D : va_G} {cA : Nat → ClassId} {ad : Nat → Nat} {p : Program} {e : Env} {s : State} {m : MethodId} {args : Array Value} {below : List Frame} {meth : Method} {c : Code} {E : zEt} {w' : Int32 × Int32 × (Nat → Int32)}  {K0 : SM → Option (Int32 × Int32 × (Nat → Int32))} {x1 : Int32} {u : SM} (hI : zInj ad 23) (hC : zC p s m args meth c cX8_settle 2 RX8 zTS D (zTy cA) (zAd ad 23) E) (hr : meth.sig.returnType = none) (hK0 : ∀ (u : SM), K0 u = some w' → zG p l e (zRm 1) s m args below meth c 2 D (zAd ad 23) (MQ below (zQv (zBw D (wM cA ad (M_put_signs_waiting_sign w' u))) (zAd ad 23)) args s 0 0 (zAd ad 23)) (wM cA ad u) [(0, .ref (ad 0)), (1, .int x1)] 0 []) (hm : mM_settle_J45 K0 x1 u = some w') : zG p l e (zRm 1) s m args below meth c 2 D (zAd ad 23) (MQ below (zQv (zBw D (wM cA ad (M_put_signs_waiting_sign w' u))) (zAd ad 23)) args s 0 0 (zAd ad 23)) (wM cA ad u) [(0, .ref (ad 0)), (1, .int x1)] 45 [] := by
  unfold mM_settle_J45 at hm
  refine z_aload_n hC dX8_settle_45 rfl 0 rfl ?_
  refine z_dup hC dX8_settle_46 rfl ?_
  refine gM_X8_84_o (v := (M_waiting u)) hC dX8_settle_47 rfl ?_
  refine z_iconst hC dX8_settle_50 kI_1 ?_
  refine z_isub hC dX8_settle_51 ?_
  refine pM_X8_84_o hC hI (fun _ h => h) dX8_settle_52 ?_
  refine zuM (u2 := (M_put_signs_waiting_sign ((M_signs u), ((M_waiting u) - (1 : Int32)), (M_sign u)) u)) rfl ?_
  refine z_aload_n hC dX8_settle_55 rfl 0 rfl ?_
  refine z_aload_n hC dX8_settle_56 rfl 0 rfl ?_
  refine gM_X8_78_o hC dX8_settle_57 ?_
  refine z_aload_n hC dX8_settle_60 rfl 0 rfl ?_
  refine gM_X8_84_o (v := ((M_waiting u) - (1 : Int32))) hC dX8_settle_61 rfl ?_
  refine aM_waits hC hm dX8_settle_64 (fun hm => ?_)
  refine z_ineg hC dX8_settle_65 ?_
  refine xM_X8_174 hI hC (Nat.le_of_ble_eq_true rfl) (fun _ h => h) hm dX8_settle_66 (Nat.le_of_ble_eq_true rfl) (fun q1 hm => ?_)
  refine zuM (u2 := (M_put_signs_waiting_sign (q1.1, ((M_waiting u) - (1 : Int32)), q1.2) u)) rfl ?_
  refine z_goto (tgt := 0) hC dX8_settle_69 (by decide) ?_
  refine z_lv hC [0, 1] rfl ?_
  exact hK0 _ hm
def mM_settle_L0 (x1 : Int32) : Nat → SM → Option (Int32 × Int32 × (Nat → Int32))
  | 0, _ => none
  | n + 1, u => if (M_waiting u) ≤ 0 then (some ((M_signs u), (M_waiting u), (M_sign u))) else (zgi ((M_waiting u) - (1 : Int32)) 101 (if ((M_waits u) (((M_waiting u) - (1 : Int32))).toNatClampNeg) = (38 : Int32) then (mM_settle_J45 (mM_settle_L0 x1 n) x1 u) else (zgi ((M_waiting u) - (1 : Int32)) 101 (if ((M_waits u) (((M_waiting u) - (1 : Int32))).toNatClampNeg) = (124 : Int32) then (if x1 = (38 : Int32) then (some ((M_signs u), (M_waiting u), (M_sign u))) else (mM_settle_J45 (mM_settle_L0 x1 n) x1 u)) else (some ((M_signs u), (M_waiting u), (M_sign u)))))))
set_option maxRecDepth 100000 in
set_option maxHeartbeats 4000000 in
theorem lM_settle_0 {l : Launch} {D : va_G} {cA : Nat → ClassId} {ad : Nat → Nat} {p : Program} {e : Env} {s : State} {m : MethodId} {args : Array Value} {below : List Frame} {meth : Method} {c : Code} {E : zEt} {w' : Int32 × Int32 × (Nat → Int32)}  {x1 : Int32} (hI : zInj ad 23) (hC : zC p s m args meth c cX8_settle 2 RX8 zTS D (zTy cA) (zAd ad 23) E) (hr : meth.sig.returnType = none) : ∀ (n : Nat) (u : SM), mM_settle_L0 x1 n u = some w' → zG p l e (zRm 1) s m args below meth c 2 D (zAd ad 23) (MQ below (zQv (zBw D (wM cA ad (M_put_signs_waiting_sign w' u))) (zAd ad 23)) args s 0 0 (zAd ad 23)) (wM cA ad u) [(0, .ref (ad 0)), (1, .int x1)] 0 [] := by
  intro n
  induction n with
  | zero => intro u hm; exact z_none hm
  | succ n ih =>
    intro u hm
    rw [mM_settle_L0] at hm
    refine z_aload_n hC dX8_settle_0 rfl 0 rfl ?_
    refine gM_X8_84_o (v := (M_waiting u)) hC dX8_settle_1 rfl ?_
    refine z_if_le (tgt := 72) hC hm dX8_settle_4 (by decide) (fun hm => ?_) (fun hm => ?_)
    · exact rvM (fin := fun z => M_put_signs_waiting_sign z u) hC hr dX8_settle_72 hm rfl
    · refine z_aload_n hC dX8_settle_7 rfl 0 rfl ?_
      refine gM_X8_78_o hC dX8_settle_8 ?_
      refine z_aload_n hC dX8_settle_11 rfl 0 rfl ?_
      refine gM_X8_84_o (v := (M_waiting u)) hC dX8_settle_12 rfl ?_
      refine z_iconst hC dX8_settle_15 kI_1 ?_
      refine z_isub hC dX8_settle_16 ?_
      refine aM_waits hC hm dX8_settle_17 (fun hm => ?_)
      refine z_bipush hC dX8_settle_18 kB_38 ?_
      refine z_icmp_eq (tgt := 45) hC hm dX8_settle_20 (by decide) (fun hm => ?_) (fun hm => ?_)
      · refine z_lv hC [0, 1] rfl ?_
        exact jM_settle_45 hI hC hr (ih) hm
      · refine z_aload_n hC dX8_settle_23 rfl 0 rfl ?_
        refine gM_X8_78_o hC dX8_settle_24 ?_
        refine z_aload_n hC dX8_settle_27 rfl 0 rfl ?_
        refine gM_X8_84_o (v := (M_waiting u)) hC dX8_settle_28 rfl ?_
        refine z_iconst hC dX8_settle_31 kI_1 ?_
        refine z_isub hC dX8_settle_32 ?_
        refine aM_waits hC hm dX8_settle_33 (fun hm => ?_)
        refine z_bipush hC dX8_settle_34 kB_124 ?_
        refine z_icmp_ne (tgt := 72) hC hm dX8_settle_36 (by decide) (fun hm => ?_) (fun hm => ?_)
        · refine z_iload_n hC dX8_settle_39 rfl 1 rfl ?_
          refine z_bipush hC dX8_settle_40 kB_38 ?_
          refine z_icmp_eq (tgt := 72) hC hm dX8_settle_42 (by decide) (fun hm => ?_) (fun hm => ?_)
          · exact rvM (fin := fun z => M_put_signs_waiting_sign z u) hC hr dX8_settle_72 hm rfl
          · refine z_lv hC [0, 1] rfl ?_
            exact jM_settle_45 hI hC hr (ih) hm
        · exact rvM (fin := fun z => M_put_signs_waiting_sign z u) hC hr dX8_settle_72 hm rfl
def mM_settle (x1 : Int32) (u : SM) : Option (Int32 × Int32 × (Nat → Int32)) :=
  mM_settle_L0 x1 256 u
set_option maxRecDepth 100000 in
set_option maxHeartbeats 4000000 in
theorem cM_settle {l : Launch} {D : va_G} {cA : Nat → ClassId} {ad : Nat → Nat} {E : zEt} (hI : zInj ad 23) (x1 : Int32) (u : SM) {w' : Int32 × Int32 × (Nat → Int32)} (hm : mM_settle x1 u = some w') : Met l yX8_settle (zWs yX8_settle cX8_settle 2 none) (zRm 1) (va_Pc [.ref (ad 0), .int x1] (zPre D (zTy cA) E (zAd ad 23) (wM cA ad u))) (zQv (zBw D (wM cA ad (M_put_signs_waiting_sign w' u))) (zAd ad 23)) 0 0 (zAd ad 23) := by
  refine z_met (lv := [(0, .ref (ad 0)), (1, .int x1)]) plX8 rfl rfl (Nat.le_of_ble_eq_true rfl) rfl ?_
  intro p e s m below meth c hC hr hin
  unfold mM_settle at hm
  refine z_lv hC [0, 1] rfl ?_
  exact lM_settle_0 hI hC hr _ _ hm
def mM_place (x1 : Int32) : Int32 :=
  if x1 = (102 : Int32) then ((0 : Int32)) else (if x1 = (103 : Int32) then ((-1 : Int32)) else (if x1 = (104 : Int32) then ((-1 : Int32)) else (if x1 = (105 : Int32) then ((-1 : Int32)) else (if x1 = (106 : Int32) then ((-1 : Int32)) else (if x1 = (107 : Int32) then ((2 : Int32)) else (if x1 = (108 : Int32) then ((3 : Int32)) else (if x1 = (109 : Int32) then ((-1 : Int32)) else (if x1 = (110 : Int32) then ((-1 : Int32)) else (if x1 = (111 : Int32) then ((1 : Int32)) else (if x1 = (112 : Int32) then ((-1 : Int32)) else (if x1 = (113 : Int32) then ((-1 : Int32)) else (if x1 = (114 : Int32) then ((-1 : Int32)) else (if x1 = (115 : Int32) then ((-1 : Int32)) else (if x1 = (116 : Int32) then ((4 : Int32)) else ((-1 : Int32))))))))))))))))
set_option maxRecDepth 100000 in
set_option maxHeartbeats 4000000 in
theorem cM_place {l : Launch} {D : va_G} {cA : Nat → ClassId} {ad : Nat → Nat} {E : zEt} (hI : zInj ad 23) (x1 : Int32) (u : SM) {r : Int32} (hm : mM_place x1 = r) : Met l yX8_place (zWs yX8_place cX8_place 2 (some .int)) (zRm 0) (va_Pc [.ref (ad 0), .int x1] (zPre D (zTy cA) E zA0 (wM cA ad u))) (zQi r zB0 zA0) 0 0 zA0 := by
  refine z_met (lv := [(0, .ref (ad 0)), (1, .int x1)]) plX8 rfl rfl (Nat.le_of_ble_eq_true rfl) rfl ?_
  intro p e s m below meth c hC hr hin
  unfold mM_place at hm
  refine z_iload_n hC dX8_place_0 rfl 1 rfl ?_
  refine z_ite hm (fun h1_0 hm => ?_) (fun h1_0 hm => ?_)
  · refine z_tin hC dX8_place_1 h1_0 kc_102 (by decide) (by decide) (off := 75) rfl (tgt := 76) (by decide) ?_
    refine z_iconst hC dX8_place_76 kI_0 ?_
    exact z_iret hC hr rfl dX8_place_77 (fun _ _ => trivial) hm
  · refine z_ite hm (fun h1_1 hm => ?_) (fun h1_1 hm => ?_)
    · refine z_tin hC dX8_place_1 h1_1 kc_103 (by decide) (by decide) (off := 85) rfl (tgt := 86) (by decide) ?_
      refine z_iconst hC dX8_place_86 kI_m1 ?_
      exact z_iret hC hr rfl dX8_place_87 (fun _ _ => trivial) hm
    · refine z_ite hm (fun h1_2 hm => ?_) (fun h1_2 hm => ?_)
      · refine z_tin hC dX8_place_1 h1_2 kc_104 (by decide) (by decide) (off := 85) rfl (tgt := 86) (by decide) ?_
        refine z_iconst hC dX8_place_86 kI_m1 ?_
        exact z_iret hC hr rfl dX8_place_87 (fun _ _ => trivial) hm
      · refine z_ite hm (fun h1_3 hm => ?_) (fun h1_3 hm => ?_)
        · refine z_tin hC dX8_place_1 h1_3 kc_105 (by decide) (by decide) (off := 85) rfl (tgt := 86) (by decide) ?_
          refine z_iconst hC dX8_place_86 kI_m1 ?_
          exact z_iret hC hr rfl dX8_place_87 (fun _ _ => trivial) hm
        · refine z_ite hm (fun h1_4 hm => ?_) (fun h1_4 hm => ?_)
          · refine z_tin hC dX8_place_1 h1_4 kc_106 (by decide) (by decide) (off := 85) rfl (tgt := 86) (by decide) ?_
            refine z_iconst hC dX8_place_86 kI_m1 ?_
            exact z_iret hC hr rfl dX8_place_87 (fun _ _ => trivial) hm
          · refine z_ite hm (fun h1_5 hm => ?_) (fun h1_5 hm => ?_)
            · refine z_tin hC dX8_place_1 h1_5 kc_107 (by decide) (by decide) (off := 79) rfl (tgt := 80) (by decide) ?_
              refine z_iconst hC dX8_place_80 kI_2 ?_
              exact z_iret hC hr rfl dX8_place_81 (fun _ _ => trivial) hm
            · refine z_ite hm (fun h1_6 hm => ?_) (fun h1_6 hm => ?_)
              · refine z_tin hC dX8_place_1 h1_6 kc_108 (by decide) (by decide) (off := 81) rfl (tgt := 82) (by decide) ?_
                refine z_iconst hC dX8_place_82 kI_3 ?_
                exact z_iret hC hr rfl dX8_place_83 (fun _ _ => trivial) hm
              · refine z_ite hm (fun h1_7 hm => ?_) (fun h1_7 hm => ?_)
                · refine z_tin hC dX8_place_1 h1_7 kc_109 (by decide) (by decide) (off := 85) rfl (tgt := 86) (by decide) ?_
                  refine z_iconst hC dX8_place_86 kI_m1 ?_
                  exact z_iret hC hr rfl dX8_place_87 (fun _ _ => trivial) hm
                · refine z_ite hm (fun h1_8 hm => ?_) (fun h1_8 hm => ?_)
                  · refine z_tin hC dX8_place_1 h1_8 kc_110 (by decide) (by decide) (off := 85) rfl (tgt := 86) (by decide) ?_
                    refine z_iconst hC dX8_place_86 kI_m1 ?_
                    exact z_iret hC hr rfl dX8_place_87 (fun _ _ => trivial) hm
                  · refine z_ite hm (fun h1_9 hm => ?_) (fun h1_9 hm => ?_)
                    · refine z_tin hC dX8_place_1 h1_9 kc_111 (by decide) (by decide) (off := 77) rfl (tgt := 78) (by decide) ?_
                      refine z_iconst hC dX8_place_78 kI_1 ?_
                      exact z_iret hC hr rfl dX8_place_79 (fun _ _ => trivial) hm
                    · refine z_ite hm (fun h1_10 hm => ?_) (fun h1_10 hm => ?_)
                      · refine z_tin hC dX8_place_1 h1_10 kc_112 (by decide) (by decide) (off := 85) rfl (tgt := 86) (by decide) ?_
                        refine z_iconst hC dX8_place_86 kI_m1 ?_
                        exact z_iret hC hr rfl dX8_place_87 (fun _ _ => trivial) hm
                      · refine z_ite hm (fun h1_11 hm => ?_) (fun h1_11 hm => ?_)
                        · refine z_tin hC dX8_place_1 h1_11 kc_113 (by decide) (by decide) (off := 85) rfl (tgt := 86) (by decide) ?_
                          refine z_iconst hC dX8_place_86 kI_m1 ?_
                          exact z_iret hC hr rfl dX8_place_87 (fun _ _ => trivial) hm
                        · refine z_ite hm (fun h1_12 hm => ?_) (fun h1_12 hm => ?_)
                          · refine z_tin hC dX8_place_1 h1_12 kc_114 (by decide) (by decide) (off := 85) rfl (tgt := 86) (by decide) ?_
                            refine z_iconst hC dX8_place_86 kI_m1 ?_
                            exact z_iret hC hr rfl dX8_place_87 (fun _ _ => trivial) hm
                          · refine z_ite hm (fun h1_13 hm => ?_) (fun h1_13 hm => ?_)
                            · refine z_tin hC dX8_place_1 h1_13 kc_115 (by decide) (by decide) (off := 85) rfl (tgt := 86) (by decide) ?_
                              refine z_iconst hC dX8_place_86 kI_m1 ?_
                              exact z_iret hC hr rfl dX8_place_87 (fun _ _ => trivial) hm
                            · refine z_ite hm (fun h1_14 hm => ?_) (fun h1_14 hm => ?_)
                              · refine z_tin hC dX8_place_1 h1_14 kc_116 (by decide) (by decide) (off := 83) rfl (tgt := 84) (by decide) ?_
                                refine z_iconst hC dX8_place_84 kI_4 ?_
                                exact z_iret hC hr rfl dX8_place_85 (fun _ _ => trivial) hm
                              · refine z_tout (n := 15) hC dX8_place_1 (z_allc (z_tneq kc_102 h1_0) (z_allc (z_tneq kc_103 h1_1) (z_allc (z_tneq kc_104 h1_2) (z_allc (z_tneq kc_105 h1_3) (z_allc (z_tneq kc_106 h1_4) (z_allc (z_tneq kc_107 h1_5) (z_allc (z_tneq kc_108 h1_6) (z_allc (z_tneq kc_109 h1_7) (z_allc (z_tneq kc_110 h1_8) (z_allc (z_tneq kc_111 h1_9) (z_allc (z_tneq kc_112 h1_10) (z_allc (z_tneq kc_113 h1_11) (z_allc (z_tneq kc_114 h1_12) (z_allc (z_tneq kc_115 h1_13) (z_allc (z_tneq kc_116 h1_14) z_all0))))))))))))))) (by decide) (tgt := 86) (by decide) ?_
                                refine z_iconst hC dX8_place_86 kI_m1 ?_
                                exact z_iret hC hr rfl dX8_place_87 (fun _ _ => trivial) hm
theorem xM_X8_178 {p : Program} {l : Launch} {e : Env} {s : State} {m : MethodId} {args : Array Value} {below : List Frame} {meth : Method} {c : Code} {Q : State → Prop} {D : va_G} {A : Nat → Prop} {cc : ByteArray} {nL : Nat} {lv : List (Nat × Value)} {pc : Nat} {st : List Value} {cA : Nat → ClassId} {ad : Nat → Nat} {E : zEt} {d : Nat} {x1 : Int32} {u : SM} (hI : zInj ad 23) (C : zC p s m args meth c cc nL RX8 zTS D (zTy cA) A E) (hdm : 0 + 1 ≤ d) (hd : decode cc pc = .ok (.invokevirtual 178, 3)) (h8 : (st.map fun v => v.category).sum ≤ 8) (g : zG p l e (zRm d) s m args below meth c nL D A Q (wM cA ad u) lv (pc + 3) (.int (mM_place x1) :: st)) : zG p l e (zRm d) s m args below meth c nL D A Q (wM cA ad u) lv pc (.int x1 :: .ref (ad 0) :: st) :=
  z_calliV C (cM_place hI x1 u rfl) (cwX8_178 C.1.2.2.2.2 rfl rfl ⟨hdm, by have := hdm; simp only [zRm]; omega⟩) hd rfl rfl h8 ⟨_, rfl, rfl⟩ (List.mem_of_getElem? (heM_o cA ad u)) (fun _ h => h) (fun _ h => h.elim) zJ_ro g
def M_put_at_digits_signs_waiting_open_sign (p : Int32 × Int32 × Int32 × Int32 × Int32 × (Nat → Int32)) (u : SM) : SM := (((u.1.1.1, (u.1.1.2.1, (u.1.1.2.2.1, (p.1, p.2.1)))), (((p.2.2.1, p.2.2.2.1), (p.2.2.2.2.1, u.1.2.1.2.2)), u.1.2.2)), (u.2.1, (((p.2.2.2.2.2, u.2.2.1.1.2), u.2.2.1.2), u.2.2.2)))
theorem xM_X8_182 {p : Program} {l : Launch} {e : Env} {s : State} {m : MethodId} {args : Array Value} {below : List Frame} {meth : Method} {c : Code} {Q : State → Prop} {D : va_G} {A : Nat → Prop} {cc : ByteArray} {nL : Nat} {lv : List (Nat × Value)} {pc : Nat} {st : List Value} {cA : Nat → ClassId} {ad : Nat → Nat} {E : zEt} {d : Nat} {u : SM} (hI : zInj ad 23) (C : zC p s m args meth c cc nL RX8 zTS D (zTy cA) A E) (hdm : 2 + 1 ≤ d) (hA : ∀ q, zAd ad 23 q → A q) {β : Type} {f : (Int32 × Int32 × Int32) → Option β} {o : β} (hm : (mM_takesNumber u).bind f = some o) (hd : decode cc pc = .ok (.invokevirtual 182, 3)) (h8 : (st.map fun v => v.category).sum ≤ 8) (g : ∀ q, f q = some o → zG p l e (zRm d) s m args below meth c nL D A Q (wM cA ad (M_put_at_digits q.2 u)) lv (pc + 3) (.int q.1 :: st)) : zG p l e (zRm d) s m args below meth c nL D A Q (wM cA ad u) lv pc (.ref (ad 0) :: st) := by
  obtain ⟨q, h1, h2⟩ := zb_some hm
  exact z_calliV C (cM_takesNumber hI  u h1) (cwX8_182 C.1.2.2.2.2 rfl rfl ⟨hdm, by have := hdm; simp only [zRm]; omega⟩) hd rfl rfl h8 ⟨_, rfl, rfl⟩ (List.mem_of_getElem? (heM_o cA ad u)) (fun _ h => h) hA zJ_same (g q h2)
theorem xM_X8_185 {p : Program} {l : Launch} {e : Env} {s : State} {m : MethodId} {args : Array Value} {below : List Frame} {meth : Method} {c : Code} {Q : State → Prop} {D : va_G} {A : Nat → Prop} {cc : ByteArray} {nL : Nat} {lv : List (Nat × Value)} {pc : Nat} {st : List Value} {cA : Nat → ClassId} {ad : Nat → Nat} {E : zEt} {d : Nat} {u : SM} (hI : zInj ad 23) (C : zC p s m args meth c cc nL RX8 zTS D (zTy cA) A E) (hdm : 1 + 1 ≤ d) (hA : ∀ q, zAd ad 23 q → A q) {β : Type} {f : (Int32 × Int32 × Int32 × (Nat → Int32)) → Option β} {o : β} (hm : (mM_whole u).bind f = some o) (hd : decode cc pc = .ok (.invokevirtual 185, 3)) (h8 : (st.map fun v => v.category).sum ≤ 8) (g : ∀ q, f q = some o → zG p l e (zRm d) s m args below meth c nL D A Q (wM cA ad (M_put_signs_waiting_open_sign q u)) lv (pc + 3) (st)) : zG p l e (zRm d) s m args below meth c nL D A Q (wM cA ad u) lv pc (.ref (ad 0) :: st) := by
  obtain ⟨q, h1, h2⟩ := zb_some hm
  exact z_callvV C (cM_whole hI  u h1) (cwX8_185 C.1.2.2.2.2 rfl rfl ⟨hdm, by have := hdm; simp only [zRm]; omega⟩) hd rfl rfl h8 ⟨_, rfl, rfl⟩ (List.mem_of_getElem? (heM_o cA ad u)) (fun _ h => h) hA zJ_same (g q h2)
def mM_takesTest (u : SM) : Option (Int32 × Int32 × Int32 × Int32 × Int32 × Int32 × (Nat → Int32)) :=
  (mM_next u).bind fun q1 => (if 0 ≤ (mM_place q1) then ((mM_next (M_put_at_digits_signs_waiting_open_sign (((M_at u) + (1 : Int32)), (M_digits u), (M_signs u), (M_waiting u), (M_open u), (M_sign u)) u)).bind fun q2 => (if (mM_in q2 (60 : Int32) (62 : Int32)) = 0 then (some ((0 : Int32), (((M_at u) + (1 : Int32)), (M_digits u), (M_signs u), (M_waiting u), (M_open u), (M_sign u)))) else ((mM_takesNumber (M_put_at_digits_signs_waiting_open_sign ((((M_at u) + (1 : Int32)) + (1 : Int32)), (M_digits u), (M_signs u), (M_waiting u), (M_open u), (M_sign u)) u)).bind fun q3 => (if q3.1 = 0 then (some ((0 : Int32), (q3.2.1, q3.2.2, (M_signs u), (M_waiting u), (M_open u), (M_sign u)))) else ((mM_put ((((1000 : Int32) * (mM_place q1)) + ((100 : Int32) * (q2 - (60 : Int32)))) + q3.2.2) (M_put_at_digits_signs_waiting_open_sign (q3.2.1, q3.2.2, (M_signs u), (M_waiting u), (M_open u), (M_sign u)) u)).bind fun q4 => ((mM_whole (M_put_at_digits_signs_waiting_open_sign (q3.2.1, q3.2.2, q4.1, (M_waiting u), (M_open u), q4.2) u)).bind fun q5 => (some ((1 : Int32), (q3.2.1, q3.2.2, q5.1, q5.2.1, q5.2.2.1, q5.2.2.2))))))))) else (some ((0 : Int32), ((M_at u), (M_digits u), (M_signs u), (M_waiting u), (M_open u), (M_sign u)))))
set_option maxRecDepth 100000 in
set_option maxHeartbeats 4000000 in
theorem cM_takesTest {l : Launch} {D : va_G} {cA : Nat → ClassId} {ad : Nat → Nat} {E : zEt} (hI : zInj ad 23) (u : SM) {r : Int32} {w' : Int32 × Int32 × Int32 × Int32 × Int32 × (Nat → Int32)} (hm : mM_takesTest u = some (r, w')) : Met l yX8_takesTest (zWs yX8_takesTest cX8_takesTest 3 (some .boolean)) (zRm 3) (va_Pc [.ref (ad 0)] (zPre D (zTy cA) E (zAd ad 23) (wM cA ad u))) (zQi r (zBw D (wM cA ad (M_put_at_digits_signs_waiting_open_sign w' u))) (zAd ad 23)) 0 0 (zAd ad 23) := by
  refine z_met (lv := [(0, .ref (ad 0))]) plX8 rfl rfl (Nat.le_of_ble_eq_true rfl) rfl ?_
  intro p e s m below meth c hC hr hin
  unfold mM_takesTest at hm
  refine z_aload_n hC dX8_takesTest_0 rfl 0 rfl ?_
  refine z_aload_n hC dX8_takesTest_1 rfl 0 rfl ?_
  refine xM_X8_163 hI hC (Nat.le_of_ble_eq_true rfl) hm dX8_takesTest_2 (Nat.le_of_ble_eq_true rfl) (fun q1 hm => ?_)
  refine xM_X8_178 hI hC (Nat.le_of_ble_eq_true rfl) dX8_takesTest_5 (Nat.le_of_ble_eq_true rfl) ?_
  refine z_istore_n (lv' := [(1, .int (mM_place q1)), (0, .ref (ad 0))]) hC dX8_takesTest_8 rfl (by decide) rfl ?_
  refine z_iload_n hC dX8_takesTest_9 rfl 0 rfl ?_
  refine z_if_ge (tgt := 15) hC hm dX8_takesTest_10 (by decide) (fun hm => ?_) (fun hm => ?_)
  · refine z_aload_n hC dX8_takesTest_15 rfl 1 rfl ?_
    refine z_dup hC dX8_takesTest_16 rfl ?_
    refine gM_X8_48_o (v := (M_at u)) hC dX8_takesTest_17 rfl ?_
    refine z_iconst hC dX8_takesTest_20 kI_1 ?_
    refine z_iadd hC dX8_takesTest_21 ?_
    refine pM_X8_48_o hC hI (fun _ h => h) dX8_takesTest_22 ?_
    refine zuM (u2 := (M_put_at_digits_signs_waiting_open_sign (((M_at u) + (1 : Int32)), (M_digits u), (M_signs u), (M_waiting u), (M_open u), (M_sign u)) u)) rfl ?_
    refine z_aload_n hC dX8_takesTest_25 rfl 1 rfl ?_
    refine xM_X8_163 hI hC (Nat.le_of_ble_eq_true rfl) hm dX8_takesTest_26 (Nat.le_of_ble_eq_true rfl) (fun q2 hm => ?_)
    refine z_istore_n (lv' := [(2, .int q2), (1, .int (mM_place q1)), (0, .ref (ad 0))]) hC dX8_takesTest_29 rfl (by decide) rfl ?_
    refine z_aload_n hC dX8_takesTest_30 rfl 2 rfl ?_
    refine z_iload_n hC dX8_takesTest_31 rfl 0 rfl ?_
    refine z_bipush hC dX8_takesTest_32 kB_60 ?_
    refine z_bipush hC dX8_takesTest_34 kB_62 ?_
    refine xM_X8_150 hI hC (Nat.le_of_ble_eq_true rfl) dX8_takesTest_36 (Nat.le_of_ble_eq_true rfl) ?_
    refine z_if_ne (tgt := 44) hC hm dX8_takesTest_39 (by decide) (fun hm => ?_) (fun hm => ?_)
    · refine z_iconst hC dX8_takesTest_42 kI_0 ?_
      exact riM (fin := fun z => M_put_at_digits_signs_waiting_open_sign z u) hC hr rfl dX8_takesTest_43 hm rfl
    · refine z_aload_n hC dX8_takesTest_44 rfl 2 rfl ?_
      refine z_dup hC dX8_takesTest_45 rfl ?_
      refine gM_X8_48_o (v := ((M_at u) + (1 : Int32))) hC dX8_takesTest_46 rfl ?_
      refine z_iconst hC dX8_takesTest_49 kI_1 ?_
      refine z_iadd hC dX8_takesTest_50 ?_
      refine pM_X8_48_o hC hI (fun _ h => h) dX8_takesTest_51 ?_
      refine zuM (u2 := (M_put_at_digits_signs_waiting_open_sign ((((M_at u) + (1 : Int32)) + (1 : Int32)), (M_digits u), (M_signs u), (M_waiting u), (M_open u), (M_sign u)) u)) rfl ?_
      refine z_aload_n hC dX8_takesTest_54 rfl 2 rfl ?_
      refine xM_X8_182 hI hC (Nat.le_of_ble_eq_true rfl) (fun _ h => h) hm dX8_takesTest_55 (Nat.le_of_ble_eq_true rfl) (fun q3 hm => ?_)
      refine zuM (u2 := (M_put_at_digits_signs_waiting_open_sign (q3.2.1, q3.2.2, (M_signs u), (M_waiting u), (M_open u), (M_sign u)) u)) rfl ?_
      refine z_if_ne (tgt := 63) hC hm dX8_takesTest_58 (by decide) (fun hm => ?_) (fun hm => ?_)
      · refine z_iconst hC dX8_takesTest_61 kI_0 ?_
        exact riM (fin := fun z => M_put_at_digits_signs_waiting_open_sign z u) hC hr rfl dX8_takesTest_62 hm rfl
      · refine z_aload_n hC dX8_takesTest_63 rfl 2 rfl ?_
        refine z_sipush hC dX8_takesTest_64 kS_1000 ?_
        refine z_iload_n hC dX8_takesTest_67 rfl 1 rfl ?_
        refine z_imul hC dX8_takesTest_68 ?_
        refine z_bipush hC dX8_takesTest_69 kB_100 ?_
        refine z_iload_n hC dX8_takesTest_71 rfl 0 rfl ?_
        refine z_bipush hC dX8_takesTest_72 kB_60 ?_
        refine z_isub hC dX8_takesTest_74 ?_
        refine z_imul hC dX8_takesTest_75 ?_
        refine z_iadd hC dX8_takesTest_76 ?_
        refine z_aload_n hC dX8_takesTest_77 rfl 2 rfl ?_
        refine gM_X8_51_o (v := q3.2.2) hC dX8_takesTest_78 rfl ?_
        refine z_iadd hC dX8_takesTest_81 ?_
        refine xM_X8_174 hI hC (Nat.le_of_ble_eq_true rfl) (fun _ h => h) hm dX8_takesTest_82 (Nat.le_of_ble_eq_true rfl) (fun q4 hm => ?_)
        refine zuM (u2 := (M_put_at_digits_signs_waiting_open_sign (q3.2.1, q3.2.2, q4.1, (M_waiting u), (M_open u), q4.2) u)) rfl ?_
        refine z_aload_n hC dX8_takesTest_85 rfl 2 rfl ?_
        refine xM_X8_185 hI hC (Nat.le_of_ble_eq_true rfl) (fun _ h => h) hm dX8_takesTest_86 (Nat.le_of_ble_eq_true rfl) (fun q5 hm => ?_)
        refine zuM (u2 := (M_put_at_digits_signs_waiting_open_sign (q3.2.1, q3.2.2, q5.1, q5.2.1, q5.2.2.1, q5.2.2.2) u)) rfl ?_
        refine z_iconst hC dX8_takesTest_89 kI_1 ?_
        exact riM (fin := fun z => M_put_at_digits_signs_waiting_open_sign z u) hC hr rfl dX8_takesTest_90 hm rfl
  · refine z_iconst hC dX8_takesTest_13 kI_0 ?_
    exact riM (fin := fun z => M_put_at_digits_signs_waiting_open_sign z u) hC hr rfl dX8_takesTest_14 hm rfl
def M_put_at_digits_signs_waiting_open_from_to_sign_waits (p : Int32 × Int32 × Int32 × Int32 × Int32 × (Nat → Int32) × (Nat → Int32) × (Nat → Int32) × (Nat → Int32)) (u : SM) : SM := (((u.1.1.1, (u.1.1.2.1, (u.1.1.2.2.1, (p.1, p.2.1)))), (((p.2.2.1, p.2.2.2.1), (p.2.2.2.2.1, u.1.2.1.2.2)), u.1.2.2)), ((u.2.1.1, (u.2.1.2.1, (u.2.1.2.2.1, (p.2.2.2.2.2.1, p.2.2.2.2.2.2.1)))), (((p.2.2.2.2.2.2.2.1, (p.2.2.2.2.2.2.2.2, u.2.2.1.1.2.2)), u.2.2.1.2), u.2.2.2)))
theorem gM_X8_69_o {p : Program} {l : Launch} {e : Env} {R : Room} {s : State} {m : MethodId} {args : Array Value} {below : List Frame} {meth : Method} {c : Code} {Q : State → Prop} {D : va_G} {A : Nat → Prop} {cc : ByteArray} {nL : Nat} {lv : List (Nat × Value)} {pc : Nat} {st : List Value} {cA : Nat → ClassId} {ad : Nat → Nat} {E : zEt} {u : SM} (C : zC p s m args meth c cc nL RX8 zTS D (zTy cA) A E) (hd : decode cc pc = .ok (.getfield 69, 3)) (g : zG p l e R s m args below meth c nL D A Q (wM cA ad u) lv (pc + 3) (.ref (ad 9) :: st)) : zG p l e R s m args below meth c nL D A Q (wM cA ad u) lv pc (.ref (ad 0) :: st) := by
  exact fun H locs ls hP hS hL => va_get (D := D) (ci := 8) (C := RX8) (T := TX8) (N := 45) C.1.1 C.1.2.1 C.1.2.2.2.2 inlX8 C.1.2.2.2.1 C.2.1 hP 0 (heM_o cA ad u) rfl 19 (by decide) (C.1.2.2.2.2 _ mfX8_69) (fun _ h9 => h9) (v := .ref (ad 9)) rfl hd (g H locs ls hP hS hL)
theorem sM_from {p : Program} {l : Launch} {e : Env} {R : Room} {s : State} {m : MethodId} {args : Array Value} {below : List Frame} {meth : Method} {c : Code} {Q : State → Prop} {D : va_G} {A : Nat → Prop} {cc : ByteArray} {nL : Nat} {lv : List (Nat × Value)} {pc : Nat} {st : List Value} {cA : Nat → ClassId} {ad : Nat → Nat} {E : zEt} {own : String} {u : SM} {i : Int32} {x : Int32} {β : Type} {k : Option β} {r : β} (C : zC p s m args meth c cc nL own zTS D (zTy cA) A E) (hI : zInj ad 23) (hA : ∀ q, zAd ad 23 q → A q) (hm : zgi i 50 k = some r) (hd : decode cc pc = .ok (.iastore, 1)) (g : k = some r → zG p l e R s m args below meth c nL D A Q (wM cA ad (M_set_from (upd (M_from u) i.toNatClampNeg x) u)) lv (pc + 1) st) : zG p l e R s m args below meth c nL D A Q (wM cA ad u) lv pc (.int x :: .int i :: .ref (ad 9) :: st) := fun H locs ls hP hS hL => va_iast C.1.1 C.1.2.1 C.2.1 hP (zD_mono (wM_D hI cA u) hA) hS 9 0 (heM_from cA ad u) rfl (zgi_some hm).1 hd (fun H1 locs1 hP1 _ hS1 => g (zgi_some hm).2 H1 locs1 ls hP1 hS1 hL)
theorem xM_X8_191 {p : Program} {l : Launch} {e : Env} {s : State} {m : MethodId} {args : Array Value} {below : List Frame} {meth : Method} {c : Code} {Q : State → Prop} {D : va_G} {A : Nat → Prop} {cc : ByteArray} {nL : Nat} {lv : List (Nat × Value)} {pc : Nat} {st : List Value} {cA : Nat → ClassId} {ad : Nat → Nat} {E : zEt} {d : Nat} {x1 : Int32} {u : SM} (hI : zInj ad 23) (C : zC p s m args meth c cc nL RX8 zTS D (zTy cA) A E) (hdm : 1 + 1 ≤ d) (hA : ∀ q, zAd ad 23 q → A q) {β : Type} {f : (Int32 × Int32 × (Nat → Int32)) → Option β} {o : β} (hm : (mM_settle x1 u).bind f = some o) (hd : decode cc pc = .ok (.invokevirtual 191, 3)) (h8 : (st.map fun v => v.category).sum ≤ 8) (g : ∀ q, f q = some o → zG p l e (zRm d) s m args below meth c nL D A Q (wM cA ad (M_put_signs_waiting_sign q u)) lv (pc + 3) (st)) : zG p l e (zRm d) s m args below meth c nL D A Q (wM cA ad u) lv pc (.int x1 :: .ref (ad 0) :: st) := by
  obtain ⟨q, h1, h2⟩ := zb_some hm
  exact z_callvV C (cM_settle hI x1 u h1) (cwX8_191 C.1.2.2.2.2 rfl rfl ⟨hdm, by have := hdm; simp only [zRm]; omega⟩) hd rfl rfl h8 ⟨_, rfl, rfl⟩ (List.mem_of_getElem? (heM_o cA ad u)) (fun _ h => h) hA zJ_same (g q h2)
theorem sM_waits {p : Program} {l : Launch} {e : Env} {R : Room} {s : State} {m : MethodId} {args : Array Value} {below : List Frame} {meth : Method} {c : Code} {Q : State → Prop} {D : va_G} {A : Nat → Prop} {cc : ByteArray} {nL : Nat} {lv : List (Nat × Value)} {pc : Nat} {st : List Value} {cA : Nat → ClassId} {ad : Nat → Nat} {E : zEt} {own : String} {u : SM} {i : Int32} {x : Int32} {β : Type} {k : Option β} {r : β} (C : zC p s m args meth c cc nL own zTS D (zTy cA) A E) (hI : zInj ad 23) (hA : ∀ q, zAd ad 23 q → A q) (hm : zgi i 101 k = some r) (hd : decode cc pc = .ok (.iastore, 1)) (g : k = some r → zG p l e R s m args below meth c nL D A Q (wM cA ad (M_set_waits (upd (M_waits u) i.toNatClampNeg x) u)) lv (pc + 1) st) : zG p l e R s m args below meth c nL D A Q (wM cA ad u) lv pc (.int x :: .int i :: .ref (ad 12) :: st) := fun H locs ls hP hS hL => va_iast C.1.1 C.1.2.1 C.2.1 hP (zD_mono (wM_D hI cA u) hA) hS 12 0 (heM_waits cA ad u) rfl (zgi_some hm).1 hd (fun H1 locs1 hP1 _ hS1 => g (zgi_some hm).2 H1 locs1 ls hP1 hS1 hL)
theorem gM_X8_72_o {p : Program} {l : Launch} {e : Env} {R : Room} {s : State} {m : MethodId} {args : Array Value} {below : List Frame} {meth : Method} {c : Code} {Q : State → Prop} {D : va_G} {A : Nat → Prop} {cc : ByteArray} {nL : Nat} {lv : List (Nat × Value)} {pc : Nat} {st : List Value} {cA : Nat → ClassId} {ad : Nat → Nat} {E : zEt} {u : SM} (C : zC p s m args meth c cc nL RX8 zTS D (zTy cA) A E) (hd : decode cc pc = .ok (.getfield 72, 3)) (g : zG p l e R s m args below meth c nL D A Q (wM cA ad u) lv (pc + 3) (.ref (ad 10) :: st)) : zG p l e R s m args below meth c nL D A Q (wM cA ad u) lv pc (.ref (ad 0) :: st) := by
  exact fun H locs ls hP hS hL => va_get (D := D) (ci := 8) (C := RX8) (T := TX8) (N := 45) C.1.1 C.1.2.1 C.1.2.2.2.2 inlX8 C.1.2.2.2.1 C.2.1 hP 0 (heM_o cA ad u) rfl 20 (by decide) (C.1.2.2.2.2 _ mfX8_72) (fun _ h9 => h9) (v := .ref (ad 10)) rfl hd (g H locs ls hP hS hL)
theorem sM_to {p : Program} {l : Launch} {e : Env} {R : Room} {s : State} {m : MethodId} {args : Array Value} {below : List Frame} {meth : Method} {c : Code} {Q : State → Prop} {D : va_G} {A : Nat → Prop} {cc : ByteArray} {nL : Nat} {lv : List (Nat × Value)} {pc : Nat} {st : List Value} {cA : Nat → ClassId} {ad : Nat → Nat} {E : zEt} {own : String} {u : SM} {i : Int32} {x : Int32} {β : Type} {k : Option β} {r : β} (C : zC p s m args meth c cc nL own zTS D (zTy cA) A E) (hI : zInj ad 23) (hA : ∀ q, zAd ad 23 q → A q) (hm : zgi i 50 k = some r) (hd : decode cc pc = .ok (.iastore, 1)) (g : k = some r → zG p l e R s m args below meth c nL D A Q (wM cA ad (M_set_to (upd (M_to u) i.toNatClampNeg x) u)) lv (pc + 1) st) : zG p l e R s m args below meth c nL D A Q (wM cA ad u) lv pc (.int x :: .int i :: .ref (ad 10) :: st) := fun H locs ls hP hS hL => va_iast C.1.1 C.1.2.1 C.2.1 hP (zD_mono (wM_D hI cA u) hA) hS 10 0 (heM_to cA ad u) rfl (zgi_some hm).1 hd (fun H1 locs1 hP1 _ hS1 => g (zgi_some hm).2 H1 locs1 ls hP1 hS1 hL)
theorem xM_X8_188 {p : Program} {l : Launch} {e : Env} {s : State} {m : MethodId} {args : Array Value} {below : List Frame} {meth : Method} {c : Code} {Q : State → Prop} {D : va_G} {A : Nat → Prop} {cc : ByteArray} {nL : Nat} {lv : List (Nat × Value)} {pc : Nat} {st : List Value} {cA : Nat → ClassId} {ad : Nat → Nat} {E : zEt} {d : Nat} {u : SM} (hI : zInj ad 23) (C : zC p s m args meth c cc nL RX8 zTS D (zTy cA) A E) (hdm : 3 + 1 ≤ d) (hA : ∀ q, zAd ad 23 q → A q) {β : Type} {f : (Int32 × Int32 × Int32 × Int32 × Int32 × Int32 × (Nat → Int32)) → Option β} {o : β} (hm : (mM_takesTest u).bind f = some o) (hd : decode cc pc = .ok (.invokevirtual 188, 3)) (h8 : (st.map fun v => v.category).sum ≤ 8) (g : ∀ q, f q = some o → zG p l e (zRm d) s m args below meth c nL D A Q (wM cA ad (M_put_at_digits_signs_waiting_open_sign q.2 u)) lv (pc + 3) (.int q.1 :: st)) : zG p l e (zRm d) s m args below meth c nL D A Q (wM cA ad u) lv pc (.ref (ad 0) :: st) := by
  obtain ⟨q, h1, h2⟩ := zb_some hm
  exact z_calliV C (cM_takesTest hI  u h1) (cwX8_188 C.1.2.2.2.2 rfl rfl ⟨hdm, by have := hdm; simp only [zRm]; omega⟩) hd rfl rfl h8 ⟨_, rfl, rfl⟩ (List.mem_of_getElem? (heM_o cA ad u)) (fun _ h => h) hA zJ_same (g q h2)
def mM_takesE_J122 (K22 : Int32 → SM → Option (Int32 × Int32 × Int32 × Int32 × Int32 × Int32 × (Nat → Int32) × (Nat → Int32) × (Nat → Int32) × (Nat → Int32))) (x1 : Int32) (x3 : Int32) (u : SM) : Option (Int32 × Int32 × Int32 × Int32 × Int32 × Int32 × (Nat → Int32) × (Nat → Int32) × (Nat → Int32) × (Nat → Int32)) :=
  (mM_settle x3 u).bind fun q2 => (zgi q2.2.1 101 (K22 (1 : Int32) (M_put_at_digits_signs_waiting_open_from_to_sign_waits (((M_at u) + (1 : Int32)), (M_digits u), q2.1, (q2.2.1 + (1 : Int32)), (M_open u), (M_from u), (M_to u), q2.2.2, (upd (M_waits u) (q2.2.1).toNatClampNeg x3)) u)))
set_option maxRecDepth 100000 in
set_option maxHeartbeats 4000000 in
theorem jM_takesE_122 {l : Launch} {D : va_G} {cA : Nat → ClassId} {ad : Nat → Nat} {p : Program} {e : Env} {s : State} {m : MethodId} {args : Array Value} {below : List Frame} {meth : Method} {c : Code} {E : zEt} {r : Int32} {w' : Int32 × Int32 × Int32 × Int32 × Int32 × (Nat → Int32) × (Nat → Int32) × (Nat → Int32) × (Nat → Int32)}  {K22 : Int32 → SM → Option (Int32 × Int32 × Int32 × Int32 × Int32 × Int32 × (Nat → Int32) × (Nat → Int32) × (Nat → Int32) × (Nat → Int32))} {x1 : Int32} {x3 : Int32} {u : SM} (hI : zInj ad 23) (hC : zC p s m args meth c cX8_takesE 4 RX8 zTS D (zTy cA) (zAd ad 23) E) (hr : meth.sig.returnType = (some .boolean)) (hK22 : ∀ (x2 : Int32) (u : SM), K22 x2 u = some (r, w') → zG p l e (zRm 4) s m args below meth c 4 D (zAd ad 23) (MQ below (zQi r (zBw D (wM cA ad (M_put_at_digits_signs_waiting_open_from_to_sign_waits w' u))) (zAd ad 23)) args s 0 0 (zAd ad 23)) (wM cA ad u) [(0, .ref (ad 0)), (1, .int x1), (2, .int x2)] 22 []) (hm : mM_takesE_J122 K22 x1 x3 u = some (r, w')) : zG p l e (zRm 4) s m args below meth c 4 D (zAd ad 23) (MQ below (zQi r (zBw D (wM cA ad (M_put_at_digits_signs_waiting_open_from_to_sign_waits w' u))) (zAd ad 23)) args s 0 0 (zAd ad 23)) (wM cA ad u) [(0, .ref (ad 0)), (1, .int x1), (3, .int x3)] 122 [] := by
  unfold mM_takesE_J122 at hm
  refine z_aload_n hC dX8_takesE_122 rfl 0 rfl ?_
  refine z_iload_n hC dX8_takesE_123 rfl 2 rfl ?_
  refine xM_X8_191 hI hC (Nat.le_of_ble_eq_true rfl) (fun _ h => h) hm dX8_takesE_124 (Nat.le_of_ble_eq_true rfl) (fun q2 hm => ?_)
  refine zuM (u2 := (M_put_at_digits_signs_waiting_open_from_to_sign_waits ((M_at u), (M_digits u), q2.1, q2.2.1, (M_open u), (M_from u), (M_to u), q2.2.2, (M_waits u)) u)) rfl ?_
  refine z_aload_n hC dX8_takesE_127 rfl 0 rfl ?_
  refine gM_X8_78_o hC dX8_takesE_128 ?_
  refine z_aload_n hC dX8_takesE_131 rfl 0 rfl ?_
  refine gM_X8_84_o (v := q2.2.1) hC dX8_takesE_132 rfl ?_
  refine z_iload_n hC dX8_takesE_135 rfl 2 rfl ?_
  refine sM_waits hC hI (fun _ h => h) hm dX8_takesE_136 (fun hm => ?_)
  refine zuM (u2 := (M_put_at_digits_signs_waiting_open_from_to_sign_waits ((M_at u), (M_digits u), q2.1, q2.2.1, (M_open u), (M_from u), (M_to u), q2.2.2, (upd (M_waits u) (q2.2.1).toNatClampNeg x3)) u)) rfl ?_
  refine z_aload_n hC dX8_takesE_137 rfl 0 rfl ?_
  refine z_dup hC dX8_takesE_138 rfl ?_
  refine gM_X8_84_o (v := q2.2.1) hC dX8_takesE_139 rfl ?_
  refine z_iconst hC dX8_takesE_142 kI_1 ?_
  refine z_iadd hC dX8_takesE_143 ?_
  refine pM_X8_84_o hC hI (fun _ h => h) dX8_takesE_144 ?_
  refine zuM (u2 := (M_put_at_digits_signs_waiting_open_from_to_sign_waits ((M_at u), (M_digits u), q2.1, (q2.2.1 + (1 : Int32)), (M_open u), (M_from u), (M_to u), q2.2.2, (upd (M_waits u) (q2.2.1).toNatClampNeg x3)) u)) rfl ?_
  refine z_iconst hC dX8_takesE_147 kI_1 ?_
  refine z_istore_n (lv' := [(2, .int (1 : Int32)), (0, .ref (ad 0)), (1, .int x1), (3, .int x3)]) hC dX8_takesE_148 rfl (by decide) rfl ?_
  refine z_aload_n hC dX8_takesE_149 rfl 1 rfl ?_
  refine z_dup hC dX8_takesE_150 rfl ?_
  refine gM_X8_48_o (v := (M_at u)) hC dX8_takesE_151 rfl ?_
  refine z_iconst hC dX8_takesE_154 kI_1 ?_
  refine z_iadd hC dX8_takesE_155 ?_
  refine pM_X8_48_o hC hI (fun _ h => h) dX8_takesE_156 ?_
  refine zuM (u2 := (M_put_at_digits_signs_waiting_open_from_to_sign_waits (((M_at u) + (1 : Int32)), (M_digits u), q2.1, (q2.2.1 + (1 : Int32)), (M_open u), (M_from u), (M_to u), q2.2.2, (upd (M_waits u) (q2.2.1).toNatClampNeg x3)) u)) rfl ?_
  refine z_goto (tgt := 22) hC dX8_takesE_159 (by decide) ?_
  refine z_lv hC [1, 2, 0] rfl ?_
  exact hK22 _ _ hm
def mM_takesE_J43 (K22 : Int32 → SM → Option (Int32 × Int32 × Int32 × Int32 × Int32 × Int32 × (Nat → Int32) × (Nat → Int32) × (Nat → Int32) × (Nat → Int32))) (x1 : Int32) (x2 : Int32) (x3 : Int32) (u : SM) : Option (Int32 × Int32 × Int32 × Int32 × Int32 × Int32 × (Nat → Int32) × (Nat → Int32) × (Nat → Int32) × (Nat → Int32)) :=
  if (M_open u) = (4 : Int32) then (some ((0 : Int32), ((M_at u), (M_digits u), (M_signs u), (M_waiting u), (M_open u), (M_from u), (M_to u), (M_sign u), (M_waits u)))) else (zgi (M_waiting u) 101 (K22 x2 (M_put_at_digits_signs_waiting_open_from_to_sign_waits (((M_at u) + (1 : Int32)), (M_digits u), (M_signs u), ((M_waiting u) + (1 : Int32)), ((M_open u) + (1 : Int32)), (M_from u), (M_to u), (M_sign u), (upd (M_waits u) ((M_waiting u)).toNatClampNeg x3)) u)))
set_option maxRecDepth 100000 in
set_option maxHeartbeats 4000000 in
theorem jM_takesE_43 {l : Launch} {D : va_G} {cA : Nat → ClassId} {ad : Nat → Nat} {p : Program} {e : Env} {s : State} {m : MethodId} {args : Array Value} {below : List Frame} {meth : Method} {c : Code} {E : zEt} {r : Int32} {w' : Int32 × Int32 × Int32 × Int32 × Int32 × (Nat → Int32) × (Nat → Int32) × (Nat → Int32) × (Nat → Int32)}  {K22 : Int32 → SM → Option (Int32 × Int32 × Int32 × Int32 × Int32 × Int32 × (Nat → Int32) × (Nat → Int32) × (Nat → Int32) × (Nat → Int32))} {x1 : Int32} {x2 : Int32} {x3 : Int32} {u : SM} (hI : zInj ad 23) (hC : zC p s m args meth c cX8_takesE 4 RX8 zTS D (zTy cA) (zAd ad 23) E) (hr : meth.sig.returnType = (some .boolean)) (hK22 : ∀ (x2 : Int32) (u : SM), K22 x2 u = some (r, w') → zG p l e (zRm 4) s m args below meth c 4 D (zAd ad 23) (MQ below (zQi r (zBw D (wM cA ad (M_put_at_digits_signs_waiting_open_from_to_sign_waits w' u))) (zAd ad 23)) args s 0 0 (zAd ad 23)) (wM cA ad u) [(0, .ref (ad 0)), (1, .int x1), (2, .int x2)] 22 []) (hm : mM_takesE_J43 K22 x1 x2 x3 u = some (r, w')) : zG p l e (zRm 4) s m args below meth c 4 D (zAd ad 23) (MQ below (zQi r (zBw D (wM cA ad (M_put_at_digits_signs_waiting_open_from_to_sign_waits w' u))) (zAd ad 23)) args s 0 0 (zAd ad 23)) (wM cA ad u) [(0, .ref (ad 0)), (1, .int x1), (2, .int x2), (3, .int x3)] 43 [] := by
  unfold mM_takesE_J43 at hm
  refine z_aload_n hC dX8_takesE_43 rfl 0 rfl ?_
  refine gM_X8_87_o (v := (M_open u)) hC dX8_takesE_44 rfl ?_
  refine z_iconst hC dX8_takesE_47 kI_4 ?_
  refine z_icmp_ne (tgt := 53) hC hm dX8_takesE_48 (by decide) (fun hm => ?_) (fun hm => ?_)
  · refine z_iconst hC dX8_takesE_51 kI_0 ?_
    exact riM (fin := fun z => M_put_at_digits_signs_waiting_open_from_to_sign_waits z u) hC hr rfl dX8_takesE_52 hm rfl
  · refine z_aload_n hC dX8_takesE_53 rfl 0 rfl ?_
    refine z_dup hC dX8_takesE_54 rfl ?_
    refine gM_X8_87_o (v := (M_open u)) hC dX8_takesE_55 rfl ?_
    refine z_iconst hC dX8_takesE_58 kI_1 ?_
    refine z_iadd hC dX8_takesE_59 ?_
    refine pM_X8_87_o hC hI (fun _ h => h) dX8_takesE_60 ?_
    refine zuM (u2 := (M_put_at_digits_signs_waiting_open_from_to_sign_waits ((M_at u), (M_digits u), (M_signs u), (M_waiting u), ((M_open u) + (1 : Int32)), (M_from u), (M_to u), (M_sign u), (M_waits u)) u)) rfl ?_
    refine z_aload_n hC dX8_takesE_63 rfl 0 rfl ?_
    refine gM_X8_78_o hC dX8_takesE_64 ?_
    refine z_aload_n hC dX8_takesE_67 rfl 0 rfl ?_
    refine gM_X8_84_o (v := (M_waiting u)) hC dX8_takesE_68 rfl ?_
    refine z_iload_n hC dX8_takesE_71 rfl 3 rfl ?_
    refine sM_waits hC hI (fun _ h => h) hm dX8_takesE_72 (fun hm => ?_)
    refine zuM (u2 := (M_put_at_digits_signs_waiting_open_from_to_sign_waits ((M_at u), (M_digits u), (M_signs u), (M_waiting u), ((M_open u) + (1 : Int32)), (M_from u), (M_to u), (M_sign u), (upd (M_waits u) ((M_waiting u)).toNatClampNeg x3)) u)) rfl ?_
    refine z_aload_n hC dX8_takesE_73 rfl 0 rfl ?_
    refine z_dup hC dX8_takesE_74 rfl ?_
    refine gM_X8_84_o (v := (M_waiting u)) hC dX8_takesE_75 rfl ?_
    refine z_iconst hC dX8_takesE_78 kI_1 ?_
    refine z_iadd hC dX8_takesE_79 ?_
    refine pM_X8_84_o hC hI (fun _ h => h) dX8_takesE_80 ?_
    refine zuM (u2 := (M_put_at_digits_signs_waiting_open_from_to_sign_waits ((M_at u), (M_digits u), (M_signs u), ((M_waiting u) + (1 : Int32)), ((M_open u) + (1 : Int32)), (M_from u), (M_to u), (M_sign u), (upd (M_waits u) ((M_waiting u)).toNatClampNeg x3)) u)) rfl ?_
    refine z_aload_n hC dX8_takesE_83 rfl 0 rfl ?_
    refine z_dup hC dX8_takesE_84 rfl ?_
    refine gM_X8_48_o (v := (M_at u)) hC dX8_takesE_85 rfl ?_
    refine z_iconst hC dX8_takesE_88 kI_1 ?_
    refine z_iadd hC dX8_takesE_89 ?_
    refine pM_X8_48_o hC hI (fun _ h => h) dX8_takesE_90 ?_
    refine zuM (u2 := (M_put_at_digits_signs_waiting_open_from_to_sign_waits (((M_at u) + (1 : Int32)), (M_digits u), (M_signs u), ((M_waiting u) + (1 : Int32)), ((M_open u) + (1 : Int32)), (M_from u), (M_to u), (M_sign u), (upd (M_waits u) ((M_waiting u)).toNatClampNeg x3)) u)) rfl ?_
    refine z_goto (tgt := 22) hC dX8_takesE_93 (by decide) ?_
    refine z_lv hC [0, 1, 2] rfl ?_
    exact hK22 _ _ hm
def mM_takesE_L22 (x1 : Int32) : Nat → Int32 → SM → Option (Int32 × Int32 × Int32 × Int32 × Int32 × Int32 × (Nat → Int32) × (Nat → Int32) × (Nat → Int32) × (Nat → Int32))
  | 0, _, _ => none
  | n + 1, x2, u => (mM_next u).bind fun q1 => (if x2 = 0 then (if q1 = (38 : Int32) then (mM_takesE_J122 (mM_takesE_L22 x1 n) x1 q1 u) else (if q1 = (124 : Int32) then (mM_takesE_J122 (mM_takesE_L22 x1 n) x1 q1 u) else ((mM_settle (124 : Int32) u).bind fun q3 => (zgi x1 50 (if q3.2.1 = 0 then (some ((1 : Int32), ((M_at u), (M_digits u), q3.1, q3.2.1, (M_open u), (M_from u), (upd (M_to u) (x1).toNatClampNeg q3.1), q3.2.2, (M_waits u)))) else (if q1 = (41 : Int32) then ((mM_whole (M_put_at_digits_signs_waiting_open_from_to_sign_waits (((M_at u) + (1 : Int32)), (M_digits u), q3.1, (q3.2.1 - (1 : Int32)), ((M_open u) - (1 : Int32)), (M_from u), (upd (M_to u) (x1).toNatClampNeg q3.1), q3.2.2, (M_waits u)) u)).bind fun q4 => (mM_takesE_L22 x1 n x2 (M_put_at_digits_signs_waiting_open_from_to_sign_waits (((M_at u) + (1 : Int32)), (M_digits u), q4.1, q4.2.1, q4.2.2.1, (M_from u), (upd (M_to u) (x1).toNatClampNeg q3.1), q4.2.2.2, (M_waits u)) u))) else (some ((0 : Int32), ((M_at u), (M_digits u), q3.1, q3.2.1, (M_open u), (M_from u), (upd (M_to u) (x1).toNatClampNeg q3.1), q3.2.2, (M_waits u)))))))))) else (if q1 = (33 : Int32) then (mM_takesE_J43 (mM_takesE_L22 x1 n) x1 x2 q1 u) else (if q1 = (40 : Int32) then (mM_takesE_J43 (mM_takesE_L22 x1 n) x1 x2 q1 u) else ((mM_takesTest u).bind fun q5 => (if q5.1 = 0 then (some ((0 : Int32), (q5.2.1, q5.2.2.1, q5.2.2.2.1, q5.2.2.2.2.1, q5.2.2.2.2.2.1, (M_from u), (M_to u), q5.2.2.2.2.2.2, (M_waits u)))) else (mM_takesE_L22 x1 n (0 : Int32) (M_put_at_digits_signs_waiting_open_from_to_sign_waits (q5.2.1, q5.2.2.1, q5.2.2.2.1, q5.2.2.2.2.1, q5.2.2.2.2.2.1, (M_from u), (M_to u), q5.2.2.2.2.2.2, (M_waits u)) u)))))))
set_option maxRecDepth 100000 in
set_option maxHeartbeats 4000000 in
theorem lM_takesE_22 {l : Launch} {D : va_G} {cA : Nat → ClassId} {ad : Nat → Nat} {p : Program} {e : Env} {s : State} {m : MethodId} {args : Array Value} {below : List Frame} {meth : Method} {c : Code} {E : zEt} {r : Int32} {w' : Int32 × Int32 × Int32 × Int32 × Int32 × (Nat → Int32) × (Nat → Int32) × (Nat → Int32) × (Nat → Int32)}  {x1 : Int32} (hI : zInj ad 23) (hC : zC p s m args meth c cX8_takesE 4 RX8 zTS D (zTy cA) (zAd ad 23) E) (hr : meth.sig.returnType = (some .boolean)) : ∀ (n : Nat) (x2 : Int32) (u : SM), mM_takesE_L22 x1 n x2 u = some (r, w') → zG p l e (zRm 4) s m args below meth c 4 D (zAd ad 23) (MQ below (zQi r (zBw D (wM cA ad (M_put_at_digits_signs_waiting_open_from_to_sign_waits w' u))) (zAd ad 23)) args s 0 0 (zAd ad 23)) (wM cA ad u) [(0, .ref (ad 0)), (1, .int x1), (2, .int x2)] 22 [] := by
  intro n
  induction n with
  | zero => intro x2 u hm; exact z_none hm
  | succ n ih =>
    intro x2 u hm
    rw [mM_takesE_L22] at hm
    refine z_aload_n hC dX8_takesE_22 rfl 0 rfl ?_
    refine xM_X8_163 hI hC (Nat.le_of_ble_eq_true rfl) hm dX8_takesE_23 (Nat.le_of_ble_eq_true rfl) (fun q1 hm => ?_)
    refine z_istore_n (lv' := [(3, .int q1), (0, .ref (ad 0)), (1, .int x1), (2, .int x2)]) hC dX8_takesE_26 rfl (by decide) rfl ?_
    refine z_iload_n hC dX8_takesE_27 rfl 3 rfl ?_
    refine z_if_eq (tgt := 110) hC hm dX8_takesE_28 (by decide) (fun hm => ?_) (fun hm => ?_)
    · refine z_iload_n hC dX8_takesE_110 rfl 0 rfl ?_
      refine z_bipush hC dX8_takesE_111 kB_38 ?_
      refine z_icmp_eq (tgt := 122) hC hm dX8_takesE_113 (by decide) (fun hm => ?_) (fun hm => ?_)
      · refine z_lv hC [1, 2, 0] rfl ?_
        exact jM_takesE_122 hI hC hr (ih) hm
      · refine z_iload_n hC dX8_takesE_116 rfl 0 rfl ?_
        refine z_bipush hC dX8_takesE_117 kB_124 ?_
        refine z_icmp_ne (tgt := 162) hC hm dX8_takesE_119 (by decide) (fun hm => ?_) (fun hm => ?_)
        · refine z_lv hC [1, 2, 0] rfl ?_
          exact jM_takesE_122 hI hC hr (ih) hm
        · refine z_aload_n hC dX8_takesE_162 rfl 1 rfl ?_
          refine z_bipush hC dX8_takesE_163 kB_124 ?_
          refine xM_X8_191 hI hC (Nat.le_of_ble_eq_true rfl) (fun _ h => h) hm dX8_takesE_165 (Nat.le_of_ble_eq_true rfl) (fun q3 hm => ?_)
          refine zuM (u2 := (M_put_at_digits_signs_waiting_open_from_to_sign_waits ((M_at u), (M_digits u), q3.1, q3.2.1, (M_open u), (M_from u), (M_to u), q3.2.2, (M_waits u)) u)) rfl ?_
          refine z_aload_n hC dX8_takesE_168 rfl 1 rfl ?_
          refine gM_X8_72_o hC dX8_takesE_169 ?_
          refine z_iload_n hC dX8_takesE_172 rfl 2 rfl ?_
          refine z_aload_n hC dX8_takesE_173 rfl 1 rfl ?_
          refine gM_X8_81_o (v := q3.1) hC dX8_takesE_174 rfl ?_
          refine sM_to hC hI (fun _ h => h) hm dX8_takesE_177 (fun hm => ?_)
          refine zuM (u2 := (M_put_at_digits_signs_waiting_open_from_to_sign_waits ((M_at u), (M_digits u), q3.1, q3.2.1, (M_open u), (M_from u), (upd (M_to u) (x1).toNatClampNeg q3.1), q3.2.2, (M_waits u)) u)) rfl ?_
          refine z_aload_n hC dX8_takesE_178 rfl 1 rfl ?_
          refine gM_X8_84_o (v := q3.2.1) hC dX8_takesE_179 rfl ?_
          refine z_if_ne (tgt := 187) hC hm dX8_takesE_182 (by decide) (fun hm => ?_) (fun hm => ?_)
          · refine z_iconst hC dX8_takesE_185 kI_1 ?_
            exact riM (fin := fun z => M_put_at_digits_signs_waiting_open_from_to_sign_waits z u) hC hr rfl dX8_takesE_186 hm rfl
          · refine z_iload_n hC dX8_takesE_187 rfl 0 rfl ?_
            refine z_bipush hC dX8_takesE_188 kB_41 ?_
            refine z_icmp_eq (tgt := 195) hC hm dX8_takesE_190 (by decide) (fun hm => ?_) (fun hm => ?_)
            · refine z_aload_n hC dX8_takesE_195 rfl 1 rfl ?_
              refine z_dup hC dX8_takesE_196 rfl ?_
              refine gM_X8_84_o (v := q3.2.1) hC dX8_takesE_197 rfl ?_
              refine z_iconst hC dX8_takesE_200 kI_1 ?_
              refine z_isub hC dX8_takesE_201 ?_
              refine pM_X8_84_o hC hI (fun _ h => h) dX8_takesE_202 ?_
              refine zuM (u2 := (M_put_at_digits_signs_waiting_open_from_to_sign_waits ((M_at u), (M_digits u), q3.1, (q3.2.1 - (1 : Int32)), (M_open u), (M_from u), (upd (M_to u) (x1).toNatClampNeg q3.1), q3.2.2, (M_waits u)) u)) rfl ?_
              refine z_aload_n hC dX8_takesE_205 rfl 1 rfl ?_
              refine z_dup hC dX8_takesE_206 rfl ?_
              refine gM_X8_87_o (v := (M_open u)) hC dX8_takesE_207 rfl ?_
              refine z_iconst hC dX8_takesE_210 kI_1 ?_
              refine z_isub hC dX8_takesE_211 ?_
              refine pM_X8_87_o hC hI (fun _ h => h) dX8_takesE_212 ?_
              refine zuM (u2 := (M_put_at_digits_signs_waiting_open_from_to_sign_waits ((M_at u), (M_digits u), q3.1, (q3.2.1 - (1 : Int32)), ((M_open u) - (1 : Int32)), (M_from u), (upd (M_to u) (x1).toNatClampNeg q3.1), q3.2.2, (M_waits u)) u)) rfl ?_
              refine z_aload_n hC dX8_takesE_215 rfl 1 rfl ?_
              refine z_dup hC dX8_takesE_216 rfl ?_
              refine gM_X8_48_o (v := (M_at u)) hC dX8_takesE_217 rfl ?_
              refine z_iconst hC dX8_takesE_220 kI_1 ?_
              refine z_iadd hC dX8_takesE_221 ?_
              refine pM_X8_48_o hC hI (fun _ h => h) dX8_takesE_222 ?_
              refine zuM (u2 := (M_put_at_digits_signs_waiting_open_from_to_sign_waits (((M_at u) + (1 : Int32)), (M_digits u), q3.1, (q3.2.1 - (1 : Int32)), ((M_open u) - (1 : Int32)), (M_from u), (upd (M_to u) (x1).toNatClampNeg q3.1), q3.2.2, (M_waits u)) u)) rfl ?_
              refine z_aload_n hC dX8_takesE_225 rfl 1 rfl ?_
              refine xM_X8_185 hI hC (Nat.le_of_ble_eq_true rfl) (fun _ h => h) hm dX8_takesE_226 (Nat.le_of_ble_eq_true rfl) (fun q4 hm => ?_)
              refine zuM (u2 := (M_put_at_digits_signs_waiting_open_from_to_sign_waits (((M_at u) + (1 : Int32)), (M_digits u), q4.1, q4.2.1, q4.2.2.1, (M_from u), (upd (M_to u) (x1).toNatClampNeg q3.1), q4.2.2.2, (M_waits u)) u)) rfl ?_
              refine z_goto (tgt := 22) hC dX8_takesE_229 (by decide) ?_
              refine z_lv hC [1, 2, 3] rfl ?_
              exact ih _ _ hm
            · refine z_iconst hC dX8_takesE_193 kI_0 ?_
              exact riM (fin := fun z => M_put_at_digits_signs_waiting_open_from_to_sign_waits z u) hC hr rfl dX8_takesE_194 hm rfl
    · refine z_iload_n hC dX8_takesE_31 rfl 0 rfl ?_
      refine z_bipush hC dX8_takesE_32 kB_33 ?_
      refine z_icmp_eq (tgt := 43) hC hm dX8_takesE_34 (by decide) (fun hm => ?_) (fun hm => ?_)
      · refine z_lv hC [1, 2, 3, 0] rfl ?_
        exact jM_takesE_43 hI hC hr (ih) hm
      · refine z_iload_n hC dX8_takesE_37 rfl 0 rfl ?_
        refine z_bipush hC dX8_takesE_38 kB_40 ?_
        refine z_icmp_ne (tgt := 96) hC hm dX8_takesE_40 (by decide) (fun hm => ?_) (fun hm => ?_)
        · refine z_lv hC [1, 2, 3, 0] rfl ?_
          exact jM_takesE_43 hI hC hr (ih) hm
        · refine z_aload_n hC dX8_takesE_96 rfl 1 rfl ?_
          refine xM_X8_188 hI hC (Nat.le_of_ble_eq_true rfl) (fun _ h => h) hm dX8_takesE_97 (Nat.le_of_ble_eq_true rfl) (fun q5 hm => ?_)
          refine zuM (u2 := (M_put_at_digits_signs_waiting_open_from_to_sign_waits (q5.2.1, q5.2.2.1, q5.2.2.2.1, q5.2.2.2.2.1, q5.2.2.2.2.2.1, (M_from u), (M_to u), q5.2.2.2.2.2.2, (M_waits u)) u)) rfl ?_
          refine z_if_eq (tgt := 108) hC hm dX8_takesE_100 (by decide) (fun hm => ?_) (fun hm => ?_)
          · refine z_iconst hC dX8_takesE_108 kI_0 ?_
            exact riM (fin := fun z => M_put_at_digits_signs_waiting_open_from_to_sign_waits z u) hC hr rfl dX8_takesE_109 hm rfl
          · refine z_iconst hC dX8_takesE_103 kI_0 ?_
            refine z_istore_n (lv' := [(2, .int (0 : Int32)), (3, .int q1), (0, .ref (ad 0)), (1, .int x1)]) hC dX8_takesE_104 rfl (by decide) rfl ?_
            refine z_goto (tgt := 22) hC dX8_takesE_105 (by decide) ?_
            refine z_lv hC [2, 3, 0] rfl ?_
            exact ih _ _ hm
def mM_takesE (x1 : Int32) (u : SM) : Option (Int32 × Int32 × Int32 × Int32 × Int32 × Int32 × (Nat → Int32) × (Nat → Int32) × (Nat → Int32) × (Nat → Int32)) :=
  zgi x1 50 (mM_takesE_L22 x1 256 (1 : Int32) (M_put_at_digits_signs_waiting_open_from_to_sign_waits ((M_at u), (M_digits u), (M_signs u), (0 : Int32), (0 : Int32), (upd (M_from u) (x1).toNatClampNeg (M_signs u)), (M_to u), (M_sign u), (M_waits u)) u))
set_option maxRecDepth 100000 in
set_option maxHeartbeats 4000000 in
theorem cM_takesE {l : Launch} {D : va_G} {cA : Nat → ClassId} {ad : Nat → Nat} {E : zEt} (hI : zInj ad 23) (x1 : Int32) (u : SM) {r : Int32} {w' : Int32 × Int32 × Int32 × Int32 × Int32 × (Nat → Int32) × (Nat → Int32) × (Nat → Int32) × (Nat → Int32)} (hm : mM_takesE x1 u = some (r, w')) : Met l yX8_takesE (zWs yX8_takesE cX8_takesE 4 (some .boolean)) (zRm 4) (va_Pc [.ref (ad 0), .int x1] (zPre D (zTy cA) E (zAd ad 23) (wM cA ad u))) (zQi r (zBw D (wM cA ad (M_put_at_digits_signs_waiting_open_from_to_sign_waits w' u))) (zAd ad 23)) 0 0 (zAd ad 23) := by
  refine z_met (lv := [(0, .ref (ad 0)), (1, .int x1)]) plX8 rfl rfl (Nat.le_of_ble_eq_true rfl) rfl ?_
  intro p e s m below meth c hC hr hin
  unfold mM_takesE at hm
  refine z_aload_n hC dX8_takesE_0 rfl 0 rfl ?_
  refine z_iconst hC dX8_takesE_1 kI_0 ?_
  refine pM_X8_84_o hC hI (fun _ h => h) dX8_takesE_2 ?_
  refine zuM (u2 := (M_put_at_digits_signs_waiting_open_from_to_sign_waits ((M_at u), (M_digits u), (M_signs u), (0 : Int32), (M_open u), (M_from u), (M_to u), (M_sign u), (M_waits u)) u)) rfl ?_
  refine z_aload_n hC dX8_takesE_5 rfl 0 rfl ?_
  refine z_iconst hC dX8_takesE_6 kI_0 ?_
  refine pM_X8_87_o hC hI (fun _ h => h) dX8_takesE_7 ?_
  refine zuM (u2 := (M_put_at_digits_signs_waiting_open_from_to_sign_waits ((M_at u), (M_digits u), (M_signs u), (0 : Int32), (0 : Int32), (M_from u), (M_to u), (M_sign u), (M_waits u)) u)) rfl ?_
  refine z_aload_n hC dX8_takesE_10 rfl 0 rfl ?_
  refine gM_X8_69_o hC dX8_takesE_11 ?_
  refine z_iload_n hC dX8_takesE_14 rfl 1 rfl ?_
  refine z_aload_n hC dX8_takesE_15 rfl 0 rfl ?_
  refine gM_X8_81_o (v := (M_signs u)) hC dX8_takesE_16 rfl ?_
  refine sM_from hC hI (fun _ h => h) hm dX8_takesE_19 (fun hm => ?_)
  refine zuM (u2 := (M_put_at_digits_signs_waiting_open_from_to_sign_waits ((M_at u), (M_digits u), (M_signs u), (0 : Int32), (0 : Int32), (upd (M_from u) (x1).toNatClampNeg (M_signs u)), (M_to u), (M_sign u), (M_waits u)) u)) rfl ?_
  refine z_iconst hC dX8_takesE_20 kI_1 ?_
  refine z_istore_n (lv' := [(2, .int (1 : Int32)), (0, .ref (ad 0)), (1, .int x1)]) hC dX8_takesE_21 rfl (by decide) rfl ?_
  refine z_lv hC [1, 2, 0] rfl ?_
  exact lM_takesE_22 hI hC hr _ _ _ hm
