theorem kS_255 : (Int16.ofInt (255)).toInt32 = (255 : Int32) := by decide
/-! 05.A2: the texts; by wip/whole/gen/genJ.py -/
theorem plJ0 : plainName RJ0 = true := by decide +kernel
theorem plJ1 : plainName RJ1 = true := by decide +kernel
theorem plJ3 : plainName RJ3 = true := by decide +kernel
theorem mmJ1_38 : Cond.methodLink RJ1 38 Lib.Math.min.name ∈ zTS := zMem 522 (by decide +kernel) rfl
theorem mmJ1_92 : Cond.methodLink RJ1 92 Lib.Math.max.name ∈ zTS := zMem 521 (by decide +kernel) rfl
def zgc {α : Type} (x : Int32) (o : Option α) : Option α := if x.toUInt32.toUInt16.toUInt32.toInt32 = x then o else none
theorem zgc_some {α : Type} {x : Int32} {o : Option α} {r : α} (h : zgc x o = some r) : x.toUInt32.toUInt16.toUInt32.toInt32 = x ∧ o = some r := by
  unfold zgc at h
  split at h
  next hn => exact ⟨hn, h⟩
  next => cases h
theorem zc_nar {v : Int32} (h : v.toUInt32.toUInt16.toUInt32.toInt32 = v) : narrow .char (.int v) = .int v := congrArg Value.int h
theorem zJ_value {p : Program} {l : Launch} {e : Env} {R : Room} {s : State} {m : MethodId} {args : Array Value} {below : List Frame} {meth : Method} {c : Code} {Q : State → Prop} {D : va_G} {cA : Nat → ClassId} {A : Nat → Prop} {cc : ByteArray} {nL : Nat} {ws : va_W} {lv : List (Nat × Value)} {pc : Nat} {st : List Value} {tK tB : Nat} {kS vS : Nat → Nat} {i : Nat} (C : zC p s m args meth c cc nL RJ0 zTS D (zTy cA) A (zE tK tB kS vS)) (hI : i < 7) (hd : decode cc pc = .ok (.getfield 9, 3)) (g : zG p l e R s m args below meth c nL D A Q ws lv (pc + 3) (.ref (vS i) :: st)) : zG p l e R s m args below meth c nL D A Q ws lv pc (.ref (kS i) :: st) := fun H locs ls hP hS hL => vk_getf C.1.1 C.1.2.1 (C.2.2.2.2.2.2.1.1.1 i hI).2.2.1 hS C.1.2.2.2.1 (C.1.2.2.2.2 _ mfJ0_9) (fun _ h => h) hd (g H locs ls hP hS hL)
theorem zJ_coder {p : Program} {l : Launch} {e : Env} {R : Room} {s : State} {m : MethodId} {args : Array Value} {below : List Frame} {meth : Method} {c : Code} {Q : State → Prop} {D : va_G} {cA : Nat → ClassId} {A : Nat → Prop} {cc : ByteArray} {nL : Nat} {ws : va_W} {lv : List (Nat × Value)} {pc : Nat} {st : List Value} {tK tB : Nat} {kS vS : Nat → Nat} {i : Nat} (C : zC p s m args meth c cc nL RJ0 zTS D (zTy cA) A (zE tK tB kS vS)) (hI : i < 7) (hd : decode cc pc = .ok (.getfield 15, 3)) (g : zG p l e R s m args below meth c nL D A Q ws lv (pc + 3) (.int (0 : Int32) :: st)) : zG p l e R s m args below meth c nL D A Q ws lv pc (.ref (kS i) :: st) := fun H locs ls hP hS hL => vk_getf C.1.1 C.1.2.1 (C.2.2.2.2.2.2.1.1.1 i hI).2.1 hS C.1.2.2.2.1 (C.1.2.2.2.2 _ mfJ0_15) (fun _ h => h) hd (g H locs ls hP hS hL)
theorem zJ_compact {p : Program} {l : Launch} {e : Env} {R : Room} {s : State} {m : MethodId} {args : Array Value} {below : List Frame} {meth : Method} {c : Code} {Q : State → Prop} {D : va_G} {cA : Nat → ClassId} {A : Nat → Prop} {cc : ByteArray} {nL : Nat} {ws : va_W} {lv : List (Nat × Value)} {pc : Nat} {st : List Value} {tK tB : Nat} {kS vS : Nat → Nat} (C : zC p s m args meth c cc nL RJ0 zTS D (zTy cA) A (zE tK tB kS vS)) (hd : decode cc pc = .ok (.getstatic 38, 3)) (g : zG p l e R s m args below meth c nL D A Q ws lv (pc + 3) (.int (1 : Int32) :: st)) : zG p l e R s m args below meth c nL D A Q ws lv pc st := fun H locs ls hP hS hL => va_gets C.1.1 C.1.2.1 C.2.2.2.2.2.2.2.1 hS C.1.2.2.2.1 (C.1.2.2.2.2 _ mfJ0_38) (fun _ h => h) hd (g H locs ls hP hS hL)
theorem zJ_len {p : Program} {l : Launch} {e : Env} {R : Room} {s : State} {m : MethodId} {args : Array Value} {below : List Frame} {meth : Method} {c : Code} {Q : State → Prop} {D : va_G} {cA : Nat → ClassId} {A : Nat → Prop} {cc : ByteArray} {nL : Nat} {ws : va_W} {lv : List (Nat × Value)} {pc : Nat} {st : List Value} {tK tB : Nat} {kS vS : Nat → Nat} {own : String} {i : Nat} (C : zC p s m args meth c cc nL own zTS D (zTy cA) A (zE tK tB kS vS)) (hI : i < 7) (hd : decode cc pc = .ok (.arraylength, 1)) (g : zG p l e R s m args below meth c nL D A Q ws lv (pc + 1) (.int (Int32.ofNat (zSl.getD i 0)) :: st)) : zG p l e R s m args below meth c nL D A Q ws lv pc (.ref (vS i) :: st) := fun H locs ls hP hS hL => va_tlen C.1.1 C.1.2.1 (C.2.2.2.2.2.2.1.1.1 i hI).2.2.2 hS rfl hd (g H locs ls hP hS hL)
theorem zJ_load {p : Program} {l : Launch} {e : Env} {R : Room} {s : State} {m : MethodId} {args : Array Value} {below : List Frame} {meth : Method} {c : Code} {Q : State → Prop} {D : va_G} {cA : Nat → ClassId} {A : Nat → Prop} {cc : ByteArray} {nL : Nat} {ws : va_W} {lv : List (Nat × Value)} {pc : Nat} {st : List Value} {tK tB : Nat} {kS vS : Nat → Nat} {own : String} {i : Nat} {x : Int32} {β : Type} {k : Option β} {r : β} (C : zC p s m args meth c cc nL own zTS D (zTy cA) A (zE tK tB kS vS)) (hI : i < 7) (hm : zgi x (zSl.getD i 0) k = some r) (hd : decode cc pc = .ok (.baload, 1)) (g : k = some r → zG p l e R s m args below meth c nL D A Q ws lv (pc + 1) (.int ((zSb.getD i []).getD x.toNatClampNeg 0) :: st)) : zG p l e R s m args below meth c nL D A Q ws lv pc (.int x :: .ref (vS i) :: st) := fun H locs ls hP hS hL => va_tb C.1.1 C.1.2.1 (C.2.2.2.2.2.2.1.1.1 i hI).2.2.2 hS (zgi_some hm).1 rfl hd (g (zgi_some hm).2 H locs ls hP hS hL)
theorem zJ_sioobe {p : Program} {l : Launch} {e : Env} {R : Room} {s : State} {m : MethodId} {args : Array Value} {below : List Frame} {meth : Method} {c : Code} {Q : State → Prop} {D : va_G} {cA : Nat → ClassId} {A : Nat → Prop} {cc : ByteArray} {nL : Nat} {ws : va_W} {lv : List (Nat × Value)} {pc : Nat} {st : List Value} {tK tB : Nat} {kS vS : Nat → Nat} (C : zC p s m args meth c cc nL RJ0 zTS D (zTy cA) A (zE tK tB kS vS)) (hd : decode cc pc = .ok (.getstatic 1053, 3)) (gn : zG p l e R s m args below meth c nL D A Q ws lv (pc + 3) (.null :: st)) (gr : ∀ t : Nat, zG p l e R s m args below meth c nL D A Q ws lv (pc + 3) (.ref t :: st)) : zG p l e R s m args below meth c nL D A Q ws lv pc st := by
  intro H locs ls hP hS hL
  rcases C.2.2.2.2.2.2.2.2.1 with h | ⟨t, h⟩
  · exact va_gets C.1.1 C.1.2.1 h hS C.1.2.2.2.1 (C.1.2.2.2.2 _ mfJ0_1053) (fun _ h => h) hd (gn H locs ls hP hS hL)
  · exact va_gets C.1.1 C.1.2.1 h hS C.1.2.2.2.1 (C.1.2.2.2.2 _ mfJ0_1053) (fun _ h => h) hd (gr t H locs ls hP hS hL)
def mN_checkIndex3 (x0 x1 : Int32) : Option Int32 := if x0 < 0 then none else (if x0 < x1 then some x0 else none)
def mN_checkIndex0 (x0 x1 : Int32) : Option Unit := (mN_checkIndex3 x0 x1).bind fun _ => some ()
theorem cN_checkIndex3n {l : Launch} {D : va_G} {cA : Nat → ClassId} {ad : Nat → Nat} {tK tB : Nat} {kS vS : Nat → Nat} (x0 x1 : Int32) {r : Int32} (hm : mN_checkIndex3 x0 x1 = some r) : Met l yJ3_checkIndex_8e157 (zWs yJ3_checkIndex_8e157 cJ3_checkIndex_8e157 3 (some .int)) (zRm 0) (va_Pc [.int x0, .int x1, .null] (zPre D (zTy cA) (zE tK tB kS vS) zA0 [])) (zQi r zB0 zA0) 0 0 zA0 := by
  refine z_met (lv := [(0, .int x0), (1, .int x1), (2, .null)]) plJ3 rfl rfl (Nat.le_of_ble_eq_true rfl) rfl ?_
  intro p e s m below meth c hC hr hin
  unfold mN_checkIndex3 at hm
  refine z_iload_n hC dJ3_checkIndex_8e157_0 rfl 0 rfl ?_
  refine z_if_lt (tgt := 9) hC hm dJ3_checkIndex_8e157_1 (by decide) (fun hm => z_none hm) (fun hm => ?_)
  refine z_iload_n hC dJ3_checkIndex_8e157_4 rfl 0 rfl ?_
  refine z_iload_n hC dJ3_checkIndex_8e157_5 rfl 1 rfl ?_
  refine z_icmp_lt (tgt := 16) hC hm dJ3_checkIndex_8e157_6 (by decide) (fun hm => ?_) (fun hm => z_none hm)
  refine z_iload_n hC dJ3_checkIndex_8e157_16 rfl 0 rfl ?_
  exact z_iret hC hr rfl dJ3_checkIndex_8e157_17 (fun _ _ => trivial) (Option.some.inj hm)
theorem cN_checkIndex3r {l : Launch} {D : va_G} {cA : Nat → ClassId} {ad : Nat → Nat} {tK tB : Nat} {kS vS : Nat → Nat} (t : Nat) (x0 x1 : Int32) {r : Int32} (hm : mN_checkIndex3 x0 x1 = some r) : Met l yJ3_checkIndex_8e157 (zWs yJ3_checkIndex_8e157 cJ3_checkIndex_8e157 3 (some .int)) (zRm 0) (va_Pc [.int x0, .int x1, .ref t] (zPre D (zTy cA) (zE tK tB kS vS) zA0 [])) (zQi r zB0 zA0) 0 0 zA0 := by
  refine z_met (lv := [(0, .int x0), (1, .int x1), (2, .ref t)]) plJ3 rfl rfl (Nat.le_of_ble_eq_true rfl) rfl ?_
  intro p e s m below meth c hC hr hin
  unfold mN_checkIndex3 at hm
  refine z_iload_n hC dJ3_checkIndex_8e157_0 rfl 0 rfl ?_
  refine z_if_lt (tgt := 9) hC hm dJ3_checkIndex_8e157_1 (by decide) (fun hm => z_none hm) (fun hm => ?_)
  refine z_iload_n hC dJ3_checkIndex_8e157_4 rfl 0 rfl ?_
  refine z_iload_n hC dJ3_checkIndex_8e157_5 rfl 1 rfl ?_
  refine z_icmp_lt (tgt := 16) hC hm dJ3_checkIndex_8e157_6 (by decide) (fun hm => ?_) (fun hm => z_none hm)
  refine z_iload_n hC dJ3_checkIndex_8e157_16 rfl 0 rfl ?_
  exact z_iret hC hr rfl dJ3_checkIndex_8e157_17 (fun _ _ => trivial) (Option.some.inj hm)
theorem cN_checkIndex_df160 {l : Launch} {D : va_G} {cA : Nat → ClassId} {ad : Nat → Nat} {tK tB : Nat} {kS vS : Nat → Nat} (hI : zInj ad 0) (x0 x1 : Int32) (u : Unit) {r : Unit} (hm : mN_checkIndex0 x0 x1 = some r) : Met l yJ0_checkIndex_df160 (zWs yJ0_checkIndex_df160 cJ0_checkIndex_df160 2 none) (zRm 1) (va_Pc [.int x0, .int x1] (zPre D (zTy cA) (zE tK tB kS vS) zA0 [])) (zQv zB0 zA0) 0 0 zA0 := by
  refine z_met (lv := [(0, .int x0), (1, .int x1)]) plJ0 rfl rfl (Nat.le_of_ble_eq_true rfl) rfl ?_
  intro p e s m below meth c hC hr hin
  obtain ⟨q, h1, h2⟩ := zb_some hm
  refine z_iload_n hC dJ0_checkIndex_df160_0 rfl 0 rfl ?_
  refine z_iload_n hC dJ0_checkIndex_df160_1 rfl 1 rfl ?_
  refine zJ_sioobe hC dJ0_checkIndex_df160_2 ?_ (fun t => ?_)
  · refine z_calliS hC (cN_checkIndex3n (ad := fun i => i) x0 x1 h1) (cwJ0_1059 hC.1.2.2.2.2 rfl rfl ⟨Nat.le_of_ble_eq_true rfl, Nat.le_of_ble_eq_true rfl⟩) dJ0_checkIndex_df160_5 rfl rfl (Nat.le_of_ble_eq_true rfl) (fun _ h => nomatch h) (fun _ h => h.elim) zJ_ro ?_
    refine z_pop hC dJ0_checkIndex_df160_8 rfl ?_
    exact z_vret hC hr dJ0_checkIndex_df160_9 (fun _ _ => trivial)
  · refine z_calliS hC (cN_checkIndex3r (ad := fun i => i) t x0 x1 h1) (cwJ0_1059 hC.1.2.2.2.2 rfl rfl ⟨Nat.le_of_ble_eq_true rfl, Nat.le_of_ble_eq_true rfl⟩) dJ0_checkIndex_df160_5 rfl rfl (Nat.le_of_ble_eq_true rfl) (fun _ h => nomatch h) (fun _ h => h.elim) zJ_ro ?_
    refine z_pop hC dJ0_checkIndex_df160_8 rfl ?_
    exact z_vret hC hr dJ0_checkIndex_df160_9 (fun _ _ => trivial)
def mN_checkIndex_df160 (x0 x1 : Int32) : Option Unit := mN_checkIndex0 x0 x1
def mN_isLatin1_aae02 (i : Nat) : Int32 :=
  (1 : Int32)
theorem bN_isLatin1_aae02 (i : Nat) : mN_isLatin1_aae02 i = 0 ∨ mN_isLatin1_aae02 i = 1 := by
  unfold mN_isLatin1_aae02
  (repeat' split) <;> first | exact Or.inl rfl | exact Or.inr rfl
set_option maxRecDepth 100000 in
set_option maxHeartbeats 4000000 in
theorem cN_isLatin1_aae02 {l : Launch} {D : va_G} {cA : Nat → ClassId} {ad : Nat → Nat} {tK tB : Nat} {kS vS : Nat → Nat} {i : Nat} (hI : i < 7) (u : SN) {r : Int32} (hm : mN_isLatin1_aae02 i = r) : Met l yJ0_isLatin1_aae02 (zWs yJ0_isLatin1_aae02 cJ0_isLatin1_aae02 1 (some .boolean)) (zRm 0) (va_Pc [.ref (kS i)] (zPre D (zTy cA) (zE tK tB kS vS) zA0 (wN cA ad u))) (zQi r zB0 zA0) 0 0 zA0 := by
  refine z_met (lv := [(0, .ref (kS i))]) plJ0 rfl rfl (Nat.le_of_ble_eq_true rfl) rfl ?_
  intro p e s m below meth c hC hr hin
  unfold mN_isLatin1_aae02 at hm
  refine zJ_compact hC dJ0_isLatin1_aae02_0 ?_
  refine z_if_eq (tgt := 17) (a := false) (b := true) (o := true) hC rfl dJ0_isLatin1_aae02_3 (by decide) (fun h => nomatch h) (fun _ => ?_)
  refine z_aload_n hC dJ0_isLatin1_aae02_6 rfl 0 rfl ?_
  refine zJ_coder hC hI dJ0_isLatin1_aae02_7 ?_
  refine z_if_ne (tgt := 17) (a := true) (b := false) (o := true) hC rfl dJ0_isLatin1_aae02_10 (by decide) (fun _ => ?_) (fun h => nomatch h)
  refine z_iconst hC dJ0_isLatin1_aae02_13 kI_1 ?_
  refine z_goto (tgt := 18) hC dJ0_isLatin1_aae02_14 (by decide) ?_
  exact z_iret hC hr rfl dJ0_isLatin1_aae02_18 (fun _ _ => trivial) hm
def mN_coder_7d493 (i : Nat) : Int32 :=
  (0 : Int32)
set_option maxRecDepth 100000 in
set_option maxHeartbeats 4000000 in
theorem cN_coder_7d493 {l : Launch} {D : va_G} {cA : Nat → ClassId} {ad : Nat → Nat} {tK tB : Nat} {kS vS : Nat → Nat} {i : Nat} (hI : i < 7) (u : SN) {r : Int32} (hm : mN_coder_7d493 i = r) : Met l yJ0_coder_7d493 (zWs yJ0_coder_7d493 cJ0_coder_7d493 1 (some .byte)) (zRm 0) (va_Pc [.ref (kS i)] (zPre D (zTy cA) (zE tK tB kS vS) zA0 (wN cA ad u))) (zQi r zB0 zA0) 0 0 zA0 := by
  refine z_met (lv := [(0, .ref (kS i))]) plJ0 rfl rfl (Nat.le_of_ble_eq_true rfl) rfl ?_
  intro p e s m below meth c hC hr hin
  unfold mN_coder_7d493 at hm
  refine zJ_compact hC dJ0_coder_7d493_0 ?_
  refine z_if_eq (tgt := 13) (a := false) (b := true) (o := true) hC rfl dJ0_coder_7d493_3 (by decide) (fun h => nomatch h) (fun _ => ?_)
  refine z_aload_n hC dJ0_coder_7d493_6 rfl 0 rfl ?_
  refine zJ_coder hC hI dJ0_coder_7d493_7 ?_
  refine z_goto (tgt := 14) hC dJ0_coder_7d493_10 (by decide) ?_
  exact z_iret hC hr rfl dJ0_coder_7d493_14 (fun _ _ => trivial) hm
theorem xJ_J0_335 {p : Program} {l : Launch} {e : Env} {s : State} {m : MethodId} {args : Array Value} {below : List Frame} {meth : Method} {c : Code} {Q : State → Prop} {D : va_G} {cA : Nat → ClassId} {A : Nat → Prop} {cc : ByteArray} {nL : Nat} {ws : va_W} {lv : List (Nat × Value)} {pc : Nat} {st : List Value} {tK tB : Nat} {kS vS : Nat → Nat} {d : Nat} {i : Nat} (hI : i < 7) (C : zC p s m args meth c cc nL RJ0 zTS D (zTy cA) A (zE tK tB kS vS)) (hdm : 0 + 1 ≤ d) (hd : decode cc pc = .ok (.invokevirtual 335, 3)) (h8 : (st.map fun v => v.category).sum ≤ 8) (g : zG p l e (zRm d) s m args below meth c nL D A Q ws lv (pc + 3) (.int (mN_coder_7d493 i) :: st)) : zG p l e (zRm d) s m args below meth c nL D A Q ws lv pc (.ref (kS i) :: st) :=
  z_calliR C (cN_coder_7d493 (cA := cA) (ad := fun i => i) hI  () rfl) (cwJ0_335 C.1.2.2.2.2 rfl rfl ⟨hdm, by have := hdm; simp only [zRm]; omega⟩) hd rfl rfl h8 (fun H locs hS => vk_recv C.2.2.2.2.2.2.1.1 hI hS) (fun _ h => nomatch h) (fun _ h => h.elim) zJ_ro g
def mN_length_8abf5 (i : Nat) : Int32 :=
  ((Int32.ofNat (zSl.getD i 0)) >>> ((mN_coder_7d493 i) &&& 31))
set_option maxRecDepth 100000 in
set_option maxHeartbeats 4000000 in
theorem cN_length_8abf5 {l : Launch} {D : va_G} {cA : Nat → ClassId} {ad : Nat → Nat} {tK tB : Nat} {kS vS : Nat → Nat} {i : Nat} (hI : i < 7) (u : SN) {r : Int32} (hm : mN_length_8abf5 i = r) : Met l yJ0_length_8abf5 (zWs yJ0_length_8abf5 cJ0_length_8abf5 1 (some .int)) (zRm 1) (va_Pc [.ref (kS i)] (zPre D (zTy cA) (zE tK tB kS vS) zA0 (wN cA ad u))) (zQi r zB0 zA0) 0 0 zA0 := by
  refine z_met (lv := [(0, .ref (kS i))]) plJ0 rfl rfl (Nat.le_of_ble_eq_true rfl) rfl ?_
  intro p e s m below meth c hC hr hin
  unfold mN_length_8abf5 at hm
  refine z_aload_n hC dJ0_length_8abf5_0 rfl 0 rfl ?_
  refine zJ_value hC hI dJ0_length_8abf5_1 ?_
  refine zJ_len hC hI dJ0_length_8abf5_4 ?_
  refine z_aload_n hC dJ0_length_8abf5_5 rfl 0 rfl ?_
  refine xJ_J0_335 hI hC (Nat.le_of_ble_eq_true rfl) dJ0_length_8abf5_6 (Nat.le_of_ble_eq_true rfl) ?_
  refine z_ishr hC dJ0_length_8abf5_9 ?_
  exact z_iret hC hr rfl dJ0_length_8abf5_10 (fun _ _ => trivial) hm
theorem xJ_J1_9 {p : Program} {l : Launch} {e : Env} {s : State} {m : MethodId} {args : Array Value} {below : List Frame} {meth : Method} {c : Code} {Q : State → Prop} {D : va_G} {cA : Nat → ClassId} {A : Nat → Prop} {cc : ByteArray} {nL : Nat} {ws : va_W} {lv : List (Nat × Value)} {pc : Nat} {st : List Value} {tK tB : Nat} {kS vS : Nat → Nat} {d : Nat} {x0 : Int32} {x1 : Int32} (C : zC p s m args meth c cc nL RJ1 zTS D (zTy cA) A (zE tK tB kS vS)) (hdm : 1 + 1 ≤ d) {β : Type} {f : Unit → Option β} {o : β} (hm : (mN_checkIndex_df160 x0 x1).bind f = some o) (hd : decode cc pc = .ok (.invokestatic 9, 3)) (h8 : (st.map fun v => v.category).sum ≤ 8) (g : ∀ q, f q = some o → zG p l e (zRm d) s m args below meth c nL D A Q ws lv (pc + 3) (st)) : zG p l e (zRm d) s m args below meth c nL D A Q ws lv pc (.int x1 :: .int x0 :: st) := by
  obtain ⟨q, h1, h2⟩ := zb_some hm
  exact z_callvS C (cN_checkIndex_df160 (cA := cA) (ad := fun i => i) (zInj0 (ad := fun i => i)) x0 x1 () h1) (cwJ1_9 C.1.2.2.2.2 rfl rfl ⟨hdm, by have := hdm; simp only [zRm]; omega⟩) hd rfl rfl h8 (fun _ h => nomatch h) (fun _ h => h.elim) zJ_ro (g q h2)
def mN_charAt_3b067 (i : Nat) (x1 : Int32) : Option Int32 :=
  (mN_checkIndex_df160 x1 (Int32.ofNat (zSl.getD i 0))).bind fun q1 => (zgi x1 (zSl.getD i 0) (zgc ((((((zSb.getD i []).getD (x1).toNatClampNeg 0) &&& (255 : Int32))).toUInt32 % 65536).toInt32) (some ((((((zSb.getD i []).getD (x1).toNatClampNeg 0) &&& (255 : Int32))).toUInt32 % 65536).toInt32))))
set_option maxRecDepth 100000 in
set_option maxHeartbeats 4000000 in
theorem cN_charAt_3b067 {l : Launch} {D : va_G} {cA : Nat → ClassId} {ad : Nat → Nat} {tK tB : Nat} {kS vS : Nat → Nat} {i : Nat} (hI : i < 7) (x1 : Int32) (u : SN) {r : Int32} (hm : mN_charAt_3b067 i x1 = some r) : Met l yJ1_charAt_3b067 (zWs yJ1_charAt_3b067 cJ1_charAt_3b067 2 (some .char)) (zRm 2) (va_Pc [.ref (vS i), .int x1] (zPre D (zTy cA) (zE tK tB kS vS) zA0 (wN cA ad u))) (zQi r zB0 zA0) 0 0 zA0 := by
  refine z_met (lv := [(0, .ref (vS i)), (1, .int x1)]) plJ1 rfl rfl (Nat.le_of_ble_eq_true rfl) rfl ?_
  intro p e s m below meth c hC hr hin
  unfold mN_charAt_3b067 at hm
  refine z_iload_n hC dJ1_charAt_3b067_0 rfl 1 rfl ?_
  refine z_aload_n hC dJ1_charAt_3b067_1 rfl 0 rfl ?_
  refine zJ_len hC hI dJ1_charAt_3b067_2 ?_
  refine xJ_J1_9 hC (Nat.le_of_ble_eq_true rfl) hm dJ1_charAt_3b067_3 (Nat.le_of_ble_eq_true rfl) (fun q1 hm => ?_)
  refine z_aload_n hC dJ1_charAt_3b067_6 rfl 0 rfl ?_
  refine z_iload_n hC dJ1_charAt_3b067_7 rfl 1 rfl ?_
  refine zJ_load hC hI hm dJ1_charAt_3b067_8 (fun hm => ?_)
  refine z_sipush hC dJ1_charAt_3b067_9 kS_255 ?_
  refine z_iand hC dJ1_charAt_3b067_12 ?_
  refine z_i2c hC dJ1_charAt_3b067_13 ?_
  refine z_g (zgc_some hm) (fun hb hm => ?_)
  exact z_iret hC hr (zc_nar hb) dJ1_charAt_3b067_14 (fun _ _ => trivial) (Option.some.inj hm)
theorem xJ_J0_492 {p : Program} {l : Launch} {e : Env} {s : State} {m : MethodId} {args : Array Value} {below : List Frame} {meth : Method} {c : Code} {Q : State → Prop} {D : va_G} {cA : Nat → ClassId} {A : Nat → Prop} {cc : ByteArray} {nL : Nat} {ws : va_W} {lv : List (Nat × Value)} {pc : Nat} {st : List Value} {tK tB : Nat} {kS vS : Nat → Nat} {d : Nat} {i : Nat} (hI : i < 7) (C : zC p s m args meth c cc nL RJ0 zTS D (zTy cA) A (zE tK tB kS vS)) (hdm : 0 + 1 ≤ d) (hd : decode cc pc = .ok (.invokevirtual 492, 3)) (h8 : (st.map fun v => v.category).sum ≤ 8) (g : zG p l e (zRm d) s m args below meth c nL D A Q ws lv (pc + 3) (.int (mN_isLatin1_aae02 i) :: st)) : zG p l e (zRm d) s m args below meth c nL D A Q ws lv pc (.ref (kS i) :: st) :=
  z_calliR C (cN_isLatin1_aae02 (cA := cA) (ad := fun i => i) hI  () rfl) (cwJ0_492 C.1.2.2.2.2 rfl rfl ⟨hdm, by have := hdm; simp only [zRm]; omega⟩) hd rfl rfl h8 (fun H locs hS => vk_recv C.2.2.2.2.2.2.1.1 hI hS) (fun _ h => nomatch h) (fun _ h => h.elim) zJ_ro g
theorem xJ_J0_495 {p : Program} {l : Launch} {e : Env} {s : State} {m : MethodId} {args : Array Value} {below : List Frame} {meth : Method} {c : Code} {Q : State → Prop} {D : va_G} {cA : Nat → ClassId} {A : Nat → Prop} {cc : ByteArray} {nL : Nat} {ws : va_W} {lv : List (Nat × Value)} {pc : Nat} {st : List Value} {tK tB : Nat} {kS vS : Nat → Nat} {d : Nat} {x1 : Int32} {i : Nat} (hI : i < 7) (C : zC p s m args meth c cc nL RJ0 zTS D (zTy cA) A (zE tK tB kS vS)) (hdm : 2 + 1 ≤ d) {β : Type} {f : Int32 → Option β} {o : β} (hm : (mN_charAt_3b067 i x1).bind f = some o) (hd : decode cc pc = .ok (.invokestatic 495, 3)) (h8 : (st.map fun v => v.category).sum ≤ 8) (g : ∀ q, f q = some o → zG p l e (zRm d) s m args below meth c nL D A Q ws lv (pc + 3) (.int q :: st)) : zG p l e (zRm d) s m args below meth c nL D A Q ws lv pc (.int x1 :: .ref (vS i) :: st) := by
  obtain ⟨q, h1, h2⟩ := zb_some hm
  exact z_calliS C (cN_charAt_3b067 (cA := cA) (ad := fun i => i) hI x1 () h1) (cwJ0_495 C.1.2.2.2.2 rfl rfl ⟨hdm, by have := hdm; simp only [zRm]; omega⟩) hd rfl rfl h8 (fun _ h => nomatch h) (fun _ h => h.elim) zJ_ro (g q h2)
def mN_charAt_5068e (i : Nat) (x1 : Int32) : Option Int32 :=
  (mN_charAt_3b067 i x1).bind fun q1 => (zgc q1 (some q1))
set_option maxRecDepth 100000 in
set_option maxHeartbeats 4000000 in
theorem cN_charAt_5068e {l : Launch} {D : va_G} {cA : Nat → ClassId} {ad : Nat → Nat} {tK tB : Nat} {kS vS : Nat → Nat} {i : Nat} (hI : i < 7) (x1 : Int32) (u : SN) {r : Int32} (hm : mN_charAt_5068e i x1 = some r) : Met l yJ0_charAt_5068e (zWs yJ0_charAt_5068e cJ0_charAt_5068e 2 (some .char)) (zRm 3) (va_Pc [.ref (kS i), .int x1] (zPre D (zTy cA) (zE tK tB kS vS) zA0 (wN cA ad u))) (zQi r zB0 zA0) 0 0 zA0 := by
  refine z_met (lv := [(0, .ref (kS i)), (1, .int x1)]) plJ0 rfl rfl (Nat.le_of_ble_eq_true rfl) rfl ?_
  intro p e s m below meth c hC hr hin
  unfold mN_charAt_5068e at hm
  refine z_aload_n hC dJ0_charAt_5068e_0 rfl 0 rfl ?_
  refine xJ_J0_492 hI hC (Nat.le_of_ble_eq_true rfl) dJ0_charAt_5068e_1 (Nat.le_of_ble_eq_true rfl) ?_
  refine z_if_eq (tgt := 16) (a := false) (b := true) (o := true) hC rfl dJ0_charAt_5068e_4 (by decide) (fun h => nomatch h) (fun _ => ?_)
  refine z_aload_n hC dJ0_charAt_5068e_7 rfl 0 rfl ?_
  refine zJ_value hC hI dJ0_charAt_5068e_8 ?_
  refine z_iload_n hC dJ0_charAt_5068e_11 rfl 1 rfl ?_
  refine xJ_J0_495 hI hC (Nat.le_of_ble_eq_true rfl) hm dJ0_charAt_5068e_12 (Nat.le_of_ble_eq_true rfl) (fun q1 hm => ?_)
  refine z_g (zgc_some hm) (fun hb hm => ?_)
  exact z_iret hC hr (zc_nar hb) dJ0_charAt_5068e_15 (fun _ _ => trivial) (Option.some.inj hm)
def mN_canEncode_9a6ad (x0 : Int32) : Int32 :=
  if x0 < 0 then ((0 : Int32)) else (if (255 : Int32) < x0 then ((0 : Int32)) else ((1 : Int32)))
theorem bN_canEncode_9a6ad (x0 : Int32) : mN_canEncode_9a6ad x0 = 0 ∨ mN_canEncode_9a6ad x0 = 1 := by
  unfold mN_canEncode_9a6ad
  (repeat' split) <;> first | exact Or.inl rfl | exact Or.inr rfl
set_option maxRecDepth 100000 in
set_option maxHeartbeats 4000000 in
theorem cN_canEncode_9a6ad {l : Launch} {D : va_G} {cA : Nat → ClassId} {ad : Nat → Nat} {tK tB : Nat} {kS vS : Nat → Nat} (hI : zInj ad 0) (x0 : Int32) (u : SN) {r : Int32} (hm : mN_canEncode_9a6ad x0 = r) : Met l yJ1_canEncode_9a6ad (zWs yJ1_canEncode_9a6ad cJ1_canEncode_9a6ad 1 (some .boolean)) (zRm 0) (va_Pc [.int x0] (zPre D (zTy cA) (zE tK tB kS vS) zA0 (wN cA ad u))) (zQi r zB0 zA0) 0 0 zA0 := by
  refine z_met (lv := [(0, .int x0)]) plJ1 rfl rfl (Nat.le_of_ble_eq_true rfl) rfl ?_
  intro p e s m below meth c hC hr hin
  unfold mN_canEncode_9a6ad at hm
  refine z_iload_n hC dJ1_canEncode_9a6ad_0 rfl 0 rfl ?_
  refine z_if_lt (tgt := 15) hC hm dJ1_canEncode_9a6ad_1 (by decide) (fun hm => ?_) (fun hm => ?_)
  · refine z_iconst hC dJ1_canEncode_9a6ad_15 kI_0 ?_
    exact z_iret hC hr rfl dJ1_canEncode_9a6ad_16 (fun _ _ => trivial) hm
  · refine z_iload_n hC dJ1_canEncode_9a6ad_4 rfl 0 rfl ?_
    refine z_sipush hC dJ1_canEncode_9a6ad_5 kS_255 ?_
    refine z_icmp_gt (tgt := 15) hC hm dJ1_canEncode_9a6ad_8 (by decide) (fun hm => ?_) (fun hm => ?_)
    · refine z_iconst hC dJ1_canEncode_9a6ad_15 kI_0 ?_
      exact z_iret hC hr rfl dJ1_canEncode_9a6ad_16 (fun _ _ => trivial) hm
    · refine z_iconst hC dJ1_canEncode_9a6ad_11 kI_1 ?_
      refine z_goto (tgt := 16) hC dJ1_canEncode_9a6ad_12 (by decide) ?_
      exact z_iret hC hr rfl dJ1_canEncode_9a6ad_16 (fun _ _ => trivial) hm
def mN_indexOfChar_4cfef_L7 (i : Nat) (x3 : Int32) (x4 : Int32) : Nat → Int32 → Option Int32
  | 0, _ => none
  | n + 1, x5 => if x3 ≤ x5 then (some (-1 : Int32)) else (zgi x5 (zSl.getD i 0) (if ((zSb.getD i []).getD (x5).toNatClampNeg 0) = x4 then (some x5) else (mN_indexOfChar_4cfef_L7 i x3 x4 n (x5 + (1 : Int32)))))
set_option maxRecDepth 100000 in
set_option maxHeartbeats 4000000 in
theorem lN_indexOfChar_4cfef_7 {l : Launch} {D : va_G} {cA : Nat → ClassId} {ad : Nat → Nat} {p : Program} {e : Env} {s : State} {m : MethodId} {args : Array Value} {below : List Frame} {meth : Method} {c : Code} {tK tB : Nat} {kS vS : Nat → Nat} {r : Int32}  {i : Nat} {x3 : Int32} {x4 : Int32} {u : SN} (hI : i < 7) (hC : zC p s m args meth c cJ1_indexOfChar_4cfef 6 RJ1 zTS D (zTy cA) zA0 (zE tK tB kS vS)) (hr : meth.sig.returnType = (some .int)) : ∀ (n : Nat) (x5 : Int32), mN_indexOfChar_4cfef_L7 i x3 x4 n x5 = some r → zG p l e (zRm 0) s m args below meth c 6 D zA0 (MQ below (zQi r zB0 zA0) args s 0 0 zA0) (wN cA ad u) [(0, .ref (vS i)), (3, .int x3), (4, .int x4), (5, .int x5)] 7 [] := by
  intro n
  induction n with
  | zero => intro x5 hm; exact z_none hm
  | succ n ih =>
    intro x5 hm
    rw [mN_indexOfChar_4cfef_L7] at hm
    refine z_iload hC dJ1_indexOfChar_4cfef_7 3 rfl ?_
    refine z_iload_n hC dJ1_indexOfChar_4cfef_9 rfl 1 rfl ?_
    refine z_icmp_ge (tgt := 31) hC hm dJ1_indexOfChar_4cfef_10 (by decide) (fun hm => ?_) (fun hm => ?_)
    · refine z_iconst hC dJ1_indexOfChar_4cfef_31 kI_m1 ?_
      exact z_iret hC hr rfl dJ1_indexOfChar_4cfef_32 (fun _ _ => trivial) (Option.some.inj hm)
    · refine z_aload_n hC dJ1_indexOfChar_4cfef_13 rfl 0 rfl ?_
      refine z_iload hC dJ1_indexOfChar_4cfef_14 3 rfl ?_
      refine zJ_load hC hI hm dJ1_indexOfChar_4cfef_16 (fun hm => ?_)
      refine z_iload hC dJ1_indexOfChar_4cfef_17 2 rfl ?_
      refine z_icmp_ne (tgt := 25) hC hm dJ1_indexOfChar_4cfef_19 (by decide) (fun hm => ?_) (fun hm => ?_)
      · refine z_iload hC dJ1_indexOfChar_4cfef_22 3 rfl ?_
        exact z_iret hC hr rfl dJ1_indexOfChar_4cfef_24 (fun _ _ => trivial) (Option.some.inj hm)
      · refine z_iinc (lv' := [(5, .int (x5 + (1 : Int32))), (0, .ref (vS i)), (3, .int x3), (4, .int x4)]) (k := 3) (v := (x5 + (1 : Int32))) hC dJ1_indexOfChar_4cfef_25 rfl rfl (by decide) rfl ?_
        refine z_goto (tgt := 7) hC dJ1_indexOfChar_4cfef_28 (by decide) ?_
        refine z_lv hC [1, 2, 3, 0] rfl ?_
        exact ih _ hm
def mN_indexOfChar_4cfef (i : Nat) (x1 : Int32) (x2 : Int32) (x3 : Int32) : Option Int32 :=
  mN_indexOfChar_4cfef_L7 i x3 ((x1).toInt8.toInt32) 256 x2
set_option maxRecDepth 100000 in
set_option maxHeartbeats 4000000 in
theorem cN_indexOfChar_4cfef {l : Launch} {D : va_G} {cA : Nat → ClassId} {ad : Nat → Nat} {tK tB : Nat} {kS vS : Nat → Nat} {i : Nat} (hI : i < 7) (x1 : Int32) (x2 : Int32) (x3 : Int32) (u : SN) {r : Int32} (hm : mN_indexOfChar_4cfef i x1 x2 x3 = some r) : Met l yJ1_indexOfChar_4cfef (zWs yJ1_indexOfChar_4cfef cJ1_indexOfChar_4cfef 6 (some .int)) (zRm 0) (va_Pc [.ref (vS i), .int x1, .int x2, .int x3] (zPre D (zTy cA) (zE tK tB kS vS) zA0 (wN cA ad u))) (zQi r zB0 zA0) 0 0 zA0 := by
  refine z_met (lv := [(0, .ref (vS i)), (1, .int x1), (2, .int x2), (3, .int x3)]) plJ1 rfl rfl (Nat.le_of_ble_eq_true rfl) rfl ?_
  intro p e s m below meth c hC hr hin
  unfold mN_indexOfChar_4cfef at hm
  refine z_iload_n hC dJ1_indexOfChar_4cfef_0 rfl 1 rfl ?_
  refine z_i2b hC dJ1_indexOfChar_4cfef_1 ?_
  refine z_istore (lv' := [(4, .int ((x1).toInt8.toInt32)), (0, .ref (vS i)), (1, .int x1), (2, .int x2), (3, .int x3)]) hC dJ1_indexOfChar_4cfef_2 (by decide) rfl ?_
  refine z_iload_n hC dJ1_indexOfChar_4cfef_4 rfl 3 rfl ?_
  refine z_istore (lv' := [(5, .int x2), (4, .int ((x1).toInt8.toInt32)), (0, .ref (vS i)), (1, .int x1), (2, .int x2), (3, .int x3)]) hC dJ1_indexOfChar_4cfef_5 (by decide) rfl ?_
  refine z_lv hC [2, 5, 1, 0] rfl ?_
  exact lN_indexOfChar_4cfef_7 hI hC hr _ _ hm
theorem xJ_J1_88 {p : Program} {l : Launch} {e : Env} {s : State} {m : MethodId} {args : Array Value} {below : List Frame} {meth : Method} {c : Code} {Q : State → Prop} {D : va_G} {cA : Nat → ClassId} {A : Nat → Prop} {cc : ByteArray} {nL : Nat} {ws : va_W} {lv : List (Nat × Value)} {pc : Nat} {st : List Value} {tK tB : Nat} {kS vS : Nat → Nat} {d : Nat} {x0 : Int32} (C : zC p s m args meth c cc nL RJ1 zTS D (zTy cA) A (zE tK tB kS vS)) (hdm : 0 + 1 ≤ d) (hd : decode cc pc = .ok (.invokestatic 88, 3)) (h8 : (st.map fun v => v.category).sum ≤ 8) (g : zG p l e (zRm d) s m args below meth c nL D A Q ws lv (pc + 3) (.int (mN_canEncode_9a6ad x0) :: st)) : zG p l e (zRm d) s m args below meth c nL D A Q ws lv pc (.int x0 :: st) :=
  z_calliS C (cN_canEncode_9a6ad (cA := cA) (ad := fun i => i) (zInj0 (ad := fun i => i)) x0 () rfl) (cwJ1_88 C.1.2.2.2.2 rfl rfl ⟨hdm, by have := hdm; simp only [zRm]; omega⟩) hd rfl rfl h8 (fun _ h => nomatch h) (fun _ h => h.elim) zJ_ro g
theorem xJ_J1_95 {p : Program} {l : Launch} {e : Env} {s : State} {m : MethodId} {args : Array Value} {below : List Frame} {meth : Method} {c : Code} {Q : State → Prop} {D : va_G} {cA : Nat → ClassId} {A : Nat → Prop} {cc : ByteArray} {nL : Nat} {ws : va_W} {lv : List (Nat × Value)} {pc : Nat} {st : List Value} {tK tB : Nat} {kS vS : Nat → Nat} {d : Nat} {x1 : Int32} {x2 : Int32} {x3 : Int32} {i : Nat} (hI : i < 7) (C : zC p s m args meth c cc nL RJ1 zTS D (zTy cA) A (zE tK tB kS vS)) (hdm : 0 + 1 ≤ d) {β : Type} {f : Int32 → Option β} {o : β} (hm : (mN_indexOfChar_4cfef i x1 x2 x3).bind f = some o) (hd : decode cc pc = .ok (.invokestatic 95, 3)) (h8 : (st.map fun v => v.category).sum ≤ 8) (g : ∀ q, f q = some o → zG p l e (zRm d) s m args below meth c nL D A Q ws lv (pc + 3) (.int q :: st)) : zG p l e (zRm d) s m args below meth c nL D A Q ws lv pc (.int x3 :: .int x2 :: .int x1 :: .ref (vS i) :: st) := by
  obtain ⟨q, h1, h2⟩ := zb_some hm
  exact z_calliS C (cN_indexOfChar_4cfef (cA := cA) (ad := fun i => i) hI x1 x2 x3 () h1) (cwJ1_95 C.1.2.2.2.2 rfl rfl ⟨hdm, by have := hdm; simp only [zRm]; omega⟩) hd rfl rfl h8 (fun _ h => nomatch h) (fun _ h => h.elim) zJ_ro (g q h2)
def mN_indexOf_4cfef (i : Nat) (x1 : Int32) (x2 : Int32) (x3 : Int32) : Option Int32 :=
  if (mN_canEncode_9a6ad x1) = 0 then (some (-1 : Int32)) else (if (zmax x2 (0 : Int32)) < (zmin x3 (Int32.ofNat (zSl.getD i 0))) then ((mN_indexOfChar_4cfef i x1 (zmax x2 (0 : Int32)) (zmin x3 (Int32.ofNat (zSl.getD i 0)))).bind fun q1 => (some q1)) else (some (-1 : Int32)))
set_option maxRecDepth 100000 in
set_option maxHeartbeats 4000000 in
theorem cN_indexOf_4cfef {l : Launch} {D : va_G} {cA : Nat → ClassId} {ad : Nat → Nat} {tK tB : Nat} {kS vS : Nat → Nat} {i : Nat} (hI : i < 7) (x1 : Int32) (x2 : Int32) (x3 : Int32) (u : SN) {r : Int32} (hm : mN_indexOf_4cfef i x1 x2 x3 = some r) : Met l yJ1_indexOf_4cfef (zWs yJ1_indexOf_4cfef cJ1_indexOf_4cfef 4 (some .int)) (zRm 1) (va_Pc [.ref (vS i), .int x1, .int x2, .int x3] (zPre D (zTy cA) (zE tK tB kS vS) zA0 (wN cA ad u))) (zQi r zB0 zA0) 0 0 zA0 := by
  refine z_met (lv := [(0, .ref (vS i)), (1, .int x1), (2, .int x2), (3, .int x3)]) plJ1 rfl rfl (Nat.le_of_ble_eq_true rfl) rfl ?_
  intro p e s m below meth c hC hr hin
  unfold mN_indexOf_4cfef at hm
  refine z_iload_n hC dJ1_indexOf_4cfef_0 rfl 1 rfl ?_
  refine xJ_J1_88 hC (Nat.le_of_ble_eq_true rfl) dJ1_indexOf_4cfef_1 (Nat.le_of_ble_eq_true rfl) ?_
  refine z_if_ne (tgt := 9) hC hm dJ1_indexOf_4cfef_4 (by decide) (fun hm => ?_) (fun hm => ?_)
  · refine z_iconst hC dJ1_indexOf_4cfef_7 kI_m1 ?_
    exact z_iret hC hr rfl dJ1_indexOf_4cfef_8 (fun _ _ => trivial) (Option.some.inj hm)
  · refine z_iload_n hC dJ1_indexOf_4cfef_9 rfl 2 rfl ?_
    refine z_iconst hC dJ1_indexOf_4cfef_10 kI_0 ?_
    refine z_max hC mmJ1_92 (Nat.le_of_ble_eq_true rfl) (Nat.le_of_ble_eq_true rfl) dJ1_indexOf_4cfef_11 ?_
    refine z_istore_n (lv' := [(2, .int (zmax x2 (0 : Int32))), (0, .ref (vS i)), (1, .int x1), (3, .int x3)]) hC dJ1_indexOf_4cfef_14 rfl (by decide) rfl ?_
    refine z_iload_n hC dJ1_indexOf_4cfef_15 rfl 3 rfl ?_
    refine z_aload_n hC dJ1_indexOf_4cfef_16 rfl 1 rfl ?_
    refine zJ_len hC hI dJ1_indexOf_4cfef_17 ?_
    refine z_min hC mmJ1_38 (Nat.le_of_ble_eq_true rfl) (Nat.le_of_ble_eq_true rfl) dJ1_indexOf_4cfef_18 ?_
    refine z_istore_n (lv' := [(3, .int (zmin x3 (Int32.ofNat (zSl.getD i 0)))), (2, .int (zmax x2 (0 : Int32))), (0, .ref (vS i)), (1, .int x1)]) hC dJ1_indexOf_4cfef_21 rfl (by decide) rfl ?_
    refine z_iload_n hC dJ1_indexOf_4cfef_22 rfl 1 rfl ?_
    refine z_iload_n hC dJ1_indexOf_4cfef_23 rfl 0 rfl ?_
    refine z_icmp_lt (tgt := 29) hC hm dJ1_indexOf_4cfef_24 (by decide) (fun hm => ?_) (fun hm => ?_)
    · refine z_aload_n hC dJ1_indexOf_4cfef_29 rfl 2 rfl ?_
      refine z_iload_n hC dJ1_indexOf_4cfef_30 rfl 3 rfl ?_
      refine z_iload_n hC dJ1_indexOf_4cfef_31 rfl 1 rfl ?_
      refine z_iload_n hC dJ1_indexOf_4cfef_32 rfl 0 rfl ?_
      refine xJ_J1_95 hI hC (Nat.le_of_ble_eq_true rfl) hm dJ1_indexOf_4cfef_33 (Nat.le_of_ble_eq_true rfl) (fun q1 hm => ?_)
      exact z_iret hC hr rfl dJ1_indexOf_4cfef_36 (fun _ _ => trivial) (Option.some.inj hm)
    · refine z_iconst hC dJ1_indexOf_4cfef_27 kI_m1 ?_
      exact z_iret hC hr rfl dJ1_indexOf_4cfef_28 (fun _ _ => trivial) (Option.some.inj hm)
theorem xJ_J0_505 {p : Program} {l : Launch} {e : Env} {s : State} {m : MethodId} {args : Array Value} {below : List Frame} {meth : Method} {c : Code} {Q : State → Prop} {D : va_G} {cA : Nat → ClassId} {A : Nat → Prop} {cc : ByteArray} {nL : Nat} {ws : va_W} {lv : List (Nat × Value)} {pc : Nat} {st : List Value} {tK tB : Nat} {kS vS : Nat → Nat} {d : Nat} {i : Nat} (hI : i < 7) (C : zC p s m args meth c cc nL RJ0 zTS D (zTy cA) A (zE tK tB kS vS)) (hdm : 1 + 1 ≤ d) (hd : decode cc pc = .ok (.invokevirtual 505, 3)) (h8 : (st.map fun v => v.category).sum ≤ 8) (g : zG p l e (zRm d) s m args below meth c nL D A Q ws lv (pc + 3) (.int (mN_length_8abf5 i) :: st)) : zG p l e (zRm d) s m args below meth c nL D A Q ws lv pc (.ref (kS i) :: st) :=
  z_calliR C (cN_length_8abf5 (cA := cA) (ad := fun i => i) hI  () rfl) (cwJ0_505 C.1.2.2.2.2 rfl rfl ⟨hdm, by have := hdm; simp only [zRm]; omega⟩) hd rfl rfl h8 (fun H locs hS => vk_recv C.2.2.2.2.2.2.1.1 hI hS) (fun _ h => nomatch h) (fun _ h => h.elim) zJ_ro g
theorem xJ_J0_637 {p : Program} {l : Launch} {e : Env} {s : State} {m : MethodId} {args : Array Value} {below : List Frame} {meth : Method} {c : Code} {Q : State → Prop} {D : va_G} {cA : Nat → ClassId} {A : Nat → Prop} {cc : ByteArray} {nL : Nat} {ws : va_W} {lv : List (Nat × Value)} {pc : Nat} {st : List Value} {tK tB : Nat} {kS vS : Nat → Nat} {d : Nat} {x1 : Int32} {x2 : Int32} {x3 : Int32} {i : Nat} (hI : i < 7) (C : zC p s m args meth c cc nL RJ0 zTS D (zTy cA) A (zE tK tB kS vS)) (hdm : 1 + 1 ≤ d) {β : Type} {f : Int32 → Option β} {o : β} (hm : (mN_indexOf_4cfef i x1 x2 x3).bind f = some o) (hd : decode cc pc = .ok (.invokestatic 637, 3)) (h8 : (st.map fun v => v.category).sum ≤ 8) (g : ∀ q, f q = some o → zG p l e (zRm d) s m args below meth c nL D A Q ws lv (pc + 3) (.int q :: st)) : zG p l e (zRm d) s m args below meth c nL D A Q ws lv pc (.int x3 :: .int x2 :: .int x1 :: .ref (vS i) :: st) := by
  obtain ⟨q, h1, h2⟩ := zb_some hm
  exact z_calliS C (cN_indexOf_4cfef (cA := cA) (ad := fun i => i) hI x1 x2 x3 () h1) (cwJ0_637 C.1.2.2.2.2 rfl rfl ⟨hdm, by have := hdm; simp only [zRm]; omega⟩) hd rfl rfl h8 (fun _ h => nomatch h) (fun _ h => h.elim) zJ_ro (g q h2)
def mN_indexOf_7cf53 (i : Nat) (x1 : Int32) (x2 : Int32) : Option Int32 :=
  (mN_indexOf_4cfef i x1 x2 (mN_length_8abf5 i)).bind fun q1 => (some q1)
set_option maxRecDepth 100000 in
set_option maxHeartbeats 4000000 in
theorem cN_indexOf_7cf53 {l : Launch} {D : va_G} {cA : Nat → ClassId} {ad : Nat → Nat} {tK tB : Nat} {kS vS : Nat → Nat} {i : Nat} (hI : i < 7) (x1 : Int32) (x2 : Int32) (u : SN) {r : Int32} (hm : mN_indexOf_7cf53 i x1 x2 = some r) : Met l yJ0_indexOf_7cf53 (zWs yJ0_indexOf_7cf53 cJ0_indexOf_7cf53 3 (some .int)) (zRm 2) (va_Pc [.ref (kS i), .int x1, .int x2] (zPre D (zTy cA) (zE tK tB kS vS) zA0 (wN cA ad u))) (zQi r zB0 zA0) 0 0 zA0 := by
  refine z_met (lv := [(0, .ref (kS i)), (1, .int x1), (2, .int x2)]) plJ0 rfl rfl (Nat.le_of_ble_eq_true rfl) rfl ?_
  intro p e s m below meth c hC hr hin
  unfold mN_indexOf_7cf53 at hm
  refine z_aload_n hC dJ0_indexOf_7cf53_0 rfl 0 rfl ?_
  refine xJ_J0_492 hI hC (Nat.le_of_ble_eq_true rfl) dJ0_indexOf_7cf53_1 (Nat.le_of_ble_eq_true rfl) ?_
  refine z_if_eq (tgt := 23) (a := false) (b := true) (o := true) hC rfl dJ0_indexOf_7cf53_4 (by decide) (fun h => nomatch h) (fun _ => ?_)
  refine z_aload_n hC dJ0_indexOf_7cf53_7 rfl 0 rfl ?_
  refine zJ_value hC hI dJ0_indexOf_7cf53_8 ?_
  refine z_iload_n hC dJ0_indexOf_7cf53_11 rfl 1 rfl ?_
  refine z_iload_n hC dJ0_indexOf_7cf53_12 rfl 2 rfl ?_
  refine z_aload_n hC dJ0_indexOf_7cf53_13 rfl 0 rfl ?_
  refine xJ_J0_505 hI hC (Nat.le_of_ble_eq_true rfl) dJ0_indexOf_7cf53_14 (Nat.le_of_ble_eq_true rfl) ?_
  refine xJ_J0_637 hI hC (Nat.le_of_ble_eq_true rfl) hm dJ0_indexOf_7cf53_17 (Nat.le_of_ble_eq_true rfl) (fun q1 hm => ?_)
  refine z_goto (tgt := 36) hC dJ0_indexOf_7cf53_20 (by decide) ?_
  exact z_iret hC hr rfl dJ0_indexOf_7cf53_36 (fun _ _ => trivial) (Option.some.inj hm)
theorem xJ_J0_633 {p : Program} {l : Launch} {e : Env} {s : State} {m : MethodId} {args : Array Value} {below : List Frame} {meth : Method} {c : Code} {Q : State → Prop} {D : va_G} {cA : Nat → ClassId} {A : Nat → Prop} {cc : ByteArray} {nL : Nat} {ws : va_W} {lv : List (Nat × Value)} {pc : Nat} {st : List Value} {tK tB : Nat} {kS vS : Nat → Nat} {d : Nat} {x1 : Int32} {x2 : Int32} {i : Nat} (hI : i < 7) (C : zC p s m args meth c cc nL RJ0 zTS D (zTy cA) A (zE tK tB kS vS)) (hdm : 2 + 1 ≤ d) {β : Type} {f : Int32 → Option β} {o : β} (hm : (mN_indexOf_7cf53 i x1 x2).bind f = some o) (hd : decode cc pc = .ok (.invokevirtual 633, 3)) (h8 : (st.map fun v => v.category).sum ≤ 8) (g : ∀ q, f q = some o → zG p l e (zRm d) s m args below meth c nL D A Q ws lv (pc + 3) (.int q :: st)) : zG p l e (zRm d) s m args below meth c nL D A Q ws lv pc (.int x2 :: .int x1 :: .ref (kS i) :: st) := by
  obtain ⟨q, h1, h2⟩ := zb_some hm
  exact z_calliR C (cN_indexOf_7cf53 (cA := cA) (ad := fun i => i) hI x1 x2 () h1) (cwJ0_633 C.1.2.2.2.2 rfl rfl ⟨hdm, by have := hdm; simp only [zRm]; omega⟩) hd rfl rfl h8 (fun H locs hS => vk_recv C.2.2.2.2.2.2.1.1 hI hS) (fun _ h => nomatch h) (fun _ h => h.elim) zJ_ro (g q h2)
def mN_indexOf_0f7a4 (i : Nat) (x1 : Int32) : Option Int32 :=
  (mN_indexOf_7cf53 i x1 (0 : Int32)).bind fun q1 => (some q1)
set_option maxRecDepth 100000 in
set_option maxHeartbeats 4000000 in
theorem cN_indexOf_0f7a4 {l : Launch} {D : va_G} {cA : Nat → ClassId} {ad : Nat → Nat} {tK tB : Nat} {kS vS : Nat → Nat} {i : Nat} (hI : i < 7) (x1 : Int32) (u : SN) {r : Int32} (hm : mN_indexOf_0f7a4 i x1 = some r) : Met l yJ0_indexOf_0f7a4 (zWs yJ0_indexOf_0f7a4 cJ0_indexOf_0f7a4 2 (some .int)) (zRm 3) (va_Pc [.ref (kS i), .int x1] (zPre D (zTy cA) (zE tK tB kS vS) zA0 (wN cA ad u))) (zQi r zB0 zA0) 0 0 zA0 := by
  refine z_met (lv := [(0, .ref (kS i)), (1, .int x1)]) plJ0 rfl rfl (Nat.le_of_ble_eq_true rfl) rfl ?_
  intro p e s m below meth c hC hr hin
  unfold mN_indexOf_0f7a4 at hm
  refine z_aload_n hC dJ0_indexOf_0f7a4_0 rfl 0 rfl ?_
  refine z_iload_n hC dJ0_indexOf_0f7a4_1 rfl 1 rfl ?_
  refine z_iconst hC dJ0_indexOf_0f7a4_2 kI_0 ?_
  refine xJ_J0_633 hI hC (Nat.le_of_ble_eq_true rfl) hm dJ0_indexOf_0f7a4_3 (Nat.le_of_ble_eq_true rfl) (fun q1 hm => ?_)
  exact z_iret hC hr rfl dJ0_indexOf_0f7a4_6 (fun _ _ => trivial) (Option.some.inj hm)
theorem xJ_X3_87 {p : Program} {l : Launch} {e : Env} {s : State} {m : MethodId} {args : Array Value} {below : List Frame} {meth : Method} {c : Code} {Q : State → Prop} {D : va_G} {cA : Nat → ClassId} {A : Nat → Prop} {cc : ByteArray} {nL : Nat} {ws : va_W} {lv : List (Nat × Value)} {pc : Nat} {st : List Value} {tK tB : Nat} {kS vS : Nat → Nat} {d : Nat} {i : Nat} (hI : i < 7) (C : zC p s m args meth c cc nL RX3 zTS D (zTy cA) A (zE tK tB kS vS)) (hdm : 1 + 1 ≤ d) (hd : decode cc pc = .ok (.invokevirtual 87, 3)) (h8 : (st.map fun v => v.category).sum ≤ 8) (g : zG p l e (zRm d) s m args below meth c nL D A Q ws lv (pc + 3) (.int (mN_length_8abf5 i) :: st)) : zG p l e (zRm d) s m args below meth c nL D A Q ws lv pc (.ref (kS i) :: st) :=
  z_calliR C (cN_length_8abf5 (cA := cA) (ad := fun i => i) hI  () rfl) (cwX3_87 C.1.2.2.2.2 rfl rfl ⟨hdm, by have := hdm; simp only [zRm]; omega⟩) hd rfl rfl h8 (fun H locs hS => vk_recv C.2.2.2.2.2.2.1.1 hI hS) (fun _ h => nomatch h) (fun _ h => h.elim) zJ_ro g
theorem xJ_X3_94 {p : Program} {l : Launch} {e : Env} {s : State} {m : MethodId} {args : Array Value} {below : List Frame} {meth : Method} {c : Code} {Q : State → Prop} {D : va_G} {cA : Nat → ClassId} {A : Nat → Prop} {cc : ByteArray} {nL : Nat} {ws : va_W} {lv : List (Nat × Value)} {pc : Nat} {st : List Value} {tK tB : Nat} {kS vS : Nat → Nat} {d : Nat} {x1 : Int32} {i : Nat} (hI : i < 7) (C : zC p s m args meth c cc nL RX3 zTS D (zTy cA) A (zE tK tB kS vS)) (hdm : 3 + 1 ≤ d) {β : Type} {f : Int32 → Option β} {o : β} (hm : (mN_charAt_5068e i x1).bind f = some o) (hd : decode cc pc = .ok (.invokevirtual 94, 3)) (h8 : (st.map fun v => v.category).sum ≤ 8) (g : ∀ q, f q = some o → zG p l e (zRm d) s m args below meth c nL D A Q ws lv (pc + 3) (.int q :: st)) : zG p l e (zRm d) s m args below meth c nL D A Q ws lv pc (.int x1 :: .ref (kS i) :: st) := by
  obtain ⟨q, h1, h2⟩ := zb_some hm
  exact z_calliR C (cN_charAt_5068e (cA := cA) (ad := fun i => i) hI x1 () h1) (cwX3_94 C.1.2.2.2.2 rfl rfl ⟨hdm, by have := hdm; simp only [zRm]; omega⟩) hd rfl rfl h8 (fun H locs hS => vk_recv C.2.2.2.2.2.2.1.1 hI hS) (fun _ h => nomatch h) (fun _ h => h.elim) zJ_ro (g q h2)
theorem xJ_X3_135 {p : Program} {l : Launch} {e : Env} {s : State} {m : MethodId} {args : Array Value} {below : List Frame} {meth : Method} {c : Code} {Q : State → Prop} {D : va_G} {cA : Nat → ClassId} {A : Nat → Prop} {cc : ByteArray} {nL : Nat} {ws : va_W} {lv : List (Nat × Value)} {pc : Nat} {st : List Value} {tK tB : Nat} {kS vS : Nat → Nat} {d : Nat} {x1 : Int32} {i : Nat} (hI : i < 7) (C : zC p s m args meth c cc nL RX3 zTS D (zTy cA) A (zE tK tB kS vS)) (hdm : 3 + 1 ≤ d) {β : Type} {f : Int32 → Option β} {o : β} (hm : (mN_indexOf_0f7a4 i x1).bind f = some o) (hd : decode cc pc = .ok (.invokevirtual 135, 3)) (h8 : (st.map fun v => v.category).sum ≤ 8) (g : ∀ q, f q = some o → zG p l e (zRm d) s m args below meth c nL D A Q ws lv (pc + 3) (.int q :: st)) : zG p l e (zRm d) s m args below meth c nL D A Q ws lv pc (.int x1 :: .ref (kS i) :: st) := by
  obtain ⟨q, h1, h2⟩ := zb_some hm
  exact z_calliR C (cN_indexOf_0f7a4 (cA := cA) (ad := fun i => i) hI x1 () h1) (cwX3_135 C.1.2.2.2.2 rfl rfl ⟨hdm, by have := hdm; simp only [zRm]; omega⟩) hd rfl rfl h8 (fun H locs hS => vk_recv C.2.2.2.2.2.2.1.1 hI hS) (fun _ h => nomatch h) (fun _ h => h.elim) zJ_ro (g q h2)
