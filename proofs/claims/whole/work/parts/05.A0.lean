/-! 05.A0: the class side: what is found in the heap and never written (zE), and its rows; by wip/whole/gen/genA.py -/
theorem zInj_sh {ad : Nat → Nat} {N k n : Nat} (hI : zInj ad N) (h : k + n ≤ N) : zInj (fun i => ad (k + i)) n := by
  intro i j hi hj hij
  have := hI (k + i) (k + j) (by omega) (by omega) hij
  omega
theorem zAd_sh {ad : Nat → Nat} {N k n : Nat} (h : k + n ≤ N) : ∀ q, zAd (fun i => ad (k + i)) n q → zAd ad N q := by
  rintro q ⟨i, hi, rfl⟩
  exact ⟨k + i, by omega, rfl⟩
theorem z_blk_mem {ws wc : va_W} {k n : Nat} (h1 : ws = ws.take k ++ (wc ++ ws.drop (k + n))) : ∀ q ∈ wc, q ∈ ws := by
  intro q hq
  rw [h1]
  exact List.mem_append_right _ (List.mem_append_left _ hq)
theorem z_at_fst {ad : Nat → Nat} {N : Nat} {ws : va_W} (h : ws.map Prod.fst = (List.range N).map ad) {i : Nat} {q : Nat × va_E} (hi : ws[i]? = some q) : i < N ∧ q.1 = ad i := by
  have h1 : (ws.map Prod.fst)[i]? = some q.1 := by rw [List.getElem?_map, hi]; rfl
  rw [h, List.getElem?_map] at h1
  cases h2 : (List.range N)[i]? with
  | none => rw [h2] at h1; cases h1
  | some z =>
    rw [h2] at h1
    obtain ⟨hl, he⟩ := List.getElem?_eq_some_iff.mp h2
    rw [List.getElem_range] at he
    rw [List.length_range] at hl
    subst he
    exact ⟨hl, (Option.some.inj h1).symm⟩
/-- how a world goes on behind a call that writes a block of it alone -/
theorem zJ_blk {D : va_G} {ws w1 ws' : va_W} {ad : Nat → Nat} {N k n : Nat} (hI : zInj ad N) (hf : ws.map Prod.fst = (List.range N).map ad) (hkn : k + n ≤ N) (h2 : ws' = ws.take k ++ (w1 ++ ws.drop (k + n))) : zJ D ws (zBw D w1) (zAd (fun i => ad (k + i)) n) ws' := by
  intro H H1 hP hB hk
  refine zP_of (fun q hq => ?_)
  have out : ∀ (i : Nat), ws[i]? = some q → (i < k ∨ k + n ≤ i) → va_at D vwCl q H1 := by
    intro i hi hr
    have hat := hP i q hi
    obtain ⟨hN, he⟩ := z_at_fst hf hi
    refine hat.kept (hk q.1 hat.lt ?_)
    rintro ⟨j, hj, hq1⟩
    have := hI i (k + j) hN (by omega) (he.symm.trans hq1)
    omega
  rw [h2] at hq
  rcases List.mem_append.mp hq with h | h
  · obtain ⟨i, hi⟩ := List.getElem?_of_mem h
    rw [List.getElem?_take] at hi
    split at hi
    next hlt => exact out i hi (Or.inl hlt)
    next => cases hi
  · rcases List.mem_append.mp h with h | h
    · exact zP_mem hB h
    · obtain ⟨i, hi⟩ := List.getElem?_of_mem h
      rw [List.getElem?_drop] at hi
      exact out _ hi (Or.inr (by omega))
def zmin (x y : Int32) : Int32 := if y < x then y else x
def zmax (x y : Int32) : Int32 := if x < y then y else x
def zabs (x : Int32) : Int32 := if 0 ≤ x then x else 0 - x
def zKA (j : Nat) : Int32 := ([-1, 0, 0, 0, 1, 2, 3] : List Int32).getD j 0
def zBO (j : Nat) : Int32 := ([10, 11, 12, 0, 20, 0, 30, 0, 0, 0, 0, 40, 50, 51, 0, 0, 0, 60, 71, 70, 0] : List Int32).getD j 0
def zSx (i : Nat) : Nat := ([69, 71, 73, 75, 77, 124, 129] : List Nat).getD i 0
def zSt (i : Nat) : String := (["ear", "eye", "late", "hears", "swap", "foklt", "<=>"] : List String).getD i ""
def zSl : List Nat := [3, 3, 4, 5, 4, 5, 3]
def zSb : List (List Int32) := [[101, 97, 114], [101, 121, 101], [108, 97, 116, 101], [104, 101, 97, 114, 115], [115, 119, 97, 112], [102, 111, 107, 108, 116], [60, 61, 62]]
def zNF : List (String × Nat) := [(RX6, 21), (RX0, 45)]
def zNM : List (String × Nat × MethodName) := [(RX3, 131, yX1_testStep), (RX6, 38, yX7_later), (RX7, 11, yX4_init), (RX7, 40, yX3_init), (RX7, 53, yX0_init), (RX7, 66, yX2_init), (RX7, 72, yX5_init)]
/-- static arrays and texts: tK, tB their arrays, kS i the i-th text, vS i its bytes -/
def zE (tK tB : Nat) (kS vS : Nat → Nat) : zEt := fun A U H => (va_Z "FarVoice" "KIND_ABOVE" "[I" (.ref tK) A U H ∧ va_T .int tK 7 (fun j => .int (zKA j)) A U H) ∧ (va_Z "FarVoice$Acting" "BODY_OF" "[I" (.ref tB) A U H ∧ va_T .int tB 21 (fun j => .int (zBO j)) A U H) ∧ (vk_S 7 zSl zSb kS vS A U H ∧ ∀ i : Nat, i < 7 → vk_R "FarVoice$Reader" (zSx i) (zSt i) (kS i) U) ∧ va_Z "java/lang/String" "COMPACT_STRINGS" "Z" (.int 1) A U H ∧ va_Zq "jdk/internal/util/Preconditions" "SIOOBE_FORMATTER" "Ljava/util/function/BiFunction;" A U H ∧ (∀ q ∈ zNF, va_Nw (.fieldLinkNest q.1 q.2 "FarVoice" "KIND_ABOVE" "[I" "FarVoice") U) ∧ (∀ q ∈ zNM, va_Nw (.methodLinkNest q.1 q.2.1 q.2.2 "FarVoice") U) ∧ va_AO "FarVoice$House" U ∧ va_AO "FarVoice$Tape" U ∧ va_AO "FarVoice$Voice" U
theorem zE_ok {tK tB : Nat} {kS vS : Nat → Nat} : zEok (zE tK tB kS vS) := by
  refine ⟨fun A u U H hW h => ?_, fun A U H H1 h hq => ?_, fun A B U H h hAB => ?_⟩
  · have hal : u.vm.Alike U.vm := by
      rcases hW with hW | hW
      · exact hW.alike
      · rw [hW]; exact Vm.Alike.refl u.vm
    obtain ⟨⟨h1, h2⟩, ⟨h3, h4⟩, ⟨h5, h6⟩, h7, h8, h9, h10, h11, h12, h13⟩ := h
    exact ⟨⟨va_Z.moved hal h1, va_T.moved hal h2⟩, ⟨va_Z.moved hal h3, va_T.moved hal h4⟩, ⟨vk_S.moved hal h5, fun i hi => hW.elim (fun w => vk_R.warm w (h6 i hi)) (fun w => vk_R.same w (h6 i hi))⟩, va_Z.moved hal h7, va_Zq.moved hal h8, fun q hq => hW.elim (fun w => va_Nw.warmF w (h9 q hq)) (fun w => va_Nw.same rfl w.symm (h9 q hq)), fun q hq => hW.elim (fun w => va_Nw.warmM w (h10 q hq)) (fun w => va_Nw.same rfl w.symm (h10 q hq)), va_AO.moved hal h11, va_AO.moved hal h12, va_AO.moved hal h13⟩
  · obtain ⟨⟨h1, h2⟩, ⟨h3, h4⟩, ⟨h5, h6⟩, h7, h8, h9, h10, h11, h12, h13⟩ := h
    exact ⟨⟨h1.kept hq, h2.kept hq⟩, ⟨h3.kept hq, h4.kept hq⟩, ⟨h5.kept hq, h6⟩, h7.kept hq, h8.kept hq, h9, h10, h11, h12, h13⟩
  · obtain ⟨⟨h1, h2⟩, ⟨h3, h4⟩, ⟨h5, h6⟩, h7, h8, h9, h10, h11, h12, h13⟩ := h
    exact ⟨⟨h1.narrow hAB, h2.narrow hAB⟩, ⟨h3.narrow hAB, h4.narrow hAB⟩, ⟨h5.narrow hAB, h6⟩, h7.narrow hAB, h8.narrow hAB, h9, h10, h11, h12, h13⟩
theorem zInj0 {ad : Nat → Nat} : zInj ad 0 := fun _ _ h => absurd h (Nat.not_lt_zero _)
theorem mmS_min : (Cond.static Lib.Math.min.name ∈ zTS ∧ Cond.initialized "java/lang/Math" ∈ zTS) ∧ Cond.code Lib.Math.min.name Lib.Math.min.code 2 (some .int) ∈ zTS := ⟨⟨zMem 383 (by decide +kernel) rfl, zMem 99 (by decide +kernel) rfl⟩, zMem 384 (by decide +kernel) rfl⟩
theorem mmX0_19 : Cond.methodLink RX0 19 Lib.Math.min.name ∈ zTS := zMem 879 (by decide +kernel) rfl
theorem mmX1_47 : Cond.methodLink RX1 47 Lib.Math.min.name ∈ zTS := zMem 657 (by decide +kernel) rfl
theorem mmX3_15 : Cond.methodLink RX3 15 Lib.Math.min.name ∈ zTS := zMem 382 (by decide +kernel) rfl
theorem mmX6_35 : Cond.methodLink RX6 35 Lib.Math.min.name ∈ zTS := zMem 673 (by decide +kernel) rfl
theorem mmX7_342 : Cond.methodLink RX7 342 Lib.Math.min.name ∈ zTS := zMem 703 (by decide +kernel) rfl
theorem mmS_max : (Cond.static Lib.Math.max.name ∈ zTS ∧ Cond.initialized "java/lang/Math" ∈ zTS) ∧ Cond.code Lib.Math.max.name Lib.Math.max.code 2 (some .int) ∈ zTS := ⟨⟨zMem 455 (by decide +kernel) rfl, zMem 99 (by decide +kernel) rfl⟩, zMem 456 (by decide +kernel) rfl⟩
theorem mmX3_91 : Cond.methodLink RX3 91 Lib.Math.max.name ∈ zTS := zMem 454 (by decide +kernel) rfl
theorem mmX6_29 : Cond.methodLink RX6 29 Lib.Math.max.name ∈ zTS := zMem 672 (by decide +kernel) rfl
theorem mmX7_339 : Cond.methodLink RX7 339 Lib.Math.max.name ∈ zTS := zMem 702 (by decide +kernel) rfl
theorem mmS_abs : (Cond.static Lib.Math.abs.name ∈ zTS ∧ Cond.initialized "java/lang/Math" ∈ zTS) ∧ Cond.code Lib.Math.abs.name Lib.Math.abs.code 1 (some .int) ∈ zTS := ⟨⟨zMem 632 (by decide +kernel) rfl, zMem 99 (by decide +kernel) rfl⟩, zMem 633 (by decide +kernel) rfl⟩
theorem mmX2_34 : Cond.methodLink RX2 34 Lib.Math.abs.name ∈ zTS := zMem 709 (by decide +kernel) rfl
theorem mmX7_206 : Cond.methodLink RX7 206 Lib.Math.abs.name ∈ zTS := zMem 631 (by decide +kernel) rfl
theorem mcpS : (Cond.native arraycopyName ∈ zTS ∧ Cond.static arraycopyName ∈ zTS) ∧ Cond.initialized "java/lang/System" ∈ zTS := ⟨⟨zMem 840 (by decide +kernel) rfl, zMem 839 (by decide +kernel) rfl⟩, zMem 107 (by decide +kernel) rfl⟩
theorem mcpX4_26 : Cond.methodLink RX4 26 arraycopyName ∈ zTS := zMem 838 (by decide +kernel) rfl
theorem mcpX7_310 : Cond.methodLink RX7 310 arraycopyName ∈ zTS := zMem 917 (by decide +kernel) rfl
theorem z_min {p : Program} {l : Launch} {e : Env} {s : State} {m : MethodId} {args : Array Value} {below : List Frame} {meth : Method} {c : Code} {Q : State → Prop} {D : va_G} {tys : List (ClassId × FieldType)} {A : Nat → Prop} {cc : ByteArray} {nL : Nat} {own : String} {ws : va_W} {lv : List (Nat × Value)} {pc : Nat} {st : List Value} {E : zEt} {d index : Nat} {x y : Int32} (C : zC p s m args meth c cc nL own zTS D tys A E) (m1 : Cond.methodLink own index Lib.Math.min.name ∈ zTS) (hd1 : 1 ≤ d) (h8 : (st.map fun v => v.category).sum ≤ 8) (hd : decode cc pc = .ok (.invokestatic index, 3)) (g : zG p l e (zRm d) s m args below meth c nL D A Q ws lv (pc + 3) (.int (zmin x y) :: st)) : zG p l e (zRm d) s m args below meth c nL D A Q ws lv pc (.int y :: .int x :: st) := fun H locs ls hP hS hL => va_mmin C.1.1 C.1.2.1 (C.1.2.2.1.trans hL.1.symm) C.1.2.2.2.1 (C.1.2.2.2.2 _ m1) (C.1.2.2.2.2 _ mmS_min.1.1) (C.1.2.2.2.2 _ mmS_min.1.2) (C.1.2.2.2.2 _ mmS_min.2) hd1 (by simp only [zRm]; omega) (Nat.zero_le _) (Nat.zero_le _) hd (g H locs ls hP hS hL)
theorem z_max {p : Program} {l : Launch} {e : Env} {s : State} {m : MethodId} {args : Array Value} {below : List Frame} {meth : Method} {c : Code} {Q : State → Prop} {D : va_G} {tys : List (ClassId × FieldType)} {A : Nat → Prop} {cc : ByteArray} {nL : Nat} {own : String} {ws : va_W} {lv : List (Nat × Value)} {pc : Nat} {st : List Value} {E : zEt} {d index : Nat} {x y : Int32} (C : zC p s m args meth c cc nL own zTS D tys A E) (m1 : Cond.methodLink own index Lib.Math.max.name ∈ zTS) (hd1 : 1 ≤ d) (h8 : (st.map fun v => v.category).sum ≤ 8) (hd : decode cc pc = .ok (.invokestatic index, 3)) (g : zG p l e (zRm d) s m args below meth c nL D A Q ws lv (pc + 3) (.int (zmax x y) :: st)) : zG p l e (zRm d) s m args below meth c nL D A Q ws lv pc (.int y :: .int x :: st) := fun H locs ls hP hS hL => va_mmax C.1.1 C.1.2.1 (C.1.2.2.1.trans hL.1.symm) C.1.2.2.2.1 (C.1.2.2.2.2 _ m1) (C.1.2.2.2.2 _ mmS_max.1.1) (C.1.2.2.2.2 _ mmS_max.1.2) (C.1.2.2.2.2 _ mmS_max.2) hd1 (by simp only [zRm]; omega) (Nat.zero_le _) (Nat.zero_le _) hd (g H locs ls hP hS hL)
theorem z_abs {p : Program} {l : Launch} {e : Env} {s : State} {m : MethodId} {args : Array Value} {below : List Frame} {meth : Method} {c : Code} {Q : State → Prop} {D : va_G} {tys : List (ClassId × FieldType)} {A : Nat → Prop} {cc : ByteArray} {nL : Nat} {own : String} {ws : va_W} {lv : List (Nat × Value)} {pc : Nat} {st : List Value} {E : zEt} {d index : Nat} {x : Int32} (C : zC p s m args meth c cc nL own zTS D tys A E) (m1 : Cond.methodLink own index Lib.Math.abs.name ∈ zTS) (hd1 : 1 ≤ d) (h8 : (st.map fun v => v.category).sum ≤ 8) (hd : decode cc pc = .ok (.invokestatic index, 3)) (g : zG p l e (zRm d) s m args below meth c nL D A Q ws lv (pc + 3) (.int (zabs x) :: st)) : zG p l e (zRm d) s m args below meth c nL D A Q ws lv pc (.int x :: st) := fun H locs ls hP hS hL => va_mabs C.1.1 C.1.2.1 (C.1.2.2.1.trans hL.1.symm) C.1.2.2.2.1 (C.1.2.2.2.2 _ m1) (C.1.2.2.2.2 _ mmS_abs.1.1) (C.1.2.2.2.2 _ mmS_abs.1.2) (C.1.2.2.2.2 _ mmS_abs.2) hd1 (by simp only [zRm]; omega) (Nat.zero_le _) (Nat.zero_le _) hd (g H locs ls hP hS hL)
theorem z_gsK6 {p : Program} {l : Launch} {e : Env} {R : Room} {s : State} {m : MethodId} {args : Array Value} {below : List Frame} {meth : Method} {c : Code} {Q : State → Prop} {D : va_G} {tys : List (ClassId × FieldType)} {A : Nat → Prop} {cc : ByteArray} {nL : Nat}  {ws : va_W} {lv : List (Nat × Value)} {pc : Nat} {st : List Value} {tK tB : Nat} {kS vS : Nat → Nat} (C : zC p s m args meth c cc nL RX6 zTS D tys A (zE tK tB kS vS)) (hd : decode cc pc = .ok (.getstatic 21, 3)) (g : zG p l e R s m args below meth c nL D A Q ws lv (pc + 3) (.ref tK :: st)) : zG p l e R s m args below meth c nL D A Q ws lv pc st := fun H locs ls hP hS hL => va_getsN C.1.1 C.1.2.1 C.2.2.2.2.1.1 hS C.1.2.2.2.1 (va_Nw.use rfl (C.2.2.2.2.2.2.2.2.2.1 (RX6, 21) (List.mem_of_getElem? (i := 0) rfl))) (fun _ h => h) hd (g H locs ls hP hS hL)
theorem z_gsK0 {p : Program} {l : Launch} {e : Env} {R : Room} {s : State} {m : MethodId} {args : Array Value} {below : List Frame} {meth : Method} {c : Code} {Q : State → Prop} {D : va_G} {tys : List (ClassId × FieldType)} {A : Nat → Prop} {cc : ByteArray} {nL : Nat}  {ws : va_W} {lv : List (Nat × Value)} {pc : Nat} {st : List Value} {tK tB : Nat} {kS vS : Nat → Nat} (C : zC p s m args meth c cc nL RX0 zTS D tys A (zE tK tB kS vS)) (hd : decode cc pc = .ok (.getstatic 45, 3)) (g : zG p l e R s m args below meth c nL D A Q ws lv (pc + 3) (.ref tK :: st)) : zG p l e R s m args below meth c nL D A Q ws lv pc st := fun H locs ls hP hS hL => va_getsN C.1.1 C.1.2.1 C.2.2.2.2.1.1 hS C.1.2.2.2.1 (va_Nw.use rfl (C.2.2.2.2.2.2.2.2.2.1 (RX0, 45) (List.mem_of_getElem? (i := 1) rfl))) (fun _ h => h) hd (g H locs ls hP hS hL)
theorem z_gsB0 {p : Program} {l : Launch} {e : Env} {R : Room} {s : State} {m : MethodId} {args : Array Value} {below : List Frame} {meth : Method} {c : Code} {Q : State → Prop} {D : va_G} {tys : List (ClassId × FieldType)} {A : Nat → Prop} {cc : ByteArray} {nL : Nat}  {ws : va_W} {lv : List (Nat × Value)} {pc : Nat} {st : List Value} {tK tB : Nat} {kS vS : Nat → Nat} (C : zC p s m args meth c cc nL RX0 zTS D tys A (zE tK tB kS vS)) (hd : decode cc pc = .ok (.getstatic 48, 3)) (g : zG p l e R s m args below meth c nL D A Q ws lv (pc + 3) (.ref tB :: st)) : zG p l e R s m args below meth c nL D A Q ws lv pc st := fun H locs ls hP hS hL => va_gets C.1.1 C.1.2.1 C.2.2.2.2.2.1.1 hS C.1.2.2.2.1 (C.1.2.2.2.2 _ mfX0_48) (fun _ h => h) hd (g H locs ls hP hS hL)
theorem z_tldK {p : Program} {l : Launch} {e : Env} {R : Room} {s : State} {m : MethodId} {args : Array Value} {below : List Frame} {meth : Method} {c : Code} {Q : State → Prop} {D : va_G} {tys : List (ClassId × FieldType)} {A : Nat → Prop} {cc : ByteArray} {nL : Nat} {own : String} {ws : va_W} {lv : List (Nat × Value)} {pc : Nat} {st : List Value} {tK tB : Nat} {kS vS : Nat → Nat} {i : Int32} {β : Type} {k : Option β} {r : β} (C : zC p s m args meth c cc nL own zTS D tys A (zE tK tB kS vS)) (hm : zgi i 7 k = some r) (hd : decode cc pc = .ok (.iaload, 1)) (g : k = some r → zG p l e R s m args below meth c nL D A Q ws lv (pc + 1) (.int (zKA i.toNatClampNeg) :: st)) : zG p l e R s m args below meth c nL D A Q ws lv pc (.int i :: .ref tK :: st) := fun H locs ls hP hS hL => va_ti C.1.1 C.1.2.1 C.2.2.2.2.1.2 hS (zgi_some hm).1 rfl hd (g (zgi_some hm).2 H locs ls hP hS hL)
theorem z_tlenK {p : Program} {l : Launch} {e : Env} {R : Room} {s : State} {m : MethodId} {args : Array Value} {below : List Frame} {meth : Method} {c : Code} {Q : State → Prop} {D : va_G} {tys : List (ClassId × FieldType)} {A : Nat → Prop} {cc : ByteArray} {nL : Nat} {own : String} {ws : va_W} {lv : List (Nat × Value)} {pc : Nat} {st : List Value} {tK tB : Nat} {kS vS : Nat → Nat} (C : zC p s m args meth c cc nL own zTS D tys A (zE tK tB kS vS)) (hd : decode cc pc = .ok (.arraylength, 1)) (g : zG p l e R s m args below meth c nL D A Q ws lv (pc + 1) (.int (7 : Int32) :: st)) : zG p l e R s m args below meth c nL D A Q ws lv pc (.ref tK :: st) := fun H locs ls hP hS hL => va_tlen C.1.1 C.1.2.1 C.2.2.2.2.1.2 hS (show Int32.ofNat 7 = (7 : Int32) by decide) hd (g H locs ls hP hS hL)
theorem z_tldB {p : Program} {l : Launch} {e : Env} {R : Room} {s : State} {m : MethodId} {args : Array Value} {below : List Frame} {meth : Method} {c : Code} {Q : State → Prop} {D : va_G} {tys : List (ClassId × FieldType)} {A : Nat → Prop} {cc : ByteArray} {nL : Nat} {own : String} {ws : va_W} {lv : List (Nat × Value)} {pc : Nat} {st : List Value} {tK tB : Nat} {kS vS : Nat → Nat} {i : Int32} {β : Type} {k : Option β} {r : β} (C : zC p s m args meth c cc nL own zTS D tys A (zE tK tB kS vS)) (hm : zgi i 21 k = some r) (hd : decode cc pc = .ok (.iaload, 1)) (g : k = some r → zG p l e R s m args below meth c nL D A Q ws lv (pc + 1) (.int (zBO i.toNatClampNeg) :: st)) : zG p l e R s m args below meth c nL D A Q ws lv pc (.int i :: .ref tB :: st) := fun H locs ls hP hS hL => va_ti C.1.1 C.1.2.1 C.2.2.2.2.2.1.2 hS (zgi_some hm).1 rfl hd (g (zgi_some hm).2 H locs ls hP hS hL)
theorem z_tlenB {p : Program} {l : Launch} {e : Env} {R : Room} {s : State} {m : MethodId} {args : Array Value} {below : List Frame} {meth : Method} {c : Code} {Q : State → Prop} {D : va_G} {tys : List (ClassId × FieldType)} {A : Nat → Prop} {cc : ByteArray} {nL : Nat} {own : String} {ws : va_W} {lv : List (Nat × Value)} {pc : Nat} {st : List Value} {tK tB : Nat} {kS vS : Nat → Nat} (C : zC p s m args meth c cc nL own zTS D tys A (zE tK tB kS vS)) (hd : decode cc pc = .ok (.arraylength, 1)) (g : zG p l e R s m args below meth c nL D A Q ws lv (pc + 1) (.int (21 : Int32) :: st)) : zG p l e R s m args below meth c nL D A Q ws lv pc (.ref tB :: st) := fun H locs ls hP hS hL => va_tlen C.1.1 C.1.2.1 C.2.2.2.2.2.1.2 hS (show Int32.ofNat 21 = (21 : Int32) by decide) hd (g H locs ls hP hS hL)
theorem nestNw {args : Array Value} {s : State} {w : Cond} (ht : ∀ w ∈ zTS, w.before args s = true) (hw : w ∈ zTS) (h : w.onTables = true := by rfl) : va_Nw w s := va_tabs h rfl (ht w hw)
theorem cwX3_131 {R : Room} {s : State} {args : Array Value} {rm : Room} (ht : ∀ w ∈ zTS, w.before args s = true) (hnw : va_Nw (.methodLinkNest RX3 131 yX1_testStep "FarVoice") s) (hc : rm.cells = 0) (hs : rm.slots = 0) (hR : rm.frames + 1 ≤ R.frames ∧ 8 + (3 + 11) + rm.locals ≤ R.locals) : va_CN R s args RX3 131 yX1_testStep "FarVoice" cX1_testStep 3 (some .int) (zWs yX1_testStep cX1_testStep 3 (some .int)) rm 0 0 3 ∧ (Cond.static yX1_testStep).before args s = true ∧ True := ⟨va_cnB 3 ht (zGoodIn (zMem 564 (by decide +kernel) rfl)) rfl hc hs hnw (ht _ (zMem 96 (by decide +kernel) rfl)) (by decide +kernel) hR, ht _ (zMem 563 (by decide +kernel) rfl), trivial⟩
theorem cwX6_38 {R : Room} {s : State} {args : Array Value} {rm : Room} (ht : ∀ w ∈ zTS, w.before args s = true) (hnw : va_Nw (.methodLinkNest RX6 38 yX7_later "FarVoice") s) (hc : rm.cells = 0) (hs : rm.slots = 0) (hR : rm.frames + 1 ≤ R.frames ∧ 8 + (3 + 11) + rm.locals ≤ R.locals) : va_CN R s args RX6 38 yX7_later "FarVoice" cX7_later 3 (some .long) (zWs yX7_later cX7_later 3 (some .long)) rm 0 0 2 ∧ (Cond.static yX7_later).before args s = true ∧ True := ⟨va_cnB 2 ht (zGoodIn (zMem 693 (by decide +kernel) rfl)) rfl hc hs hnw (ht _ (zMem 91 (by decide +kernel) rfl)) (by decide +kernel) hR, ht _ (zMem 692 (by decide +kernel) rfl), trivial⟩
abbrev SN : Type := Unit
def wN (_ : Nat → ClassId) (_ : Nat → Nat) (_ : SN) : va_W := []
abbrev SF : Type := Nat → Int32
def F_facts (u : SF) : Nat → Int32 := u
def F_set_facts (v : Nat → Int32) (u : SF) : SF := v
def wF (cA : Nat → ClassId) (ad : Nat → Nat) (u : SF) : va_W := [(ad 0, .inl (cA 0, 5, .inl (F_facts u)))]
theorem wF_fst (cA : Nat → ClassId) (ad : Nat → Nat) (u : SF) : (wF cA ad u).map Prod.fst = (List.range 1).map ad := rfl
theorem wF_D {ad : Nat → Nat} (hI : zInj ad 1) (cA : Nat → ClassId) (u : SF) : va_D (zAd ad 1) (wF cA ad u) := zD_of hI (wF_fst cA ad u)
theorem heF_facts (cA : Nat → ClassId) (ad : Nat → Nat) (u : SF) : (wF cA ad u)[0]? = some (ad 0, .inl (cA 0, 5, .inl (F_facts u))) := rfl
theorem zuF {p : Program} {l : Launch} {e : Env} {R : Room} {s : State} {m : MethodId} {args : Array Value} {below : List Frame} {meth : Method} {c : Code} {Q : State → Prop} {D : va_G} {A : Nat → Prop} {nL : Nat} {lv : List (Nat × Value)} {pc : Nat} {st : List Value} {cA : Nat → ClassId} {ad : Nat → Nat}  {u u2 : SF} (h : u = u2) (g : zG p l e R s m args below meth c nL D A Q (wF cA ad u2) lv pc st) : zG p l e R s m args below meth c nL D A Q (wF cA ad u) lv pc st := h ▸ g
theorem riF {p : Program} {l : Launch} {e : Env} {R : Room} {s : State} {m : MethodId} {args : Array Value} {below : List Frame} {meth : Method} {c : Code} {D : va_G} {A : Nat → Prop} {cc : ByteArray} {nL : Nat} {lv : List (Nat × Value)} {pc : Nat} {cA : Nat → ClassId} {ad : Nat → Nat} {E : zEt} {own : String} {u : SF} {v r : Int32} {ty : FieldType} {β : Type} {w w' : β} {fin : β → SF} (C : zC p s m args meth c cc nL own zTS D (zTy cA) A E) (hr : meth.sig.returnType = some ty) (hn : narrow ty (.int v) = .int v) (hd : decode cc pc = .ok (.ireturn, 1)) (hm : some (v, w) = some (r, w')) (hu : u = fin w) : zG p l e R s m args below meth c nL D A (MQ below (zQi r (zBw D (wF cA ad (fin w'))) A) args s 0 0 A) (wF cA ad u) lv pc [.int v] := by
  obtain ⟨rfl, rfl⟩ := Prod.mk.inj (Option.some.inj hm)
  exact z_iret C hr hn hd (fun _ h => hu ▸ h) rfl
theorem rlF {p : Program} {l : Launch} {e : Env} {R : Room} {s : State} {m : MethodId} {args : Array Value} {below : List Frame} {meth : Method} {c : Code} {D : va_G} {A : Nat → Prop} {cc : ByteArray} {nL : Nat} {lv : List (Nat × Value)} {pc : Nat} {cA : Nat → ClassId} {ad : Nat → Nat} {E : zEt} {own : String} {u : SF} {v r : Int64} {β : Type} {w w' : β} {fin : β → SF} (C : zC p s m args meth c cc nL own zTS D (zTy cA) A E) (hr : meth.sig.returnType = some .long) (hd : decode cc pc = .ok (.lreturn, 1)) (hm : some (v, w) = some (r, w')) (hu : u = fin w) : zG p l e R s m args below meth c nL D A (MQ below (zQl r (zBw D (wF cA ad (fin w'))) A) args s 0 0 A) (wF cA ad u) lv pc [.long v] := by
  obtain ⟨rfl, rfl⟩ := Prod.mk.inj (Option.some.inj hm)
  exact z_lret C hr hd (fun _ h => hu ▸ h) rfl
theorem rvF {p : Program} {l : Launch} {e : Env} {R : Room} {s : State} {m : MethodId} {args : Array Value} {below : List Frame} {meth : Method} {c : Code} {D : va_G} {A : Nat → Prop} {cc : ByteArray} {nL : Nat} {lv : List (Nat × Value)} {pc : Nat} {cA : Nat → ClassId} {ad : Nat → Nat} {E : zEt} {own : String} {u : SF} {β : Type} {w w' : β} {fin : β → SF} (C : zC p s m args meth c cc nL own zTS D (zTy cA) A E) (hr : meth.sig.returnType = none) (hd : decode cc pc = .ok (.return_, 1)) (hm : some w = some w') (hu : u = fin w) : zG p l e R s m args below meth c nL D A (MQ below (zQv (zBw D (wF cA ad (fin w'))) A) args s 0 0 A) (wF cA ad u) lv pc [] := by
  obtain rfl := Option.some.inj hm
  exact z_vret C hr hd (fun _ h => hu ▸ h)
abbrev SH : Type := ((Int32 × Int32) × (Int32 × (Nat → Int32))) × (((Nat → Int32) × (Nat → Int32)) × ((Nat → Int32) × ((Nat → Int32) × (Nat → Int32))))
def H_late (u : SH) : Int32 := u.1.1.1
def H_clauses (u : SH) : Int32 := u.1.1.2
def H_stepCount (u : SH) : Int32 := u.1.2.1
def H_sounds (u : SH) : Nat → Int32 := u.1.2.2
def H_swaps (u : SH) : Nat → Int32 := u.2.1.1
def H_senses (u : SH) : Nat → Int32 := u.2.1.2
def H_amounts (u : SH) : Nat → Int32 := u.2.2.1
def H_ends (u : SH) : Nat → Int32 := u.2.2.2.1
def H_steps (u : SH) : Nat → Int32 := u.2.2.2.2
def H_set_late (v : Int32) (u : SH) : SH := (((v, u.1.1.2), u.1.2), u.2)
def H_set_clauses (v : Int32) (u : SH) : SH := (((u.1.1.1, v), u.1.2), u.2)
def H_set_stepCount (v : Int32) (u : SH) : SH := ((u.1.1, (v, u.1.2.2)), u.2)
def H_set_sounds (v : Nat → Int32) (u : SH) : SH := ((u.1.1, (u.1.2.1, v)), u.2)
def H_set_swaps (v : Nat → Int32) (u : SH) : SH := (u.1, ((v, u.2.1.2), u.2.2))
def H_set_senses (v : Nat → Int32) (u : SH) : SH := (u.1, ((u.2.1.1, v), u.2.2))
def H_set_amounts (v : Nat → Int32) (u : SH) : SH := (u.1, (u.2.1, (v, u.2.2.2)))
def H_set_ends (v : Nat → Int32) (u : SH) : SH := (u.1, (u.2.1, (u.2.2.1, (v, u.2.2.2.2))))
def H_set_steps (v : Nat → Int32) (u : SH) : SH := (u.1, (u.2.1, (u.2.2.1, (u.2.2.2.1, v))))
def fH_o (ad : Nat → Nat) (u : SH) : List Value := [.ref (ad 1), .ref (ad 2), .int (H_late u), .ref (ad 3), .ref (ad 4), .ref (ad 5), .int (H_clauses u), .ref (ad 6), .int (H_stepCount u)]
def wH (cA : Nat → ClassId) (ad : Nat → Nat) (u : SH) : va_W := [(ad 0, .inr (1, fH_o ad u)), (ad 1, .inl (cA 0, 20, .inl (H_sounds u))), (ad 2, .inl (cA 0, 10, .inl (H_swaps u))), (ad 3, .inl (cA 0, 10, .inl (H_senses u))), (ad 4, .inl (cA 0, 10, .inl (H_amounts u))), (ad 5, .inl (cA 0, 10, .inl (H_ends u))), (ad 6, .inl (cA 0, 100, .inl (H_steps u)))]
theorem wH_fst (cA : Nat → ClassId) (ad : Nat → Nat) (u : SH) : (wH cA ad u).map Prod.fst = (List.range 7).map ad := rfl
theorem wH_D {ad : Nat → Nat} (hI : zInj ad 7) (cA : Nat → ClassId) (u : SH) : va_D (zAd ad 7) (wH cA ad u) := zD_of hI (wH_fst cA ad u)
theorem heH_o (cA : Nat → ClassId) (ad : Nat → Nat) (u : SH) : (wH cA ad u)[0]? = some (ad 0, .inr (1, fH_o ad u)) := rfl
theorem heH_sounds (cA : Nat → ClassId) (ad : Nat → Nat) (u : SH) : (wH cA ad u)[1]? = some (ad 1, .inl (cA 0, 20, .inl (H_sounds u))) := rfl
theorem heH_swaps (cA : Nat → ClassId) (ad : Nat → Nat) (u : SH) : (wH cA ad u)[2]? = some (ad 2, .inl (cA 0, 10, .inl (H_swaps u))) := rfl
theorem heH_senses (cA : Nat → ClassId) (ad : Nat → Nat) (u : SH) : (wH cA ad u)[3]? = some (ad 3, .inl (cA 0, 10, .inl (H_senses u))) := rfl
theorem heH_amounts (cA : Nat → ClassId) (ad : Nat → Nat) (u : SH) : (wH cA ad u)[4]? = some (ad 4, .inl (cA 0, 10, .inl (H_amounts u))) := rfl
theorem heH_ends (cA : Nat → ClassId) (ad : Nat → Nat) (u : SH) : (wH cA ad u)[5]? = some (ad 5, .inl (cA 0, 10, .inl (H_ends u))) := rfl
theorem heH_steps (cA : Nat → ClassId) (ad : Nat → Nat) (u : SH) : (wH cA ad u)[6]? = some (ad 6, .inl (cA 0, 100, .inl (H_steps u))) := rfl
theorem zuH {p : Program} {l : Launch} {e : Env} {R : Room} {s : State} {m : MethodId} {args : Array Value} {below : List Frame} {meth : Method} {c : Code} {Q : State → Prop} {D : va_G} {A : Nat → Prop} {nL : Nat} {lv : List (Nat × Value)} {pc : Nat} {st : List Value} {cA : Nat → ClassId} {ad : Nat → Nat}  {u u2 : SH} (h : u = u2) (g : zG p l e R s m args below meth c nL D A Q (wH cA ad u2) lv pc st) : zG p l e R s m args below meth c nL D A Q (wH cA ad u) lv pc st := h ▸ g
theorem riH {p : Program} {l : Launch} {e : Env} {R : Room} {s : State} {m : MethodId} {args : Array Value} {below : List Frame} {meth : Method} {c : Code} {D : va_G} {A : Nat → Prop} {cc : ByteArray} {nL : Nat} {lv : List (Nat × Value)} {pc : Nat} {cA : Nat → ClassId} {ad : Nat → Nat} {E : zEt} {own : String} {u : SH} {v r : Int32} {ty : FieldType} {β : Type} {w w' : β} {fin : β → SH} (C : zC p s m args meth c cc nL own zTS D (zTy cA) A E) (hr : meth.sig.returnType = some ty) (hn : narrow ty (.int v) = .int v) (hd : decode cc pc = .ok (.ireturn, 1)) (hm : some (v, w) = some (r, w')) (hu : u = fin w) : zG p l e R s m args below meth c nL D A (MQ below (zQi r (zBw D (wH cA ad (fin w'))) A) args s 0 0 A) (wH cA ad u) lv pc [.int v] := by
  obtain ⟨rfl, rfl⟩ := Prod.mk.inj (Option.some.inj hm)
  exact z_iret C hr hn hd (fun _ h => hu ▸ h) rfl
theorem rlH {p : Program} {l : Launch} {e : Env} {R : Room} {s : State} {m : MethodId} {args : Array Value} {below : List Frame} {meth : Method} {c : Code} {D : va_G} {A : Nat → Prop} {cc : ByteArray} {nL : Nat} {lv : List (Nat × Value)} {pc : Nat} {cA : Nat → ClassId} {ad : Nat → Nat} {E : zEt} {own : String} {u : SH} {v r : Int64} {β : Type} {w w' : β} {fin : β → SH} (C : zC p s m args meth c cc nL own zTS D (zTy cA) A E) (hr : meth.sig.returnType = some .long) (hd : decode cc pc = .ok (.lreturn, 1)) (hm : some (v, w) = some (r, w')) (hu : u = fin w) : zG p l e R s m args below meth c nL D A (MQ below (zQl r (zBw D (wH cA ad (fin w'))) A) args s 0 0 A) (wH cA ad u) lv pc [.long v] := by
  obtain ⟨rfl, rfl⟩ := Prod.mk.inj (Option.some.inj hm)
  exact z_lret C hr hd (fun _ h => hu ▸ h) rfl
theorem rvH {p : Program} {l : Launch} {e : Env} {R : Room} {s : State} {m : MethodId} {args : Array Value} {below : List Frame} {meth : Method} {c : Code} {D : va_G} {A : Nat → Prop} {cc : ByteArray} {nL : Nat} {lv : List (Nat × Value)} {pc : Nat} {cA : Nat → ClassId} {ad : Nat → Nat} {E : zEt} {own : String} {u : SH} {β : Type} {w w' : β} {fin : β → SH} (C : zC p s m args meth c cc nL own zTS D (zTy cA) A E) (hr : meth.sig.returnType = none) (hd : decode cc pc = .ok (.return_, 1)) (hm : some w = some w') (hu : u = fin w) : zG p l e R s m args below meth c nL D A (MQ below (zQv (zBw D (wH cA ad (fin w'))) A) args s 0 0 A) (wH cA ad u) lv pc [] := by
  obtain rfl := Option.some.inj hm
  exact z_vret C hr hd (fun _ h => hu ▸ h)
abbrev SHF : Type := ((Int32 × Int32) × (Int32 × ((Nat → Int32) × (Nat → Int32)))) × (((Nat → Int32) × (Nat → Int32)) × ((Nat → Int32) × ((Nat → Int32) × (Nat → Int32))))
def HF_late (u : SHF) : Int32 := u.1.1.1
def HF_clauses (u : SHF) : Int32 := u.1.1.2
def HF_stepCount (u : SHF) : Int32 := u.1.2.1
def HF_sounds (u : SHF) : Nat → Int32 := u.1.2.2.1
def HF_swaps (u : SHF) : Nat → Int32 := u.1.2.2.2
def HF_senses (u : SHF) : Nat → Int32 := u.2.1.1
def HF_amounts (u : SHF) : Nat → Int32 := u.2.1.2
def HF_ends (u : SHF) : Nat → Int32 := u.2.2.1
def HF_steps (u : SHF) : Nat → Int32 := u.2.2.2.1
def HF_facts (u : SHF) : Nat → Int32 := u.2.2.2.2
def HF_set_late (v : Int32) (u : SHF) : SHF := (((v, u.1.1.2), u.1.2), u.2)
def HF_set_clauses (v : Int32) (u : SHF) : SHF := (((u.1.1.1, v), u.1.2), u.2)
def HF_set_stepCount (v : Int32) (u : SHF) : SHF := ((u.1.1, (v, u.1.2.2)), u.2)
def HF_set_sounds (v : Nat → Int32) (u : SHF) : SHF := ((u.1.1, (u.1.2.1, (v, u.1.2.2.2))), u.2)
def HF_set_swaps (v : Nat → Int32) (u : SHF) : SHF := ((u.1.1, (u.1.2.1, (u.1.2.2.1, v))), u.2)
def HF_set_senses (v : Nat → Int32) (u : SHF) : SHF := (u.1, ((v, u.2.1.2), u.2.2))
def HF_set_amounts (v : Nat → Int32) (u : SHF) : SHF := (u.1, ((u.2.1.1, v), u.2.2))
def HF_set_ends (v : Nat → Int32) (u : SHF) : SHF := (u.1, (u.2.1, (v, u.2.2.2)))
def HF_set_steps (v : Nat → Int32) (u : SHF) : SHF := (u.1, (u.2.1, (u.2.2.1, (v, u.2.2.2.2))))
def HF_set_facts (v : Nat → Int32) (u : SHF) : SHF := (u.1, (u.2.1, (u.2.2.1, (u.2.2.2.1, v))))
def fHF_o (ad : Nat → Nat) (u : SHF) : List Value := [.ref (ad 1), .ref (ad 2), .int (HF_late u), .ref (ad 3), .ref (ad 4), .ref (ad 5), .int (HF_clauses u), .ref (ad 6), .int (HF_stepCount u)]
def wHF (cA : Nat → ClassId) (ad : Nat → Nat) (u : SHF) : va_W := [(ad 0, .inr (1, fHF_o ad u)), (ad 1, .inl (cA 0, 20, .inl (HF_sounds u))), (ad 2, .inl (cA 0, 10, .inl (HF_swaps u))), (ad 3, .inl (cA 0, 10, .inl (HF_senses u))), (ad 4, .inl (cA 0, 10, .inl (HF_amounts u))), (ad 5, .inl (cA 0, 10, .inl (HF_ends u))), (ad 6, .inl (cA 0, 100, .inl (HF_steps u))), (ad 7, .inl (cA 0, 5, .inl (HF_facts u)))]
theorem wHF_fst (cA : Nat → ClassId) (ad : Nat → Nat) (u : SHF) : (wHF cA ad u).map Prod.fst = (List.range 8).map ad := rfl
theorem wHF_D {ad : Nat → Nat} (hI : zInj ad 8) (cA : Nat → ClassId) (u : SHF) : va_D (zAd ad 8) (wHF cA ad u) := zD_of hI (wHF_fst cA ad u)
theorem heHF_o (cA : Nat → ClassId) (ad : Nat → Nat) (u : SHF) : (wHF cA ad u)[0]? = some (ad 0, .inr (1, fHF_o ad u)) := rfl
theorem heHF_sounds (cA : Nat → ClassId) (ad : Nat → Nat) (u : SHF) : (wHF cA ad u)[1]? = some (ad 1, .inl (cA 0, 20, .inl (HF_sounds u))) := rfl
theorem heHF_swaps (cA : Nat → ClassId) (ad : Nat → Nat) (u : SHF) : (wHF cA ad u)[2]? = some (ad 2, .inl (cA 0, 10, .inl (HF_swaps u))) := rfl
theorem heHF_senses (cA : Nat → ClassId) (ad : Nat → Nat) (u : SHF) : (wHF cA ad u)[3]? = some (ad 3, .inl (cA 0, 10, .inl (HF_senses u))) := rfl
theorem heHF_amounts (cA : Nat → ClassId) (ad : Nat → Nat) (u : SHF) : (wHF cA ad u)[4]? = some (ad 4, .inl (cA 0, 10, .inl (HF_amounts u))) := rfl
theorem heHF_ends (cA : Nat → ClassId) (ad : Nat → Nat) (u : SHF) : (wHF cA ad u)[5]? = some (ad 5, .inl (cA 0, 10, .inl (HF_ends u))) := rfl
theorem heHF_steps (cA : Nat → ClassId) (ad : Nat → Nat) (u : SHF) : (wHF cA ad u)[6]? = some (ad 6, .inl (cA 0, 100, .inl (HF_steps u))) := rfl
theorem heHF_facts (cA : Nat → ClassId) (ad : Nat → Nat) (u : SHF) : (wHF cA ad u)[7]? = some (ad 7, .inl (cA 0, 5, .inl (HF_facts u))) := rfl
theorem zuHF {p : Program} {l : Launch} {e : Env} {R : Room} {s : State} {m : MethodId} {args : Array Value} {below : List Frame} {meth : Method} {c : Code} {Q : State → Prop} {D : va_G} {A : Nat → Prop} {nL : Nat} {lv : List (Nat × Value)} {pc : Nat} {st : List Value} {cA : Nat → ClassId} {ad : Nat → Nat}  {u u2 : SHF} (h : u = u2) (g : zG p l e R s m args below meth c nL D A Q (wHF cA ad u2) lv pc st) : zG p l e R s m args below meth c nL D A Q (wHF cA ad u) lv pc st := h ▸ g
theorem riHF {p : Program} {l : Launch} {e : Env} {R : Room} {s : State} {m : MethodId} {args : Array Value} {below : List Frame} {meth : Method} {c : Code} {D : va_G} {A : Nat → Prop} {cc : ByteArray} {nL : Nat} {lv : List (Nat × Value)} {pc : Nat} {cA : Nat → ClassId} {ad : Nat → Nat} {E : zEt} {own : String} {u : SHF} {v r : Int32} {ty : FieldType} {β : Type} {w w' : β} {fin : β → SHF} (C : zC p s m args meth c cc nL own zTS D (zTy cA) A E) (hr : meth.sig.returnType = some ty) (hn : narrow ty (.int v) = .int v) (hd : decode cc pc = .ok (.ireturn, 1)) (hm : some (v, w) = some (r, w')) (hu : u = fin w) : zG p l e R s m args below meth c nL D A (MQ below (zQi r (zBw D (wHF cA ad (fin w'))) A) args s 0 0 A) (wHF cA ad u) lv pc [.int v] := by
  obtain ⟨rfl, rfl⟩ := Prod.mk.inj (Option.some.inj hm)
  exact z_iret C hr hn hd (fun _ h => hu ▸ h) rfl
theorem rlHF {p : Program} {l : Launch} {e : Env} {R : Room} {s : State} {m : MethodId} {args : Array Value} {below : List Frame} {meth : Method} {c : Code} {D : va_G} {A : Nat → Prop} {cc : ByteArray} {nL : Nat} {lv : List (Nat × Value)} {pc : Nat} {cA : Nat → ClassId} {ad : Nat → Nat} {E : zEt} {own : String} {u : SHF} {v r : Int64} {β : Type} {w w' : β} {fin : β → SHF} (C : zC p s m args meth c cc nL own zTS D (zTy cA) A E) (hr : meth.sig.returnType = some .long) (hd : decode cc pc = .ok (.lreturn, 1)) (hm : some (v, w) = some (r, w')) (hu : u = fin w) : zG p l e R s m args below meth c nL D A (MQ below (zQl r (zBw D (wHF cA ad (fin w'))) A) args s 0 0 A) (wHF cA ad u) lv pc [.long v] := by
  obtain ⟨rfl, rfl⟩ := Prod.mk.inj (Option.some.inj hm)
  exact z_lret C hr hd (fun _ h => hu ▸ h) rfl
theorem rvHF {p : Program} {l : Launch} {e : Env} {R : Room} {s : State} {m : MethodId} {args : Array Value} {below : List Frame} {meth : Method} {c : Code} {D : va_G} {A : Nat → Prop} {cc : ByteArray} {nL : Nat} {lv : List (Nat × Value)} {pc : Nat} {cA : Nat → ClassId} {ad : Nat → Nat} {E : zEt} {own : String} {u : SHF} {β : Type} {w w' : β} {fin : β → SHF} (C : zC p s m args meth c cc nL own zTS D (zTy cA) A E) (hr : meth.sig.returnType = none) (hd : decode cc pc = .ok (.return_, 1)) (hm : some w = some w') (hu : u = fin w) : zG p l e R s m args below meth c nL D A (MQ below (zQv (zBw D (wHF cA ad (fin w'))) A) args s 0 0 A) (wHF cA ad u) lv pc [] := by
  obtain rfl := Option.some.inj hm
  exact z_vret C hr hd (fun _ h => hu ▸ h)
abbrev SK : Type := ((Int32 × Int32) × (Int32 × Int32)) × ((Int32 × Int32) × (Int32 × (Nat → Int32)))
def K_ear (u : SK) : Int32 := u.1.1.1
def K_eye (u : SK) : Int32 := u.1.1.2
def K_sounds (u : SK) : Int32 := u.1.2.1
def K_inReach (u : SK) : Int32 := u.1.2.2
def K_joined (u : SK) : Int32 := u.2.1.1
def K_held (u : SK) : Int32 := u.2.1.2
def K_caught (u : SK) : Int32 := u.2.2.1
def K_facts (u : SK) : Nat → Int32 := u.2.2.2
def K_set_ear (v : Int32) (u : SK) : SK := (((v, u.1.1.2), u.1.2), u.2)
def K_set_eye (v : Int32) (u : SK) : SK := (((u.1.1.1, v), u.1.2), u.2)
def K_set_sounds (v : Int32) (u : SK) : SK := ((u.1.1, (v, u.1.2.2)), u.2)
def K_set_inReach (v : Int32) (u : SK) : SK := ((u.1.1, (u.1.2.1, v)), u.2)
def K_set_joined (v : Int32) (u : SK) : SK := (u.1, ((v, u.2.1.2), u.2.2))
def K_set_held (v : Int32) (u : SK) : SK := (u.1, ((u.2.1.1, v), u.2.2))
def K_set_caught (v : Int32) (u : SK) : SK := (u.1, (u.2.1, (v, u.2.2.2)))
def K_set_facts (v : Nat → Int32) (u : SK) : SK := (u.1, (u.2.1, (u.2.2.1, v)))
def fK_o (ad : Nat → Nat) (u : SK) : List Value := [.ref (ad 1), .int (K_ear u), .int (K_eye u), .int (K_sounds u), .int (K_inReach u), .int (K_joined u), .int (K_held u), .int (K_caught u)]
def wK (cA : Nat → ClassId) (ad : Nat → Nat) (u : SK) : va_W := [(ad 0, .inr (2, fK_o ad u)), (ad 1, .inl (cA 0, 5, .inl (K_facts u)))]
theorem wK_fst (cA : Nat → ClassId) (ad : Nat → Nat) (u : SK) : (wK cA ad u).map Prod.fst = (List.range 2).map ad := rfl
theorem wK_D {ad : Nat → Nat} (hI : zInj ad 2) (cA : Nat → ClassId) (u : SK) : va_D (zAd ad 2) (wK cA ad u) := zD_of hI (wK_fst cA ad u)
theorem heK_o (cA : Nat → ClassId) (ad : Nat → Nat) (u : SK) : (wK cA ad u)[0]? = some (ad 0, .inr (2, fK_o ad u)) := rfl
theorem heK_facts (cA : Nat → ClassId) (ad : Nat → Nat) (u : SK) : (wK cA ad u)[1]? = some (ad 1, .inl (cA 0, 5, .inl (K_facts u))) := rfl
theorem zuK {p : Program} {l : Launch} {e : Env} {R : Room} {s : State} {m : MethodId} {args : Array Value} {below : List Frame} {meth : Method} {c : Code} {Q : State → Prop} {D : va_G} {A : Nat → Prop} {nL : Nat} {lv : List (Nat × Value)} {pc : Nat} {st : List Value} {cA : Nat → ClassId} {ad : Nat → Nat}  {u u2 : SK} (h : u = u2) (g : zG p l e R s m args below meth c nL D A Q (wK cA ad u2) lv pc st) : zG p l e R s m args below meth c nL D A Q (wK cA ad u) lv pc st := h ▸ g
theorem riK {p : Program} {l : Launch} {e : Env} {R : Room} {s : State} {m : MethodId} {args : Array Value} {below : List Frame} {meth : Method} {c : Code} {D : va_G} {A : Nat → Prop} {cc : ByteArray} {nL : Nat} {lv : List (Nat × Value)} {pc : Nat} {cA : Nat → ClassId} {ad : Nat → Nat} {E : zEt} {own : String} {u : SK} {v r : Int32} {ty : FieldType} {β : Type} {w w' : β} {fin : β → SK} (C : zC p s m args meth c cc nL own zTS D (zTy cA) A E) (hr : meth.sig.returnType = some ty) (hn : narrow ty (.int v) = .int v) (hd : decode cc pc = .ok (.ireturn, 1)) (hm : some (v, w) = some (r, w')) (hu : u = fin w) : zG p l e R s m args below meth c nL D A (MQ below (zQi r (zBw D (wK cA ad (fin w'))) A) args s 0 0 A) (wK cA ad u) lv pc [.int v] := by
  obtain ⟨rfl, rfl⟩ := Prod.mk.inj (Option.some.inj hm)
  exact z_iret C hr hn hd (fun _ h => hu ▸ h) rfl
theorem rlK {p : Program} {l : Launch} {e : Env} {R : Room} {s : State} {m : MethodId} {args : Array Value} {below : List Frame} {meth : Method} {c : Code} {D : va_G} {A : Nat → Prop} {cc : ByteArray} {nL : Nat} {lv : List (Nat × Value)} {pc : Nat} {cA : Nat → ClassId} {ad : Nat → Nat} {E : zEt} {own : String} {u : SK} {v r : Int64} {β : Type} {w w' : β} {fin : β → SK} (C : zC p s m args meth c cc nL own zTS D (zTy cA) A E) (hr : meth.sig.returnType = some .long) (hd : decode cc pc = .ok (.lreturn, 1)) (hm : some (v, w) = some (r, w')) (hu : u = fin w) : zG p l e R s m args below meth c nL D A (MQ below (zQl r (zBw D (wK cA ad (fin w'))) A) args s 0 0 A) (wK cA ad u) lv pc [.long v] := by
  obtain ⟨rfl, rfl⟩ := Prod.mk.inj (Option.some.inj hm)
  exact z_lret C hr hd (fun _ h => hu ▸ h) rfl
theorem rvK {p : Program} {l : Launch} {e : Env} {R : Room} {s : State} {m : MethodId} {args : Array Value} {below : List Frame} {meth : Method} {c : Code} {D : va_G} {A : Nat → Prop} {cc : ByteArray} {nL : Nat} {lv : List (Nat × Value)} {pc : Nat} {cA : Nat → ClassId} {ad : Nat → Nat} {E : zEt} {own : String} {u : SK} {β : Type} {w w' : β} {fin : β → SK} (C : zC p s m args meth c cc nL own zTS D (zTy cA) A E) (hr : meth.sig.returnType = none) (hd : decode cc pc = .ok (.return_, 1)) (hm : some w = some w') (hu : u = fin w) : zG p l e R s m args below meth c nL D A (MQ below (zQv (zBw D (wK cA ad (fin w'))) A) args s 0 0 A) (wK cA ad u) lv pc [] := by
  obtain rfl := Option.some.inj hm
  exact z_vret C hr hd (fun _ h => hu ▸ h)
abbrev SS : Type := (Int32 × (Int32 × Int64)) × ((Int32 × Int32) × (Int32 × (Nat → Int32)))
def S_mouth (u : SS) : Int32 := u.1.1
def S_jaw (u : SS) : Int32 := u.1.2.1
def S_moving (u : SS) : Int64 := u.1.2.2
def S_letters (u : SS) : Int32 := u.2.1.1
def S_slips (u : SS) : Int32 := u.2.1.2
def S_house (u : SS) : Int32 := u.2.2.1
def S_words (u : SS) : Nat → Int32 := u.2.2.2
def S_set_mouth (v : Int32) (u : SS) : SS := ((v, u.1.2), u.2)
def S_set_jaw (v : Int32) (u : SS) : SS := ((u.1.1, (v, u.1.2.2)), u.2)
def S_set_moving (v : Int64) (u : SS) : SS := ((u.1.1, (u.1.2.1, v)), u.2)
def S_set_letters (v : Int32) (u : SS) : SS := (u.1, ((v, u.2.1.2), u.2.2))
def S_set_slips (v : Int32) (u : SS) : SS := (u.1, ((u.2.1.1, v), u.2.2))
def S_set_house (v : Int32) (u : SS) : SS := (u.1, (u.2.1, (v, u.2.2.2)))
def S_set_words (v : Nat → Int32) (u : SS) : SS := (u.1, (u.2.1, (u.2.2.1, v)))
def fS_o (ad : Nat → Nat) (u : SS) : List Value := [.int (S_mouth u), .int (S_jaw u), .long (S_moving u), .ref (ad 1), .int (S_letters u), .int (S_slips u), .int (S_house u)]
def wS (cA : Nat → ClassId) (ad : Nat → Nat) (u : SS) : va_W := [(ad 0, .inr (4, fS_o ad u)), (ad 1, .inl (cA 0, 20, .inl (S_words u)))]
theorem wS_fst (cA : Nat → ClassId) (ad : Nat → Nat) (u : SS) : (wS cA ad u).map Prod.fst = (List.range 2).map ad := rfl
theorem wS_D {ad : Nat → Nat} (hI : zInj ad 2) (cA : Nat → ClassId) (u : SS) : va_D (zAd ad 2) (wS cA ad u) := zD_of hI (wS_fst cA ad u)
theorem heS_o (cA : Nat → ClassId) (ad : Nat → Nat) (u : SS) : (wS cA ad u)[0]? = some (ad 0, .inr (4, fS_o ad u)) := rfl
theorem heS_words (cA : Nat → ClassId) (ad : Nat → Nat) (u : SS) : (wS cA ad u)[1]? = some (ad 1, .inl (cA 0, 20, .inl (S_words u))) := rfl
theorem zuS {p : Program} {l : Launch} {e : Env} {R : Room} {s : State} {m : MethodId} {args : Array Value} {below : List Frame} {meth : Method} {c : Code} {Q : State → Prop} {D : va_G} {A : Nat → Prop} {nL : Nat} {lv : List (Nat × Value)} {pc : Nat} {st : List Value} {cA : Nat → ClassId} {ad : Nat → Nat}  {u u2 : SS} (h : u = u2) (g : zG p l e R s m args below meth c nL D A Q (wS cA ad u2) lv pc st) : zG p l e R s m args below meth c nL D A Q (wS cA ad u) lv pc st := h ▸ g
theorem riS {p : Program} {l : Launch} {e : Env} {R : Room} {s : State} {m : MethodId} {args : Array Value} {below : List Frame} {meth : Method} {c : Code} {D : va_G} {A : Nat → Prop} {cc : ByteArray} {nL : Nat} {lv : List (Nat × Value)} {pc : Nat} {cA : Nat → ClassId} {ad : Nat → Nat} {E : zEt} {own : String} {u : SS} {v r : Int32} {ty : FieldType} {β : Type} {w w' : β} {fin : β → SS} (C : zC p s m args meth c cc nL own zTS D (zTy cA) A E) (hr : meth.sig.returnType = some ty) (hn : narrow ty (.int v) = .int v) (hd : decode cc pc = .ok (.ireturn, 1)) (hm : some (v, w) = some (r, w')) (hu : u = fin w) : zG p l e R s m args below meth c nL D A (MQ below (zQi r (zBw D (wS cA ad (fin w'))) A) args s 0 0 A) (wS cA ad u) lv pc [.int v] := by
  obtain ⟨rfl, rfl⟩ := Prod.mk.inj (Option.some.inj hm)
  exact z_iret C hr hn hd (fun _ h => hu ▸ h) rfl
theorem rlS {p : Program} {l : Launch} {e : Env} {R : Room} {s : State} {m : MethodId} {args : Array Value} {below : List Frame} {meth : Method} {c : Code} {D : va_G} {A : Nat → Prop} {cc : ByteArray} {nL : Nat} {lv : List (Nat × Value)} {pc : Nat} {cA : Nat → ClassId} {ad : Nat → Nat} {E : zEt} {own : String} {u : SS} {v r : Int64} {β : Type} {w w' : β} {fin : β → SS} (C : zC p s m args meth c cc nL own zTS D (zTy cA) A E) (hr : meth.sig.returnType = some .long) (hd : decode cc pc = .ok (.lreturn, 1)) (hm : some (v, w) = some (r, w')) (hu : u = fin w) : zG p l e R s m args below meth c nL D A (MQ below (zQl r (zBw D (wS cA ad (fin w'))) A) args s 0 0 A) (wS cA ad u) lv pc [.long v] := by
  obtain ⟨rfl, rfl⟩ := Prod.mk.inj (Option.some.inj hm)
  exact z_lret C hr hd (fun _ h => hu ▸ h) rfl
theorem rvS {p : Program} {l : Launch} {e : Env} {R : Room} {s : State} {m : MethodId} {args : Array Value} {below : List Frame} {meth : Method} {c : Code} {D : va_G} {A : Nat → Prop} {cc : ByteArray} {nL : Nat} {lv : List (Nat × Value)} {pc : Nat} {cA : Nat → ClassId} {ad : Nat → Nat} {E : zEt} {own : String} {u : SS} {β : Type} {w w' : β} {fin : β → SS} (C : zC p s m args meth c cc nL own zTS D (zTy cA) A E) (hr : meth.sig.returnType = none) (hd : decode cc pc = .ok (.return_, 1)) (hm : some w = some w') (hu : u = fin w) : zG p l e R s m args below meth c nL D A (MQ below (zQv (zBw D (wS cA ad (fin w'))) A) args s 0 0 A) (wS cA ad u) lv pc [] := by
  obtain rfl := Option.some.inj hm
  exact z_vret C hr hd (fun _ h => hu ▸ h)
abbrev SSS : Type := ((Int32 × (Int32 × Int64)) × ((Int32 × Int32) × (Int32 × Int32))) × ((Int32 × (Int64 × Int32)) × ((Int32 × Int32) × ((Nat → Int32) × (Nat → Int32))))
def SS_mouth (u : SSS) : Int32 := u.1.1.1
def SS_jaw (u : SSS) : Int32 := u.1.1.2.1
def SS_moving (u : SSS) : Int64 := u.1.1.2.2
def SS_letters (u : SSS) : Int32 := u.1.2.1.1
def SS_slips (u : SSS) : Int32 := u.1.2.1.2
def SS_house (u : SSS) : Int32 := u.1.2.2.1
def SS_o_mouth (u : SSS) : Int32 := u.1.2.2.2
def SS_o_jaw (u : SSS) : Int32 := u.2.1.1
def SS_o_moving (u : SSS) : Int64 := u.2.1.2.1
def SS_o_letters (u : SSS) : Int32 := u.2.1.2.2
def SS_o_slips (u : SSS) : Int32 := u.2.2.1.1
def SS_o_house (u : SSS) : Int32 := u.2.2.1.2
def SS_words (u : SSS) : Nat → Int32 := u.2.2.2.1
def SS_o_words (u : SSS) : Nat → Int32 := u.2.2.2.2
def SS_set_mouth (v : Int32) (u : SSS) : SSS := (((v, u.1.1.2), u.1.2), u.2)
def SS_set_jaw (v : Int32) (u : SSS) : SSS := (((u.1.1.1, (v, u.1.1.2.2)), u.1.2), u.2)
def SS_set_moving (v : Int64) (u : SSS) : SSS := (((u.1.1.1, (u.1.1.2.1, v)), u.1.2), u.2)
def SS_set_letters (v : Int32) (u : SSS) : SSS := ((u.1.1, ((v, u.1.2.1.2), u.1.2.2)), u.2)
def SS_set_slips (v : Int32) (u : SSS) : SSS := ((u.1.1, ((u.1.2.1.1, v), u.1.2.2)), u.2)
def SS_set_house (v : Int32) (u : SSS) : SSS := ((u.1.1, (u.1.2.1, (v, u.1.2.2.2))), u.2)
def SS_set_o_mouth (v : Int32) (u : SSS) : SSS := ((u.1.1, (u.1.2.1, (u.1.2.2.1, v))), u.2)
def SS_set_o_jaw (v : Int32) (u : SSS) : SSS := (u.1, ((v, u.2.1.2), u.2.2))
def SS_set_o_moving (v : Int64) (u : SSS) : SSS := (u.1, ((u.2.1.1, (v, u.2.1.2.2)), u.2.2))
def SS_set_o_letters (v : Int32) (u : SSS) : SSS := (u.1, ((u.2.1.1, (u.2.1.2.1, v)), u.2.2))
def SS_set_o_slips (v : Int32) (u : SSS) : SSS := (u.1, (u.2.1, ((v, u.2.2.1.2), u.2.2.2)))
def SS_set_o_house (v : Int32) (u : SSS) : SSS := (u.1, (u.2.1, ((u.2.2.1.1, v), u.2.2.2)))
def SS_set_words (v : Nat → Int32) (u : SSS) : SSS := (u.1, (u.2.1, (u.2.2.1, (v, u.2.2.2.2))))
def SS_set_o_words (v : Nat → Int32) (u : SSS) : SSS := (u.1, (u.2.1, (u.2.2.1, (u.2.2.2.1, v))))
def fSS_o (ad : Nat → Nat) (u : SSS) : List Value := [.int (SS_mouth u), .int (SS_jaw u), .long (SS_moving u), .ref (ad 1), .int (SS_letters u), .int (SS_slips u), .int (SS_house u)]
def fSS_other (ad : Nat → Nat) (u : SSS) : List Value := [.int (SS_o_mouth u), .int (SS_o_jaw u), .long (SS_o_moving u), .ref (ad 3), .int (SS_o_letters u), .int (SS_o_slips u), .int (SS_o_house u)]
def wSS (cA : Nat → ClassId) (ad : Nat → Nat) (u : SSS) : va_W := [(ad 0, .inr (4, fSS_o ad u)), (ad 1, .inl (cA 0, 20, .inl (SS_words u))), (ad 2, .inr (4, fSS_other ad u)), (ad 3, .inl (cA 0, 20, .inl (SS_o_words u)))]
theorem wSS_fst (cA : Nat → ClassId) (ad : Nat → Nat) (u : SSS) : (wSS cA ad u).map Prod.fst = (List.range 4).map ad := rfl
theorem wSS_D {ad : Nat → Nat} (hI : zInj ad 4) (cA : Nat → ClassId) (u : SSS) : va_D (zAd ad 4) (wSS cA ad u) := zD_of hI (wSS_fst cA ad u)
theorem heSS_o (cA : Nat → ClassId) (ad : Nat → Nat) (u : SSS) : (wSS cA ad u)[0]? = some (ad 0, .inr (4, fSS_o ad u)) := rfl
theorem heSS_words (cA : Nat → ClassId) (ad : Nat → Nat) (u : SSS) : (wSS cA ad u)[1]? = some (ad 1, .inl (cA 0, 20, .inl (SS_words u))) := rfl
theorem heSS_other (cA : Nat → ClassId) (ad : Nat → Nat) (u : SSS) : (wSS cA ad u)[2]? = some (ad 2, .inr (4, fSS_other ad u)) := rfl
theorem heSS_o_words (cA : Nat → ClassId) (ad : Nat → Nat) (u : SSS) : (wSS cA ad u)[3]? = some (ad 3, .inl (cA 0, 20, .inl (SS_o_words u))) := rfl
theorem zuSS {p : Program} {l : Launch} {e : Env} {R : Room} {s : State} {m : MethodId} {args : Array Value} {below : List Frame} {meth : Method} {c : Code} {Q : State → Prop} {D : va_G} {A : Nat → Prop} {nL : Nat} {lv : List (Nat × Value)} {pc : Nat} {st : List Value} {cA : Nat → ClassId} {ad : Nat → Nat}  {u u2 : SSS} (h : u = u2) (g : zG p l e R s m args below meth c nL D A Q (wSS cA ad u2) lv pc st) : zG p l e R s m args below meth c nL D A Q (wSS cA ad u) lv pc st := h ▸ g
theorem riSS {p : Program} {l : Launch} {e : Env} {R : Room} {s : State} {m : MethodId} {args : Array Value} {below : List Frame} {meth : Method} {c : Code} {D : va_G} {A : Nat → Prop} {cc : ByteArray} {nL : Nat} {lv : List (Nat × Value)} {pc : Nat} {cA : Nat → ClassId} {ad : Nat → Nat} {E : zEt} {own : String} {u : SSS} {v r : Int32} {ty : FieldType} {β : Type} {w w' : β} {fin : β → SSS} (C : zC p s m args meth c cc nL own zTS D (zTy cA) A E) (hr : meth.sig.returnType = some ty) (hn : narrow ty (.int v) = .int v) (hd : decode cc pc = .ok (.ireturn, 1)) (hm : some (v, w) = some (r, w')) (hu : u = fin w) : zG p l e R s m args below meth c nL D A (MQ below (zQi r (zBw D (wSS cA ad (fin w'))) A) args s 0 0 A) (wSS cA ad u) lv pc [.int v] := by
  obtain ⟨rfl, rfl⟩ := Prod.mk.inj (Option.some.inj hm)
  exact z_iret C hr hn hd (fun _ h => hu ▸ h) rfl
theorem rlSS {p : Program} {l : Launch} {e : Env} {R : Room} {s : State} {m : MethodId} {args : Array Value} {below : List Frame} {meth : Method} {c : Code} {D : va_G} {A : Nat → Prop} {cc : ByteArray} {nL : Nat} {lv : List (Nat × Value)} {pc : Nat} {cA : Nat → ClassId} {ad : Nat → Nat} {E : zEt} {own : String} {u : SSS} {v r : Int64} {β : Type} {w w' : β} {fin : β → SSS} (C : zC p s m args meth c cc nL own zTS D (zTy cA) A E) (hr : meth.sig.returnType = some .long) (hd : decode cc pc = .ok (.lreturn, 1)) (hm : some (v, w) = some (r, w')) (hu : u = fin w) : zG p l e R s m args below meth c nL D A (MQ below (zQl r (zBw D (wSS cA ad (fin w'))) A) args s 0 0 A) (wSS cA ad u) lv pc [.long v] := by
  obtain ⟨rfl, rfl⟩ := Prod.mk.inj (Option.some.inj hm)
  exact z_lret C hr hd (fun _ h => hu ▸ h) rfl
theorem rvSS {p : Program} {l : Launch} {e : Env} {R : Room} {s : State} {m : MethodId} {args : Array Value} {below : List Frame} {meth : Method} {c : Code} {D : va_G} {A : Nat → Prop} {cc : ByteArray} {nL : Nat} {lv : List (Nat × Value)} {pc : Nat} {cA : Nat → ClassId} {ad : Nat → Nat} {E : zEt} {own : String} {u : SSS} {β : Type} {w w' : β} {fin : β → SSS} (C : zC p s m args meth c cc nL own zTS D (zTy cA) A E) (hr : meth.sig.returnType = none) (hd : decode cc pc = .ok (.return_, 1)) (hm : some w = some w') (hu : u = fin w) : zG p l e R s m args below meth c nL D A (MQ below (zQv (zBw D (wSS cA ad (fin w'))) A) args s 0 0 A) (wSS cA ad u) lv pc [] := by
  obtain rfl := Option.some.inj hm
  exact z_vret C hr hd (fun _ h => hu ▸ h)
abbrev ST : Type := Int32 × (Int32 × (Nat → Int64))
def T_sort (u : ST) : Int32 := u.1
def T_length (u : ST) : Int32 := u.2.1
def T_items (u : ST) : Nat → Int64 := u.2.2
def T_set_sort (v : Int32) (u : ST) : ST := (v, u.2)
def T_set_length (v : Int32) (u : ST) : ST := (u.1, (v, u.2.2))
def T_set_items (v : Nat → Int64) (u : ST) : ST := (u.1, (u.2.1, v))
def fT_o (ad : Nat → Nat) (u : ST) : List Value := [.int (T_sort u), .int (T_length u), .ref (ad 1)]
def wT (cA : Nat → ClassId) (ad : Nat → Nat) (u : ST) : va_W := [(ad 0, .inr (5, fT_o ad u)), (ad 1, .inl (cA 1, 60, .inr (.inl (T_items u))))]
theorem wT_fst (cA : Nat → ClassId) (ad : Nat → Nat) (u : ST) : (wT cA ad u).map Prod.fst = (List.range 2).map ad := rfl
theorem wT_D {ad : Nat → Nat} (hI : zInj ad 2) (cA : Nat → ClassId) (u : ST) : va_D (zAd ad 2) (wT cA ad u) := zD_of hI (wT_fst cA ad u)
theorem heT_o (cA : Nat → ClassId) (ad : Nat → Nat) (u : ST) : (wT cA ad u)[0]? = some (ad 0, .inr (5, fT_o ad u)) := rfl
theorem heT_items (cA : Nat → ClassId) (ad : Nat → Nat) (u : ST) : (wT cA ad u)[1]? = some (ad 1, .inl (cA 1, 60, .inr (.inl (T_items u)))) := rfl
theorem zuT {p : Program} {l : Launch} {e : Env} {R : Room} {s : State} {m : MethodId} {args : Array Value} {below : List Frame} {meth : Method} {c : Code} {Q : State → Prop} {D : va_G} {A : Nat → Prop} {nL : Nat} {lv : List (Nat × Value)} {pc : Nat} {st : List Value} {cA : Nat → ClassId} {ad : Nat → Nat}  {u u2 : ST} (h : u = u2) (g : zG p l e R s m args below meth c nL D A Q (wT cA ad u2) lv pc st) : zG p l e R s m args below meth c nL D A Q (wT cA ad u) lv pc st := h ▸ g
theorem riT {p : Program} {l : Launch} {e : Env} {R : Room} {s : State} {m : MethodId} {args : Array Value} {below : List Frame} {meth : Method} {c : Code} {D : va_G} {A : Nat → Prop} {cc : ByteArray} {nL : Nat} {lv : List (Nat × Value)} {pc : Nat} {cA : Nat → ClassId} {ad : Nat → Nat} {E : zEt} {own : String} {u : ST} {v r : Int32} {ty : FieldType} {β : Type} {w w' : β} {fin : β → ST} (C : zC p s m args meth c cc nL own zTS D (zTy cA) A E) (hr : meth.sig.returnType = some ty) (hn : narrow ty (.int v) = .int v) (hd : decode cc pc = .ok (.ireturn, 1)) (hm : some (v, w) = some (r, w')) (hu : u = fin w) : zG p l e R s m args below meth c nL D A (MQ below (zQi r (zBw D (wT cA ad (fin w'))) A) args s 0 0 A) (wT cA ad u) lv pc [.int v] := by
  obtain ⟨rfl, rfl⟩ := Prod.mk.inj (Option.some.inj hm)
  exact z_iret C hr hn hd (fun _ h => hu ▸ h) rfl
theorem rlT {p : Program} {l : Launch} {e : Env} {R : Room} {s : State} {m : MethodId} {args : Array Value} {below : List Frame} {meth : Method} {c : Code} {D : va_G} {A : Nat → Prop} {cc : ByteArray} {nL : Nat} {lv : List (Nat × Value)} {pc : Nat} {cA : Nat → ClassId} {ad : Nat → Nat} {E : zEt} {own : String} {u : ST} {v r : Int64} {β : Type} {w w' : β} {fin : β → ST} (C : zC p s m args meth c cc nL own zTS D (zTy cA) A E) (hr : meth.sig.returnType = some .long) (hd : decode cc pc = .ok (.lreturn, 1)) (hm : some (v, w) = some (r, w')) (hu : u = fin w) : zG p l e R s m args below meth c nL D A (MQ below (zQl r (zBw D (wT cA ad (fin w'))) A) args s 0 0 A) (wT cA ad u) lv pc [.long v] := by
  obtain ⟨rfl, rfl⟩ := Prod.mk.inj (Option.some.inj hm)
  exact z_lret C hr hd (fun _ h => hu ▸ h) rfl
theorem rvT {p : Program} {l : Launch} {e : Env} {R : Room} {s : State} {m : MethodId} {args : Array Value} {below : List Frame} {meth : Method} {c : Code} {D : va_G} {A : Nat → Prop} {cc : ByteArray} {nL : Nat} {lv : List (Nat × Value)} {pc : Nat} {cA : Nat → ClassId} {ad : Nat → Nat} {E : zEt} {own : String} {u : ST} {β : Type} {w w' : β} {fin : β → ST} (C : zC p s m args meth c cc nL own zTS D (zTy cA) A E) (hr : meth.sig.returnType = none) (hd : decode cc pc = .ok (.return_, 1)) (hm : some w = some w') (hu : u = fin w) : zG p l e R s m args below meth c nL D A (MQ below (zQv (zBw D (wT cA ad (fin w'))) A) args s 0 0 A) (wT cA ad u) lv pc [] := by
  obtain rfl := Option.some.inj hm
  exact z_vret C hr hd (fun _ h => hu ▸ h)
abbrev SO : Type := Int32 × (Int32 × Int32)
def O_number (u : SO) : Int32 := u.1
def O_kind (u : SO) : Int32 := u.2.1
def O_v (u : SO) : Int32 := u.2.2
def O_set_number (v : Int32) (u : SO) : SO := (v, u.2)
def O_set_kind (v : Int32) (u : SO) : SO := (u.1, (v, u.2.2))
def O_set_v (v : Int32) (u : SO) : SO := (u.1, (u.2.1, v))
def fO_o (ad : Nat → Nat) (u : SO) : List Value := [.int (O_number u), .int (O_kind u), .int (O_v u)]
def wO (cA : Nat → ClassId) (ad : Nat → Nat) (u : SO) : va_W := [(ad 0, .inr (6, fO_o ad u))]
theorem wO_fst (cA : Nat → ClassId) (ad : Nat → Nat) (u : SO) : (wO cA ad u).map Prod.fst = (List.range 1).map ad := rfl
theorem wO_D {ad : Nat → Nat} (hI : zInj ad 1) (cA : Nat → ClassId) (u : SO) : va_D (zAd ad 1) (wO cA ad u) := zD_of hI (wO_fst cA ad u)
theorem heO_o (cA : Nat → ClassId) (ad : Nat → Nat) (u : SO) : (wO cA ad u)[0]? = some (ad 0, .inr (6, fO_o ad u)) := rfl
theorem zuO {p : Program} {l : Launch} {e : Env} {R : Room} {s : State} {m : MethodId} {args : Array Value} {below : List Frame} {meth : Method} {c : Code} {Q : State → Prop} {D : va_G} {A : Nat → Prop} {nL : Nat} {lv : List (Nat × Value)} {pc : Nat} {st : List Value} {cA : Nat → ClassId} {ad : Nat → Nat}  {u u2 : SO} (h : u = u2) (g : zG p l e R s m args below meth c nL D A Q (wO cA ad u2) lv pc st) : zG p l e R s m args below meth c nL D A Q (wO cA ad u) lv pc st := h ▸ g
theorem riO {p : Program} {l : Launch} {e : Env} {R : Room} {s : State} {m : MethodId} {args : Array Value} {below : List Frame} {meth : Method} {c : Code} {D : va_G} {A : Nat → Prop} {cc : ByteArray} {nL : Nat} {lv : List (Nat × Value)} {pc : Nat} {cA : Nat → ClassId} {ad : Nat → Nat} {E : zEt} {own : String} {u : SO} {v r : Int32} {ty : FieldType} {β : Type} {w w' : β} {fin : β → SO} (C : zC p s m args meth c cc nL own zTS D (zTy cA) A E) (hr : meth.sig.returnType = some ty) (hn : narrow ty (.int v) = .int v) (hd : decode cc pc = .ok (.ireturn, 1)) (hm : some (v, w) = some (r, w')) (hu : u = fin w) : zG p l e R s m args below meth c nL D A (MQ below (zQi r (zBw D (wO cA ad (fin w'))) A) args s 0 0 A) (wO cA ad u) lv pc [.int v] := by
  obtain ⟨rfl, rfl⟩ := Prod.mk.inj (Option.some.inj hm)
  exact z_iret C hr hn hd (fun _ h => hu ▸ h) rfl
theorem rlO {p : Program} {l : Launch} {e : Env} {R : Room} {s : State} {m : MethodId} {args : Array Value} {below : List Frame} {meth : Method} {c : Code} {D : va_G} {A : Nat → Prop} {cc : ByteArray} {nL : Nat} {lv : List (Nat × Value)} {pc : Nat} {cA : Nat → ClassId} {ad : Nat → Nat} {E : zEt} {own : String} {u : SO} {v r : Int64} {β : Type} {w w' : β} {fin : β → SO} (C : zC p s m args meth c cc nL own zTS D (zTy cA) A E) (hr : meth.sig.returnType = some .long) (hd : decode cc pc = .ok (.lreturn, 1)) (hm : some (v, w) = some (r, w')) (hu : u = fin w) : zG p l e R s m args below meth c nL D A (MQ below (zQl r (zBw D (wO cA ad (fin w'))) A) args s 0 0 A) (wO cA ad u) lv pc [.long v] := by
  obtain ⟨rfl, rfl⟩ := Prod.mk.inj (Option.some.inj hm)
  exact z_lret C hr hd (fun _ h => hu ▸ h) rfl
theorem rvO {p : Program} {l : Launch} {e : Env} {R : Room} {s : State} {m : MethodId} {args : Array Value} {below : List Frame} {meth : Method} {c : Code} {D : va_G} {A : Nat → Prop} {cc : ByteArray} {nL : Nat} {lv : List (Nat × Value)} {pc : Nat} {cA : Nat → ClassId} {ad : Nat → Nat} {E : zEt} {own : String} {u : SO} {β : Type} {w w' : β} {fin : β → SO} (C : zC p s m args meth c cc nL own zTS D (zTy cA) A E) (hr : meth.sig.returnType = none) (hd : decode cc pc = .ok (.return_, 1)) (hm : some w = some w') (hu : u = fin w) : zG p l e R s m args below meth c nL D A (MQ below (zQv (zBw D (wO cA ad (fin w'))) A) args s 0 0 A) (wO cA ad u) lv pc [] := by
  obtain rfl := Option.some.inj hm
  exact z_vret C hr hd (fun _ h => hu ▸ h)
abbrev SB : Type := Int32 × (Nat → Int32)
def B_ran (u : SB) : Int32 := u.1
def B_bodies (u : SB) : Nat → Int32 := u.2
def B_set_ran (v : Int32) (u : SB) : SB := (v, u.2)
def B_set_bodies (v : Nat → Int32) (u : SB) : SB := (u.1, v)
def fB_o (ad : Nat → Nat) (vA : Value) (u : SB) : List Value := [.ref (ad 1), .int (B_ran u), vA]
def wB (cA : Nat → ClassId) (ad : Nat → Nat) (vA : Value) (u : SB) : va_W := [(ad 0, .inr (0, fB_o ad vA u)), (ad 1, .inl (cA 0, 20, .inl (B_bodies u)))]
theorem wB_fst (cA : Nat → ClassId) (ad : Nat → Nat) (vA : Value) (u : SB) : (wB cA ad vA u).map Prod.fst = (List.range 2).map ad := rfl
theorem wB_D {ad : Nat → Nat} (hI : zInj ad 2) (cA : Nat → ClassId) (vA : Value) (u : SB) : va_D (zAd ad 2) (wB cA ad vA u) := zD_of hI (wB_fst cA ad vA u)
theorem heB_o (cA : Nat → ClassId) (ad : Nat → Nat) (vA : Value) (u : SB) : (wB cA ad vA u)[0]? = some (ad 0, .inr (0, fB_o ad vA u)) := rfl
theorem heB_bodies (cA : Nat → ClassId) (ad : Nat → Nat) (vA : Value) (u : SB) : (wB cA ad vA u)[1]? = some (ad 1, .inl (cA 0, 20, .inl (B_bodies u))) := rfl
theorem zuB {p : Program} {l : Launch} {e : Env} {R : Room} {s : State} {m : MethodId} {args : Array Value} {below : List Frame} {meth : Method} {c : Code} {Q : State → Prop} {D : va_G} {A : Nat → Prop} {nL : Nat} {lv : List (Nat × Value)} {pc : Nat} {st : List Value} {cA : Nat → ClassId} {ad : Nat → Nat}  {vA : Value} {u u2 : SB} (h : u = u2) (g : zG p l e R s m args below meth c nL D A Q (wB cA ad vA u2) lv pc st) : zG p l e R s m args below meth c nL D A Q (wB cA ad vA u) lv pc st := h ▸ g
theorem riB {p : Program} {l : Launch} {e : Env} {R : Room} {s : State} {m : MethodId} {args : Array Value} {below : List Frame} {meth : Method} {c : Code} {D : va_G} {A : Nat → Prop} {cc : ByteArray} {nL : Nat} {lv : List (Nat × Value)} {pc : Nat} {cA : Nat → ClassId} {ad : Nat → Nat} {E : zEt} {vA : Value} {own : String} {u : SB} {v r : Int32} {ty : FieldType} {β : Type} {w w' : β} {fin : β → SB} (C : zC p s m args meth c cc nL own zTS D (zTy cA) A E) (hr : meth.sig.returnType = some ty) (hn : narrow ty (.int v) = .int v) (hd : decode cc pc = .ok (.ireturn, 1)) (hm : some (v, w) = some (r, w')) (hu : u = fin w) : zG p l e R s m args below meth c nL D A (MQ below (zQi r (zBw D (wB cA ad vA (fin w'))) A) args s 0 0 A) (wB cA ad vA u) lv pc [.int v] := by
  obtain ⟨rfl, rfl⟩ := Prod.mk.inj (Option.some.inj hm)
  exact z_iret C hr hn hd (fun _ h => hu ▸ h) rfl
theorem rlB {p : Program} {l : Launch} {e : Env} {R : Room} {s : State} {m : MethodId} {args : Array Value} {below : List Frame} {meth : Method} {c : Code} {D : va_G} {A : Nat → Prop} {cc : ByteArray} {nL : Nat} {lv : List (Nat × Value)} {pc : Nat} {cA : Nat → ClassId} {ad : Nat → Nat} {E : zEt} {vA : Value} {own : String} {u : SB} {v r : Int64} {β : Type} {w w' : β} {fin : β → SB} (C : zC p s m args meth c cc nL own zTS D (zTy cA) A E) (hr : meth.sig.returnType = some .long) (hd : decode cc pc = .ok (.lreturn, 1)) (hm : some (v, w) = some (r, w')) (hu : u = fin w) : zG p l e R s m args below meth c nL D A (MQ below (zQl r (zBw D (wB cA ad vA (fin w'))) A) args s 0 0 A) (wB cA ad vA u) lv pc [.long v] := by
  obtain ⟨rfl, rfl⟩ := Prod.mk.inj (Option.some.inj hm)
  exact z_lret C hr hd (fun _ h => hu ▸ h) rfl
theorem rvB {p : Program} {l : Launch} {e : Env} {R : Room} {s : State} {m : MethodId} {args : Array Value} {below : List Frame} {meth : Method} {c : Code} {D : va_G} {A : Nat → Prop} {cc : ByteArray} {nL : Nat} {lv : List (Nat × Value)} {pc : Nat} {cA : Nat → ClassId} {ad : Nat → Nat} {E : zEt} {vA : Value} {own : String} {u : SB} {β : Type} {w w' : β} {fin : β → SB} (C : zC p s m args meth c cc nL own zTS D (zTy cA) A E) (hr : meth.sig.returnType = none) (hd : decode cc pc = .ok (.return_, 1)) (hm : some w = some w') (hu : u = fin w) : zG p l e R s m args below meth c nL D A (MQ below (zQv (zBw D (wB cA ad vA (fin w'))) A) args s 0 0 A) (wB cA ad vA u) lv pc [] := by
  obtain rfl := Option.some.inj hm
  exact z_vret C hr hd (fun _ h => hu ▸ h)
abbrev SA : Type := (Int32 × Int32) × (Int32 × (Int32 × (Nat → Int32)))
def A_ran (u : SA) : Int32 := u.1.1
def A_v_number (u : SA) : Int32 := u.1.2
def A_v_kind (u : SA) : Int32 := u.2.1
def A_v_v (u : SA) : Int32 := u.2.2.1
def A_bodies (u : SA) : Nat → Int32 := u.2.2.2
def A_set_ran (v : Int32) (u : SA) : SA := ((v, u.1.2), u.2)
def A_set_v_number (v : Int32) (u : SA) : SA := ((u.1.1, v), u.2)
def A_set_v_kind (v : Int32) (u : SA) : SA := (u.1, (v, u.2.2))
def A_set_v_v (v : Int32) (u : SA) : SA := (u.1, (u.2.1, (v, u.2.2.2)))
def A_set_bodies (v : Nat → Int32) (u : SA) : SA := (u.1, (u.2.1, (u.2.2.1, v)))
def fA_o (ad : Nat → Nat) (vA : Value) (u : SA) : List Value := [.ref (ad 1), .int (A_ran u), vA]
def fA_vo (ad : Nat → Nat) (u : SA) : List Value := [.int (A_v_number u), .int (A_v_kind u), .int (A_v_v u)]
def wA (cA : Nat → ClassId) (ad : Nat → Nat) (vA : Value) (u : SA) : va_W := [(ad 0, .inr (0, fA_o ad vA u)), (ad 1, .inl (cA 0, 20, .inl (A_bodies u))), (ad 2, .inr (6, fA_vo ad u))]
theorem wA_fst (cA : Nat → ClassId) (ad : Nat → Nat) (vA : Value) (u : SA) : (wA cA ad vA u).map Prod.fst = (List.range 3).map ad := rfl
theorem wA_D {ad : Nat → Nat} (hI : zInj ad 3) (cA : Nat → ClassId) (vA : Value) (u : SA) : va_D (zAd ad 3) (wA cA ad vA u) := zD_of hI (wA_fst cA ad vA u)
theorem heA_o (cA : Nat → ClassId) (ad : Nat → Nat) (vA : Value) (u : SA) : (wA cA ad vA u)[0]? = some (ad 0, .inr (0, fA_o ad vA u)) := rfl
theorem heA_bodies (cA : Nat → ClassId) (ad : Nat → Nat) (vA : Value) (u : SA) : (wA cA ad vA u)[1]? = some (ad 1, .inl (cA 0, 20, .inl (A_bodies u))) := rfl
theorem heA_vo (cA : Nat → ClassId) (ad : Nat → Nat) (vA : Value) (u : SA) : (wA cA ad vA u)[2]? = some (ad 2, .inr (6, fA_vo ad u)) := rfl
theorem zuA {p : Program} {l : Launch} {e : Env} {R : Room} {s : State} {m : MethodId} {args : Array Value} {below : List Frame} {meth : Method} {c : Code} {Q : State → Prop} {D : va_G} {A : Nat → Prop} {nL : Nat} {lv : List (Nat × Value)} {pc : Nat} {st : List Value} {cA : Nat → ClassId} {ad : Nat → Nat}  {vA : Value} {u u2 : SA} (h : u = u2) (g : zG p l e R s m args below meth c nL D A Q (wA cA ad vA u2) lv pc st) : zG p l e R s m args below meth c nL D A Q (wA cA ad vA u) lv pc st := h ▸ g
theorem riA {p : Program} {l : Launch} {e : Env} {R : Room} {s : State} {m : MethodId} {args : Array Value} {below : List Frame} {meth : Method} {c : Code} {D : va_G} {A : Nat → Prop} {cc : ByteArray} {nL : Nat} {lv : List (Nat × Value)} {pc : Nat} {cA : Nat → ClassId} {ad : Nat → Nat} {E : zEt} {vA : Value} {own : String} {u : SA} {v r : Int32} {ty : FieldType} {β : Type} {w w' : β} {fin : β → SA} (C : zC p s m args meth c cc nL own zTS D (zTy cA) A E) (hr : meth.sig.returnType = some ty) (hn : narrow ty (.int v) = .int v) (hd : decode cc pc = .ok (.ireturn, 1)) (hm : some (v, w) = some (r, w')) (hu : u = fin w) : zG p l e R s m args below meth c nL D A (MQ below (zQi r (zBw D (wA cA ad vA (fin w'))) A) args s 0 0 A) (wA cA ad vA u) lv pc [.int v] := by
  obtain ⟨rfl, rfl⟩ := Prod.mk.inj (Option.some.inj hm)
  exact z_iret C hr hn hd (fun _ h => hu ▸ h) rfl
theorem rlA {p : Program} {l : Launch} {e : Env} {R : Room} {s : State} {m : MethodId} {args : Array Value} {below : List Frame} {meth : Method} {c : Code} {D : va_G} {A : Nat → Prop} {cc : ByteArray} {nL : Nat} {lv : List (Nat × Value)} {pc : Nat} {cA : Nat → ClassId} {ad : Nat → Nat} {E : zEt} {vA : Value} {own : String} {u : SA} {v r : Int64} {β : Type} {w w' : β} {fin : β → SA} (C : zC p s m args meth c cc nL own zTS D (zTy cA) A E) (hr : meth.sig.returnType = some .long) (hd : decode cc pc = .ok (.lreturn, 1)) (hm : some (v, w) = some (r, w')) (hu : u = fin w) : zG p l e R s m args below meth c nL D A (MQ below (zQl r (zBw D (wA cA ad vA (fin w'))) A) args s 0 0 A) (wA cA ad vA u) lv pc [.long v] := by
  obtain ⟨rfl, rfl⟩ := Prod.mk.inj (Option.some.inj hm)
  exact z_lret C hr hd (fun _ h => hu ▸ h) rfl
theorem rvA {p : Program} {l : Launch} {e : Env} {R : Room} {s : State} {m : MethodId} {args : Array Value} {below : List Frame} {meth : Method} {c : Code} {D : va_G} {A : Nat → Prop} {cc : ByteArray} {nL : Nat} {lv : List (Nat × Value)} {pc : Nat} {cA : Nat → ClassId} {ad : Nat → Nat} {E : zEt} {vA : Value} {own : String} {u : SA} {β : Type} {w w' : β} {fin : β → SA} (C : zC p s m args meth c cc nL own zTS D (zTy cA) A E) (hr : meth.sig.returnType = none) (hd : decode cc pc = .ok (.return_, 1)) (hm : some w = some w') (hu : u = fin w) : zG p l e R s m args below meth c nL D A (MQ below (zQv (zBw D (wA cA ad vA (fin w'))) A) args s 0 0 A) (wA cA ad vA u) lv pc [] := by
  obtain rfl := Option.some.inj hm
  exact z_vret C hr hd (fun _ h => hu ▸ h)
abbrev SR : Type := ((Int32 × (Int32 × Int32)) × (Int32 × (Int32 × (Nat → Int32)))) × (((Nat → Int32) × ((Nat → Int32) × (Nat → Int32))) × ((Nat → Int32) × ((Nat → Int32) × (Nat → Int32))))
def R_length (u : SR) : Int32 := u.1.1.1
def R_at (u : SR) : Int32 := u.1.1.2.1
def R_h_late (u : SR) : Int32 := u.1.1.2.2
def R_h_clauses (u : SR) : Int32 := u.1.2.1
def R_h_stepCount (u : SR) : Int32 := u.1.2.2.1
def R_text (u : SR) : Nat → Int32 := u.1.2.2.2
def R_h_sounds (u : SR) : Nat → Int32 := u.2.1.1
def R_h_swaps (u : SR) : Nat → Int32 := u.2.1.2.1
def R_h_senses (u : SR) : Nat → Int32 := u.2.1.2.2
def R_h_amounts (u : SR) : Nat → Int32 := u.2.2.1
def R_h_ends (u : SR) : Nat → Int32 := u.2.2.2.1
def R_h_steps (u : SR) : Nat → Int32 := u.2.2.2.2
def R_set_length (v : Int32) (u : SR) : SR := (((v, u.1.1.2), u.1.2), u.2)
def R_set_at (v : Int32) (u : SR) : SR := (((u.1.1.1, (v, u.1.1.2.2)), u.1.2), u.2)
def R_set_h_late (v : Int32) (u : SR) : SR := (((u.1.1.1, (u.1.1.2.1, v)), u.1.2), u.2)
def R_set_h_clauses (v : Int32) (u : SR) : SR := ((u.1.1, (v, u.1.2.2)), u.2)
def R_set_h_stepCount (v : Int32) (u : SR) : SR := ((u.1.1, (u.1.2.1, (v, u.1.2.2.2))), u.2)
def R_set_text (v : Nat → Int32) (u : SR) : SR := ((u.1.1, (u.1.2.1, (u.1.2.2.1, v))), u.2)
def R_set_h_sounds (v : Nat → Int32) (u : SR) : SR := (u.1, ((v, u.2.1.2), u.2.2))
def R_set_h_swaps (v : Nat → Int32) (u : SR) : SR := (u.1, ((u.2.1.1, (v, u.2.1.2.2)), u.2.2))
def R_set_h_senses (v : Nat → Int32) (u : SR) : SR := (u.1, ((u.2.1.1, (u.2.1.2.1, v)), u.2.2))
def R_set_h_amounts (v : Nat → Int32) (u : SR) : SR := (u.1, (u.2.1, (v, u.2.2.2)))
def R_set_h_ends (v : Nat → Int32) (u : SR) : SR := (u.1, (u.2.1, (u.2.2.1, (v, u.2.2.2.2))))
def R_set_h_steps (v : Nat → Int32) (u : SR) : SR := (u.1, (u.2.1, (u.2.2.1, (u.2.2.2.1, v))))
def fR_o (ad : Nat → Nat) (vT : Value) (vH : Value) (u : SR) : List Value := [vT, .int (R_length u), .int (R_at u), vH]
def fR_h (ad : Nat → Nat) (u : SR) : List Value := [.ref (ad 3), .ref (ad 4), .int (R_h_late u), .ref (ad 5), .ref (ad 6), .ref (ad 7), .int (R_h_clauses u), .ref (ad 8), .int (R_h_stepCount u)]
def wR (cA : Nat → ClassId) (ad : Nat → Nat) (vT : Value) (vH : Value) (u : SR) : va_W := [(ad 0, .inr (3, fR_o ad vT vH u)), (ad 1, .inl (cA 3, 100, .inl (R_text u))), (ad 2, .inr (1, fR_h ad u)), (ad 3, .inl (cA 0, 20, .inl (R_h_sounds u))), (ad 4, .inl (cA 0, 10, .inl (R_h_swaps u))), (ad 5, .inl (cA 0, 10, .inl (R_h_senses u))), (ad 6, .inl (cA 0, 10, .inl (R_h_amounts u))), (ad 7, .inl (cA 0, 10, .inl (R_h_ends u))), (ad 8, .inl (cA 0, 100, .inl (R_h_steps u)))]
theorem wR_fst (cA : Nat → ClassId) (ad : Nat → Nat) (vT : Value) (vH : Value) (u : SR) : (wR cA ad vT vH u).map Prod.fst = (List.range 9).map ad := rfl
theorem wR_D {ad : Nat → Nat} (hI : zInj ad 9) (cA : Nat → ClassId) (vT : Value) (vH : Value) (u : SR) : va_D (zAd ad 9) (wR cA ad vT vH u) := zD_of hI (wR_fst cA ad vT vH u)
theorem heR_o (cA : Nat → ClassId) (ad : Nat → Nat) (vT : Value) (vH : Value) (u : SR) : (wR cA ad vT vH u)[0]? = some (ad 0, .inr (3, fR_o ad vT vH u)) := rfl
theorem heR_text (cA : Nat → ClassId) (ad : Nat → Nat) (vT : Value) (vH : Value) (u : SR) : (wR cA ad vT vH u)[1]? = some (ad 1, .inl (cA 3, 100, .inl (R_text u))) := rfl
theorem heR_h (cA : Nat → ClassId) (ad : Nat → Nat) (vT : Value) (vH : Value) (u : SR) : (wR cA ad vT vH u)[2]? = some (ad 2, .inr (1, fR_h ad u)) := rfl
theorem heR_h_sounds (cA : Nat → ClassId) (ad : Nat → Nat) (vT : Value) (vH : Value) (u : SR) : (wR cA ad vT vH u)[3]? = some (ad 3, .inl (cA 0, 20, .inl (R_h_sounds u))) := rfl
theorem heR_h_swaps (cA : Nat → ClassId) (ad : Nat → Nat) (vT : Value) (vH : Value) (u : SR) : (wR cA ad vT vH u)[4]? = some (ad 4, .inl (cA 0, 10, .inl (R_h_swaps u))) := rfl
theorem heR_h_senses (cA : Nat → ClassId) (ad : Nat → Nat) (vT : Value) (vH : Value) (u : SR) : (wR cA ad vT vH u)[5]? = some (ad 5, .inl (cA 0, 10, .inl (R_h_senses u))) := rfl
theorem heR_h_amounts (cA : Nat → ClassId) (ad : Nat → Nat) (vT : Value) (vH : Value) (u : SR) : (wR cA ad vT vH u)[6]? = some (ad 6, .inl (cA 0, 10, .inl (R_h_amounts u))) := rfl
theorem heR_h_ends (cA : Nat → ClassId) (ad : Nat → Nat) (vT : Value) (vH : Value) (u : SR) : (wR cA ad vT vH u)[7]? = some (ad 7, .inl (cA 0, 10, .inl (R_h_ends u))) := rfl
theorem heR_h_steps (cA : Nat → ClassId) (ad : Nat → Nat) (vT : Value) (vH : Value) (u : SR) : (wR cA ad vT vH u)[8]? = some (ad 8, .inl (cA 0, 100, .inl (R_h_steps u))) := rfl
theorem zuR {p : Program} {l : Launch} {e : Env} {R : Room} {s : State} {m : MethodId} {args : Array Value} {below : List Frame} {meth : Method} {c : Code} {Q : State → Prop} {D : va_G} {A : Nat → Prop} {nL : Nat} {lv : List (Nat × Value)} {pc : Nat} {st : List Value} {cA : Nat → ClassId} {ad : Nat → Nat}  {vT : Value} {vH : Value} {u u2 : SR} (h : u = u2) (g : zG p l e R s m args below meth c nL D A Q (wR cA ad vT vH u2) lv pc st) : zG p l e R s m args below meth c nL D A Q (wR cA ad vT vH u) lv pc st := h ▸ g
theorem riR {p : Program} {l : Launch} {e : Env} {R : Room} {s : State} {m : MethodId} {args : Array Value} {below : List Frame} {meth : Method} {c : Code} {D : va_G} {A : Nat → Prop} {cc : ByteArray} {nL : Nat} {lv : List (Nat × Value)} {pc : Nat} {cA : Nat → ClassId} {ad : Nat → Nat} {E : zEt} {vT : Value} {vH : Value} {own : String} {u : SR} {v r : Int32} {ty : FieldType} {β : Type} {w w' : β} {fin : β → SR} (C : zC p s m args meth c cc nL own zTS D (zTy cA) A E) (hr : meth.sig.returnType = some ty) (hn : narrow ty (.int v) = .int v) (hd : decode cc pc = .ok (.ireturn, 1)) (hm : some (v, w) = some (r, w')) (hu : u = fin w) : zG p l e R s m args below meth c nL D A (MQ below (zQi r (zBw D (wR cA ad vT vH (fin w'))) A) args s 0 0 A) (wR cA ad vT vH u) lv pc [.int v] := by
  obtain ⟨rfl, rfl⟩ := Prod.mk.inj (Option.some.inj hm)
  exact z_iret C hr hn hd (fun _ h => hu ▸ h) rfl
theorem rlR {p : Program} {l : Launch} {e : Env} {R : Room} {s : State} {m : MethodId} {args : Array Value} {below : List Frame} {meth : Method} {c : Code} {D : va_G} {A : Nat → Prop} {cc : ByteArray} {nL : Nat} {lv : List (Nat × Value)} {pc : Nat} {cA : Nat → ClassId} {ad : Nat → Nat} {E : zEt} {vT : Value} {vH : Value} {own : String} {u : SR} {v r : Int64} {β : Type} {w w' : β} {fin : β → SR} (C : zC p s m args meth c cc nL own zTS D (zTy cA) A E) (hr : meth.sig.returnType = some .long) (hd : decode cc pc = .ok (.lreturn, 1)) (hm : some (v, w) = some (r, w')) (hu : u = fin w) : zG p l e R s m args below meth c nL D A (MQ below (zQl r (zBw D (wR cA ad vT vH (fin w'))) A) args s 0 0 A) (wR cA ad vT vH u) lv pc [.long v] := by
  obtain ⟨rfl, rfl⟩ := Prod.mk.inj (Option.some.inj hm)
  exact z_lret C hr hd (fun _ h => hu ▸ h) rfl
theorem rvR {p : Program} {l : Launch} {e : Env} {R : Room} {s : State} {m : MethodId} {args : Array Value} {below : List Frame} {meth : Method} {c : Code} {D : va_G} {A : Nat → Prop} {cc : ByteArray} {nL : Nat} {lv : List (Nat × Value)} {pc : Nat} {cA : Nat → ClassId} {ad : Nat → Nat} {E : zEt} {vT : Value} {vH : Value} {own : String} {u : SR} {β : Type} {w w' : β} {fin : β → SR} (C : zC p s m args meth c cc nL own zTS D (zTy cA) A E) (hr : meth.sig.returnType = none) (hd : decode cc pc = .ok (.return_, 1)) (hm : some w = some w') (hu : u = fin w) : zG p l e R s m args below meth c nL D A (MQ below (zQv (zBw D (wR cA ad vT vH (fin w'))) A) args s 0 0 A) (wR cA ad vT vH u) lv pc [] := by
  obtain rfl := Option.some.inj hm
  exact z_vret C hr hd (fun _ h => hu ▸ h)
theorem z_nfw : nativeFrameWords "java/lang/System" "arraycopy" 5 + 11 ≤ 32 := by decide
theorem z_copySS {p : Program} {l : Launch} {e : Env} {s : State} {m : MethodId} {args : Array Value} {below : List Frame} {meth : Method} {c : Code} {Q : State → Prop} {D : va_G} {A : Nat → Prop} {cc : ByteArray} {nL : Nat} {lv : List (Nat × Value)} {pc : Nat} {st : List Value} {cA : Nat → ClassId} {ad : Nat → Nat} {E : zEt} {u : SSS} {d : Nat} (C : zC p s m args meth c cc nL RX4 zTS D (zTy cA) A E) (hI : zInj ad 4) (hA : ∀ q, zAd ad 4 q → A q) (hd1 : 1 ≤ d) (h8 : (st.map fun v => v.category).sum ≤ 8) (hd : decode cc pc = .ok (.invokestatic 26, 3)) (g : zG p l e (zRm d) s m args below meth c nL D A Q (wSS cA ad (SS_set_words (va_cpy (SS_o_words u) (SS_words u) (0 : Int32).toNatClampNeg (0 : Int32).toNatClampNeg (20 : Int32).toNatClampNeg) u)) lv (pc + 3) st) : zG p l e (zRm d) s m args below meth c nL D A Q (wSS cA ad u) lv pc (.int (20 : Int32) :: .int (0 : Int32) :: .ref (ad 1) :: .int (0 : Int32) :: .ref (ad 3) :: st) := fun H locs ls hP hS hL => va_copyi C.1.1 C.1.2.1 (C.1.2.2.1.trans hL.1.symm) C.1.2.2.2.1 (C.1.2.2.2.2 _ mcpX4_26) (C.1.2.2.2.2 _ mcpS.1.1) (C.1.2.2.2.2 _ mcpS.1.2) (C.1.2.2.2.2 _ mcpS.2) C.2.1 hP (zD_mono (wSS_D hI cA u) hA) hS 3 1 0 0 (heSS_o_words cA ad u) (heSS_words cA ad u) rfl rfl rfl (by decide) (by decide) (by decide) (by decide) (by decide) (fun _ _ => rfl) hd1 (by have h9 := z_nfw; simp only [zRm]; omega) hd (fun H1 locs1 hP1 _ hS1 => g H1 locs1 ls hP1 hS1 hL)
