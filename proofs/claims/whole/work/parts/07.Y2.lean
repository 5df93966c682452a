/-! 07.Y2: more constructors; by wip/whole/gen/genI2.py -/
theorem zD_fst {A : Nat → Prop} {ws ws' : va_W} (h : ws.map Prod.fst = ws'.map Prod.fst) (hD : va_D A ws) : va_D A ws' := by
  have key : ∀ (k : Nat) (q : Nat × va_E), ws'[k]? = some q → ∃ q0, ws[k]? = some q0 ∧ q0.1 = q.1 := by
    intro k q hk
    have h1 : (ws.map Prod.fst)[k]? = some q.1 := by rw [h, List.getElem?_map, hk]; rfl
    rw [List.getElem?_map] at h1
    cases h2 : ws[k]? with
    | none => rw [h2] at h1; cases h1
    | some z => rw [h2] at h1; exact ⟨z, rfl, Option.some.inj h1⟩
  refine ⟨fun i j p q hi hj hpq => ?_, fun k q hk => ?_⟩
  · obtain ⟨p0, h1, h2⟩ := key i p hi
    obtain ⟨q0, h3, h4⟩ := key j q hj
    exact hD.1 i j p0 q0 h1 h3 (h2.trans (hpq.trans h4.symm))
  · obtain ⟨q0, h1, h2⟩ := key k q hk
    rw [← h2]
    exact hD.2 k q0 h1
theorem zD_inj {A : Nat → Prop} {ws : va_W} {ad : Nat → Nat} {N : Nat} (h : ws.map Prod.fst = (List.range N).map ad) (hD : va_D A ws) : zInj ad N ∧ ∀ q, zAd ad N q → A q := by
  have key : ∀ i, i < N → ∃ q, ws[i]? = some q ∧ q.1 = ad i := by
    intro i hi
    have h1 : (ws.map Prod.fst)[i]? = some (ad i) := by rw [h, List.getElem?_map, List.getElem?_range hi]; rfl
    rw [List.getElem?_map] at h1
    cases h2 : ws[i]? with
    | none => rw [h2] at h1; cases h1
    | some z => rw [h2] at h1; exact ⟨z, rfl, Option.some.inj h1⟩
  refine ⟨fun i j hi hj hij => ?_, fun q hq => ?_⟩
  · obtain ⟨p, h1, h2⟩ := key i hi
    obtain ⟨q, h3, h4⟩ := key j hj
    exact hD.1 i j p q h1 h3 (h2.trans (hij.trans h4.symm))
  · obtain ⟨i, hi, rfl⟩ := hq
    obtain ⟨p, h1, h2⟩ := key i hi
    rw [← h2]
    exact hD.2 i p h1
theorem y_inj {p : Program} {l : Launch} {e : Env} {R : Room} {s : State} {m : MethodId} {args : Array Value} {below : List Frame} {meth : Method} {c : Code} {Q : State → Prop} {D : va_G} {A : Nat → Prop} {nL : Nat} {lv : List (Nat × Value)} {pc : Nat} {st : List Value} {k9 n9 : Nat} {ws : va_W} {N : Nat} {ad : Nat → Nat} (hf : ws.map Prod.fst = (List.range N).map ad) (g : zInj ad N → (∀ q, zAd ad N q → A q) → yG p l e R s m args below meth c nL D A Q k9 n9 ws lv pc st) : yG p l e R s m args below meth c nL D A Q k9 n9 ws lv pc st := fun H locs ls hP hDD hS hL => g (zD_inj hf hDD).1 (zD_inj hf hDD).2 H locs ls hP hDD hS hL
theorem zE_an {s U : State} {E : zEt} {A : Nat → Prop} {H : Heap} {locs : List Loc} {b : Nat} (h : zEok E) (he : E A s s.heap) (hS : va_S A s.heap H locs) (hU : U.heap = H) (hW : s.WarmedH U.vm) (hb : A b) (hA : ∀ q, s.heap.size ≤ q → A q) : E (zAn b H.size) U U.heap := zE_at h he hS hU hW (by
  rintro q (rfl | hq)
  · exact hb
  · exact hA q (Nat.le_trans hS.1 hq))
theorem zP_last {D : va_G} {wr : va_W} {x : Nat × va_E} {H : Heap} (h : va_P D vwCl (wr ++ [x]) H) : va_P D vwCl [x] H ∧ va_P D vwCl wr H := ⟨zP_sub h (fun _ hq => List.mem_append_right _ hq), zP_sub h (fun _ hq => List.mem_append_left _ hq)⟩
/-- behind a constructor: the other cells, and what it made -/
theorem zP_ctor {D : va_G} {A : Nat → Prop} {wr w1 : va_W} {b : Nat} {en : va_E} {H H1 : Heap} (hP : va_P D vwCl (wr ++ [(b, en)]) H) (hD : va_D A (wr ++ [(b, en)])) (hA : ∀ q, zAn b H.size q → A q) (hk : ∀ q : Nat, q < H.size → ¬ zAn b H.size q → H1[q]? = H[q]?) (hP1 : va_P D vwCl w1 H1) (hD1 : va_D (zAn b H.size) w1) : va_P D vwCl (wr ++ w1) H1 ∧ va_D A (wr ++ w1) := by
  have ap : ∀ (i : Nat) (q : Nat × va_E), wr[i]? = some q → q.1 < H.size ∧ ¬ zAn b H.size q.1 := by
    intro i q hi
    have hlt := (List.getElem?_eq_some_iff.mp hi).1
    have hi' : (wr ++ [(b, en)])[i]? = some q := by rw [List.getElem?_append_left hlt]; exact hi
    have hl := (hP i q hi').lt
    refine ⟨hl, fun h => ?_⟩
    rcases h with h | h
    · have hb : (wr ++ [(b, en)])[wr.length]? = some (b, en) := by rw [List.getElem?_append_right (Nat.le_refl _), Nat.sub_self]; rfl
      have := hD.1 i wr.length q (b, en) hi' hb h
      omega
    · omega
  have hDr : va_D A wr := by
    refine ⟨fun i j p q hi hj hpq => ?_, fun k q hk => ?_⟩
    · have h1 := (List.getElem?_eq_some_iff.mp hi).1
      have h2 := (List.getElem?_eq_some_iff.mp hj).1
      exact hD.1 i j p q (by rw [List.getElem?_append_left h1]; exact hi) (by rw [List.getElem?_append_left h2]; exact hj) hpq
    · have h1 := (List.getElem?_eq_some_iff.mp hk).1
      exact hD.2 k q (by rw [List.getElem?_append_left h1]; exact hk)
  refine ⟨va_P.app (fun k q hq => ?_) hP1, va_D.app hDr (hD1.weaken (fun k q _ h => hA q.1 h)) (fun i j x y hx hy hxy => ?_)⟩
  · obtain ⟨g1, g2⟩ := ap k q hq
    exact ((zP_last hP).2 k q hq).kept (hk q.1 g1 g2)
  · exact (ap i x hx).2 (by rw [hxy]; exact hD1.2 j y hy)
theorem y_ctorI {p : Program} {l : Launch} {e : Env} {R : Room} {s : State} {m : MethodId} {args : Array Value} {below : List Frame} {meth : Method} {c : Code} {Q : State → Prop} {D : va_G} {A : Nat → Prop} {cc : ByteArray} {nL : Nat} {own : String} {lv : List (Nat × Value)} {pc : Nat} {st : List Value} {cA : Nat → ClassId} {E : zEt} {k9 n9 : Nat} (C : zC p s m args meth c cc nL own zTS D (zTy cA) A E) (hA : ∀ q, s.heap.size ≤ q → A q) {y : MethodName} {bytes : ByteArray} {maxL n index mc ms b ck : Nat} {fs : List Value} {wsy : List Cond} {rm : Room} {wr : va_W} {w : (Nat → Nat) → va_W} {As st0 : List Value} (hM : ∀ sz, Met l y wsy rm (va_Pc (.ref b :: As) (zPreC D (zTy cA) E b sz [(b, .inr (ck, fs))])) (zQc D b sz w) mc ms (zAn b sz)) (cw : CallB R s args own index y bytes maxL none wsy rm mc ms n ∧ y.name = "<init>" ∧ (Cond.instanceMethod y).before args s = true) (hd : decode cc pc = .ok (.invokespecial index, 3)) (hst : st0 = As.reverse ++ .ref b :: st) (hn : As.length = n) (h8 : (st.map fun v => v.category).sum ≤ 8) (hf : k9 + mc ≤ R.cells ∧ n9 + ms ≤ R.slots) (g : ∀ ad : Nat → Nat, ad 0 = b → yG p l e R s m args below meth c nL D A Q (k9 + mc) (n9 + ms) (wr ++ w ad) lv (pc + 3) st) : yG p l e R s m args below meth c nL D A Q k9 n9 (wr ++ [(b, .inr (ck, fs))]) lv pc st0 := by
  intro H locs ls hP hDD hS hL
  have hbA : A b := hDD.2 wr.length (b, .inr (ck, fs)) (by rw [List.getElem?_append_right (Nat.le_refl _), Nat.sub_self]; rfl)
  have hAn : ∀ q, zAn b H.size q → A q := by
    rintro q (rfl | hq)
    · exact hbA
    · exact hA q (Nat.le_trans hS.1 hq)
  refine va_callv (va_runI (As := As) (rest := st) (g := F0 m pc ls st0) C.1 (hM H.size) cw ⟨zPreC_blind, fun U hU hW => ⟨rfl, by rw [hU], by rw [hU]; exact (zP_last hP).1, va_K.moved hW.alike C.2.1, C.2.2.2.1, zE_an C.2.2.2.1 C.2.2.2.2 hS hU hW hbA hA⟩⟩ rfl hn hL.1 hst (lv_room (Nat.le_of_ble_eq_true (Nat.ble_eq_true_of_le h8))) hd hf) hS (fun q _ h => hAn q h) hAn (fun u t H1 locs1 ht hvm hw hB hz hk hS1 => ?_)
  obtain ⟨ad, h0, hP1, hD1⟩ := hB
  rw [ht] at hP1
  obtain ⟨hP2, hD2⟩ := zP_ctor hP hDD hAn hk hP1 hD1
  exact g ad h0 H1 locs1 ls hP2 hD2 hS1 hL
theorem y_ctorN {p : Program} {l : Launch} {e : Env} {R : Room} {s : State} {m : MethodId} {args : Array Value} {below : List Frame} {meth : Method} {c : Code} {Q : State → Prop} {D : va_G} {A : Nat → Prop} {cc : ByteArray} {nL : Nat} {own : String} {lv : List (Nat × Value)} {pc : Nat} {st : List Value} {cA : Nat → ClassId} {E : zEt} {k9 n9 : Nat} (C : zC p s m args meth c cc nL own zTS D (zTy cA) A E) (hA : ∀ q, s.heap.size ≤ q → A q) {y : MethodName} {bytes : ByteArray} {maxL n index mc ms b ck : Nat} {fs : List Value} {wsy : List Cond} {rm : Room} {host : String} {wr : va_W} {w : (Nat → Nat) → va_W} {As st0 : List Value} (hM : ∀ sz, Met l y wsy rm (va_Pc (.ref b :: As) (zPreC D (zTy cA) E b sz [(b, .inr (ck, fs))])) (zQc D b sz w) mc ms (zAn b sz)) (cw : va_CN R s args own index y host bytes maxL none wsy rm mc ms n ∧ y.name = "<init>" ∧ (Cond.instanceMethod y).before args s = true) (hd : decode cc pc = .ok (.invokespecial index, 3)) (hst : st0 = As.reverse ++ .ref b :: st) (hn : As.length = n) (h8 : (st.map fun v => v.category).sum ≤ 8) (hf : k9 + mc ≤ R.cells ∧ n9 + ms ≤ R.slots) (g : ∀ ad : Nat → Nat, ad 0 = b → yG p l e R s m args below meth c nL D A Q (k9 + mc) (n9 + ms) (wr ++ w ad) lv (pc + 3) st) : yG p l e R s m args below meth c nL D A Q k9 n9 (wr ++ [(b, .inr (ck, fs))]) lv pc st0 := by
  intro H locs ls hP hDD hS hL
  have hbA : A b := hDD.2 wr.length (b, .inr (ck, fs)) (by rw [List.getElem?_append_right (Nat.le_refl _), Nat.sub_self]; rfl)
  have hAn : ∀ q, zAn b H.size q → A q := by
    rintro q (rfl | hq)
    · exact hbA
    · exact hA q (Nat.le_trans hS.1 hq)
  refine va_callv (va_runIN (As := As) (rest := st) (g := F0 m pc ls st0) C.1 (hM H.size) cw ⟨zPreC_blind, fun U hU hW => ⟨rfl, by rw [hU], by rw [hU]; exact (zP_last hP).1, va_K.moved hW.alike C.2.1, C.2.2.2.1, zE_an C.2.2.2.1 C.2.2.2.2 hS hU hW hbA hA⟩⟩ rfl hn hL.1 hst (lv_room (Nat.le_of_ble_eq_true (Nat.ble_eq_true_of_le h8))) hd hf) hS (fun q _ h => hAn q h) hAn (fun u t H1 locs1 ht hvm hw hB hz hk hS1 => ?_)
  obtain ⟨ad, h0, hP1, hD1⟩ := hB
  rw [ht] at hP1
  obtain ⟨hP2, hD2⟩ := zP_ctor hP hDD hAn hk hP1 hD1
  exact g ad h0 H1 locs1 ls hP2 hD2 hS1 hL
def B_u0 : SB := ((0 : Int32), (fun _ => 0))
theorem iX0_11 {p : Program} {l : Launch} {e : Env} {R : Room} {s : State} {m : MethodId} {args : Array Value} {below : List Frame} {meth : Method} {c : Code} {Q : State → Prop} {D : va_G} {A : Nat → Prop} {cc : ByteArray} {nL : Nat} {lv : List (Nat × Value)} {pc : Nat} {st : List Value} {cA : Nat → ClassId} {E : zEt} {k9 n9 : Nat} {ws : va_W} {q0 a : Nat} {fs : List Value} {v : Nat} (C : zC p s m args meth c cc nL RX0 zTS D (zTy cA) A E) (hin : meth.name = "<init>") (he : ws[q0]? = some (a, .inr (0, fs))) (hl : 0 < fs.length) (hd : decode cc pc = .ok (.putfield 11, 3)) (g : yG p l e R s m args below meth c nL D A Q k9 n9 (ws.set q0 (a, .inr (0, fs.set 0 (.ref v)))) lv (pc + 3) (st)) : yG p l e R s m args below meth c nL D A Q k9 n9 ws lv pc (.ref v :: .ref a :: st) := fun H locs ls hP hDD hS hL => va_putF (D := D) (ci := 0) (C := RX0) (T := TX0) (N := 3) C.1.1 C.1.2.1 C.1.2.2.2.2 inlX0 tyX0 tyX0_ok nmX0 C.1.2.2.2.1 C.2.1 hP hDD hS q0 he rfl 0 (by decide) (C.1.2.2.2.2 _ mfX0_11) (fun _ h9 => h9) rfl hin rfl (ty := (.array .int)) (by decide +kernel) rfl rfl hl hd (fun H1 locs1 hP1 hD1 hS1 => g H1 locs1 ls hP1 hD1 hS1 hL)
set_option maxRecDepth 100000 in
set_option maxHeartbeats 4000000 in
theorem cB_init {l : Launch} {D : va_G} {cA : Nat → ClassId} {E : zEt} (a sz : Nat) : Met l yX0_init (zWs yX0_init cX0_init 1 none) (zRmA 1 1 20) (va_Pc [.ref a] (zPreC D (zTy cA) E a sz [(a, .inr (0, [.null, .int 0, .null]))])) (zQc D a sz (fun ad => wB cA ad .null B_u0)) 1 20 (zAn a sz) := by
  refine y_met (lv := [(0, .ref a)]) plX0 rfl (Nat.le_of_ble_eq_true rfl) rfl ?_
  intro p e s m below meth c hC hr hin hsz
  have hA : ∀ q, s.heap.size ≤ q → zAn a sz q := fun q h => Or.inr (hsz ▸ h)
  refine y_aload_n hC dX0_init_0 rfl 0 rfl ?_
  refine y_objInit hC (zMem 181 (by decide +kernel) rfl) (Nat.le_of_ble_eq_true rfl) (Nat.le_of_ble_eq_true rfl) dX0_init_1 ?_
  refine y_aload_n hC dX0_init_4 rfl 0 rfl ?_
  refine y_bipush hC dX0_init_5 kB_20 ?_
  refine y_newa0 hC hA (N := 20) (by decide) (by decide) (Nat.le_of_ble_eq_true rfl) (Nat.le_of_ble_eq_true rfl) (Nat.le_of_ble_eq_true rfl) dX0_init_7 (fun q1 => ?_)
  refine yG_ws (ws2 := [(a, .inr (0, [.null, .int 0, .null])), (q1, .inl (cA 0, 20, .inl (fun _ => 0)))]) rfl ?_
  refine iX0_11 hC hin (q0 := 0) rfl (Nat.le_of_ble_eq_true rfl) dX0_init_9 ?_
  refine yG_ws (ws2 := [(a, .inr (0, [.ref q1, .int 0, .null])), (q1, .inl (cA 0, 20, .inl (fun _ => 0)))]) rfl ?_
  intro H locs ls hP hDD hS hL
  exact W.vret hC.1.1 hC.1.2.1 hr (fun t ht hW => ⟨⟨(), rfl, trivial, (fun i => ([a, q1] : List Nat).getD i 0), rfl, by rw [ht]; exact hP.sub [0, 1] rfl, hDD.sub [0, 1] (by decide) rfl⟩, hS.F ht⟩) hS.2.2 dX0_init_12 hC.2.2.1
set_option maxRecDepth 100000 in
set_option maxHeartbeats 4000000 in
theorem cRd_init {l : Launch} {D : va_G} {cA : Nat → ClassId} {E : zEt} (a sz : Nat) : Met l yX3_init (zWs yX3_init cX3_init 1 none) (zRmA 1 0 0) (va_Pc [.ref a] (zPreC D (zTy cA) E a sz [(a, .inr (3, [.null, .int 0, .int 0, .null]))])) (zQc D a sz (fun ad => [(ad 0, .inr (3, [.null, .int 0, .int 0, .null]))])) 0 0 (zAn a sz) := by
  refine y_met (lv := [(0, .ref a)]) plX3 rfl (Nat.le_of_ble_eq_true rfl) rfl ?_
  intro p e s m below meth c hC hr hin hsz
  have hA : ∀ q, s.heap.size ≤ q → zAn a sz q := fun q h => Or.inr (hsz ▸ h)
  refine y_aload_n hC dX3_init_0 rfl 0 rfl ?_
  refine y_objInit hC (zMem 159 (by decide +kernel) rfl) (Nat.le_of_ble_eq_true rfl) (Nat.le_of_ble_eq_true rfl) dX3_init_1 ?_
  intro H locs ls hP hDD hS hL
  exact W.vret hC.1.1 hC.1.2.1 hr (fun t ht hW => ⟨⟨(), rfl, trivial, (fun i => ([a] : List Nat).getD i 0), rfl, by rw [ht]; exact hP.sub [0] rfl, hDD.sub [0] (by decide) rfl⟩, hS.F ht⟩) hS.2.2 dX3_init_4 hC.2.2.1
theorem iX6_9 {p : Program} {l : Launch} {e : Env} {R : Room} {s : State} {m : MethodId} {args : Array Value} {below : List Frame} {meth : Method} {c : Code} {Q : State → Prop} {D : va_G} {A : Nat → Prop} {cc : ByteArray} {nL : Nat} {lv : List (Nat × Value)} {pc : Nat} {st : List Value} {cA : Nat → ClassId} {E : zEt} {k9 n9 : Nat} {ws : va_W} {q0 a : Nat} {fs : List Value} {v : Int32} (C : zC p s m args meth c cc nL RX6 zTS D (zTy cA) A E) (hin : meth.name = "<init>") (he : ws[q0]? = some (a, .inr (6, fs))) (hl : 0 < fs.length) (hd : decode cc pc = .ok (.putfield 9, 3)) (g : yG p l e R s m args below meth c nL D A Q k9 n9 (ws.set q0 (a, .inr (6, fs.set 0 (.int v)))) lv (pc + 3) (st)) : yG p l e R s m args below meth c nL D A Q k9 n9 ws lv pc (.int v :: .ref a :: st) := fun H locs ls hP hDD hS hL => va_putF (D := D) (ci := 6) (C := RX6) (T := TX6) (N := 3) C.1.1 C.1.2.1 C.1.2.2.2.2 inlX6 tyX6 tyX6_ok nmX6 C.1.2.2.2.1 C.2.1 hP hDD hS q0 he rfl 0 (by decide) (C.1.2.2.2.2 _ mfX6_9) (fun _ h9 => h9) rfl hin rfl (ty := .int) (by decide +kernel) rfl rfl hl hd (fun H1 locs1 hP1 hD1 hS1 => g H1 locs1 ls hP1 hD1 hS1 hL)
theorem iX6_15 {p : Program} {l : Launch} {e : Env} {R : Room} {s : State} {m : MethodId} {args : Array Value} {below : List Frame} {meth : Method} {c : Code} {Q : State → Prop} {D : va_G} {A : Nat → Prop} {cc : ByteArray} {nL : Nat} {lv : List (Nat × Value)} {pc : Nat} {st : List Value} {cA : Nat → ClassId} {E : zEt} {k9 n9 : Nat} {ws : va_W} {q0 a : Nat} {fs : List Value} {v : Int32} (C : zC p s m args meth c cc nL RX6 zTS D (zTy cA) A E) (hin : meth.name = "<init>") (he : ws[q0]? = some (a, .inr (6, fs))) (hl : 1 < fs.length) (hd : decode cc pc = .ok (.putfield 15, 3)) (g : yG p l e R s m args below meth c nL D A Q k9 n9 (ws.set q0 (a, .inr (6, fs.set 1 (.int v)))) lv (pc + 3) (st)) : yG p l e R s m args below meth c nL D A Q k9 n9 ws lv pc (.int v :: .ref a :: st) := fun H locs ls hP hDD hS hL => va_putF (D := D) (ci := 6) (C := RX6) (T := TX6) (N := 3) C.1.1 C.1.2.1 C.1.2.2.2.2 inlX6 tyX6 tyX6_ok nmX6 C.1.2.2.2.1 C.2.1 hP hDD hS q0 he rfl 1 (by decide) (C.1.2.2.2.2 _ mfX6_15) (fun _ h9 => h9) rfl hin rfl (ty := .int) (by decide +kernel) rfl rfl hl hd (fun H1 locs1 hP1 hD1 hS1 => g H1 locs1 ls hP1 hD1 hS1 hL)
theorem iX6_18 {p : Program} {l : Launch} {e : Env} {R : Room} {s : State} {m : MethodId} {args : Array Value} {below : List Frame} {meth : Method} {c : Code} {Q : State → Prop} {D : va_G} {A : Nat → Prop} {cc : ByteArray} {nL : Nat} {lv : List (Nat × Value)} {pc : Nat} {st : List Value} {cA : Nat → ClassId} {E : zEt} {k9 n9 : Nat} {ws : va_W} {q0 a : Nat} {fs : List Value} {v : Int32} (C : zC p s m args meth c cc nL RX6 zTS D (zTy cA) A E) (hin : meth.name = "<init>") (he : ws[q0]? = some (a, .inr (6, fs))) (hl : 2 < fs.length) (hd : decode cc pc = .ok (.putfield 18, 3)) (g : yG p l e R s m args below meth c nL D A Q k9 n9 (ws.set q0 (a, .inr (6, fs.set 2 (.int v)))) lv (pc + 3) (st)) : yG p l e R s m args below meth c nL D A Q k9 n9 ws lv pc (.int v :: .ref a :: st) := fun H locs ls hP hDD hS hL => va_putF (D := D) (ci := 6) (C := RX6) (T := TX6) (N := 3) C.1.1 C.1.2.1 C.1.2.2.2.2 inlX6 tyX6 tyX6_ok nmX6 C.1.2.2.2.1 C.2.1 hP hDD hS q0 he rfl 2 (by decide) (C.1.2.2.2.2 _ mfX6_18) (fun _ h9 => h9) rfl hin rfl (ty := .int) (by decide +kernel) rfl rfl hl hd (fun H1 locs1 hP1 hD1 hS1 => g H1 locs1 ls hP1 hD1 hS1 hL)
set_option maxRecDepth 100000 in
set_option maxHeartbeats 4000000 in
theorem cO_init {l : Launch} {D : va_G} {cA : Nat → ClassId} {E : zEt} (a sz : Nat) (x1 : Int32) (x2 : Int32) (x3 : Int32) : Met l yX6_init (zWs yX6_init cX6_init 4 none) (zRmA 1 0 0) (va_Pc [.ref a, .int x1, .int x2, .int x3] (zPreC D (zTy cA) E a sz [(a, .inr (6, [.int 0, .int 0, .int 0]))])) (zQc D a sz (fun ad => wO cA ad (x1, (x2, x3)))) 0 0 (zAn a sz) := by
  refine y_met (lv := [(0, .ref a), (1, .int x1), (2, .int x2), (3, .int x3)]) plX6 rfl (Nat.le_of_ble_eq_true rfl) rfl ?_
  intro p e s m below meth c hC hr hin hsz
  have hA : ∀ q, s.heap.size ≤ q → zAn a sz q := fun q h => Or.inr (hsz ▸ h)
  refine y_aload_n hC dX6_init_0 rfl 0 rfl ?_
  refine y_objInit hC (zMem 601 (by decide +kernel) rfl) (Nat.le_of_ble_eq_true rfl) (Nat.le_of_ble_eq_true rfl) dX6_init_1 ?_
  refine y_aload_n hC dX6_init_4 rfl 0 rfl ?_
  refine y_iload_n hC dX6_init_5 rfl 1 rfl ?_
  refine iX6_9 hC hin (q0 := 0) rfl (Nat.le_of_ble_eq_true rfl) dX6_init_6 ?_
  refine yG_ws (ws2 := [(a, .inr (6, [.int x1, .int 0, .int 0]))]) rfl ?_
  refine y_aload_n hC dX6_init_9 rfl 0 rfl ?_
  refine y_iload_n hC dX6_init_10 rfl 2 rfl ?_
  refine iX6_15 hC hin (q0 := 0) rfl (Nat.le_of_ble_eq_true rfl) dX6_init_11 ?_
  refine yG_ws (ws2 := [(a, .inr (6, [.int x1, .int x2, .int 0]))]) rfl ?_
  refine y_aload_n hC dX6_init_14 rfl 0 rfl ?_
  refine y_iload_n hC dX6_init_15 rfl 3 rfl ?_
  refine iX6_18 hC hin (q0 := 0) rfl (Nat.le_of_ble_eq_true rfl) dX6_init_16 ?_
  refine yG_ws (ws2 := [(a, .inr (6, [.int x1, .int x2, .int x3]))]) rfl ?_
  intro H locs ls hP hDD hS hL
  exact W.vret hC.1.1 hC.1.2.1 hr (fun t ht hW => ⟨⟨(), rfl, trivial, (fun i => ([a] : List Nat).getD i 0), rfl, by rw [ht]; exact hP.sub [0] rfl, hDD.sub [0] (by decide) rfl⟩, hS.F ht⟩) hS.2.2 dX6_init_19 hC.2.2.1
theorem iX1_9 {p : Program} {l : Launch} {e : Env} {R : Room} {s : State} {m : MethodId} {args : Array Value} {below : List Frame} {meth : Method} {c : Code} {Q : State → Prop} {D : va_G} {A : Nat → Prop} {cc : ByteArray} {nL : Nat} {lv : List (Nat × Value)} {pc : Nat} {st : List Value} {cA : Nat → ClassId} {E : zEt} {k9 n9 : Nat} {ws : va_W} {q0 a : Nat} {fs : List Value} {v : Nat} (C : zC p s m args meth c cc nL RX1 zTS D (zTy cA) A E) (hin : meth.name = "<init>") (he : ws[q0]? = some (a, .inr (1, fs))) (hl : 0 < fs.length) (hd : decode cc pc = .ok (.putfield 9, 3)) (g : yG p l e R s m args below meth c nL D A Q k9 n9 (ws.set q0 (a, .inr (1, fs.set 0 (.ref v)))) lv (pc + 3) (st)) : yG p l e R s m args below meth c nL D A Q k9 n9 ws lv pc (.ref v :: .ref a :: st) := fun H locs ls hP hDD hS hL => va_putF (D := D) (ci := 1) (C := RX1) (T := TX1) (N := 9) C.1.1 C.1.2.1 C.1.2.2.2.2 inlX1 tyX1 tyX1_ok nmX1 C.1.2.2.2.1 C.2.1 hP hDD hS q0 he rfl 0 (by decide) (C.1.2.2.2.2 _ mfX1_9) (fun _ h9 => h9) rfl hin rfl (ty := (.array .int)) (by decide +kernel) rfl rfl hl hd (fun H1 locs1 hP1 hD1 hS1 => g H1 locs1 ls hP1 hD1 hS1 hL)
theorem iX1_15 {p : Program} {l : Launch} {e : Env} {R : Room} {s : State} {m : MethodId} {args : Array Value} {below : List Frame} {meth : Method} {c : Code} {Q : State → Prop} {D : va_G} {A : Nat → Prop} {cc : ByteArray} {nL : Nat} {lv : List (Nat × Value)} {pc : Nat} {st : List Value} {cA : Nat → ClassId} {E : zEt} {k9 n9 : Nat} {ws : va_W} {q0 a : Nat} {fs : List Value} {v : Nat} (C : zC p s m args meth c cc nL RX1 zTS D (zTy cA) A E) (hin : meth.name = "<init>") (he : ws[q0]? = some (a, .inr (1, fs))) (hl : 1 < fs.length) (hd : decode cc pc = .ok (.putfield 15, 3)) (g : yG p l e R s m args below meth c nL D A Q k9 n9 (ws.set q0 (a, .inr (1, fs.set 1 (.ref v)))) lv (pc + 3) (st)) : yG p l e R s m args below meth c nL D A Q k9 n9 ws lv pc (.ref v :: .ref a :: st) := fun H locs ls hP hDD hS hL => va_putF (D := D) (ci := 1) (C := RX1) (T := TX1) (N := 9) C.1.1 C.1.2.1 C.1.2.2.2.2 inlX1 tyX1 tyX1_ok nmX1 C.1.2.2.2.1 C.2.1 hP hDD hS q0 he rfl 1 (by decide) (C.1.2.2.2.2 _ mfX1_15) (fun _ h9 => h9) rfl hin rfl (ty := (.array .int)) (by decide +kernel) rfl rfl hl hd (fun H1 locs1 hP1 hD1 hS1 => g H1 locs1 ls hP1 hD1 hS1 hL)
theorem iX1_18 {p : Program} {l : Launch} {e : Env} {R : Room} {s : State} {m : MethodId} {args : Array Value} {below : List Frame} {meth : Method} {c : Code} {Q : State → Prop} {D : va_G} {A : Nat → Prop} {cc : ByteArray} {nL : Nat} {lv : List (Nat × Value)} {pc : Nat} {st : List Value} {cA : Nat → ClassId} {E : zEt} {k9 n9 : Nat} {ws : va_W} {q0 a : Nat} {fs : List Value} {v : Nat} (C : zC p s m args meth c cc nL RX1 zTS D (zTy cA) A E) (hin : meth.name = "<init>") (he : ws[q0]? = some (a, .inr (1, fs))) (hl : 3 < fs.length) (hd : decode cc pc = .ok (.putfield 18, 3)) (g : yG p l e R s m args below meth c nL D A Q k9 n9 (ws.set q0 (a, .inr (1, fs.set 3 (.ref v)))) lv (pc + 3) (st)) : yG p l e R s m args below meth c nL D A Q k9 n9 ws lv pc (.ref v :: .ref a :: st) := fun H locs ls hP hDD hS hL => va_putF (D := D) (ci := 1) (C := RX1) (T := TX1) (N := 9) C.1.1 C.1.2.1 C.1.2.2.2.2 inlX1 tyX1 tyX1_ok nmX1 C.1.2.2.2.1 C.2.1 hP hDD hS q0 he rfl 3 (by decide) (C.1.2.2.2.2 _ mfX1_18) (fun _ h9 => h9) rfl hin rfl (ty := (.array .int)) (by decide +kernel) rfl rfl hl hd (fun H1 locs1 hP1 hD1 hS1 => g H1 locs1 ls hP1 hD1 hS1 hL)
theorem iX1_21 {p : Program} {l : Launch} {e : Env} {R : Room} {s : State} {m : MethodId} {args : Array Value} {below : List Frame} {meth : Method} {c : Code} {Q : State → Prop} {D : va_G} {A : Nat → Prop} {cc : ByteArray} {nL : Nat} {lv : List (Nat × Value)} {pc : Nat} {st : List Value} {cA : Nat → ClassId} {E : zEt} {k9 n9 : Nat} {ws : va_W} {q0 a : Nat} {fs : List Value} {v : Nat} (C : zC p s m args meth c cc nL RX1 zTS D (zTy cA) A E) (hin : meth.name = "<init>") (he : ws[q0]? = some (a, .inr (1, fs))) (hl : 4 < fs.length) (hd : decode cc pc = .ok (.putfield 21, 3)) (g : yG p l e R s m args below meth c nL D A Q k9 n9 (ws.set q0 (a, .inr (1, fs.set 4 (.ref v)))) lv (pc + 3) (st)) : yG p l e R s m args below meth c nL D A Q k9 n9 ws lv pc (.ref v :: .ref a :: st) := fun H locs ls hP hDD hS hL => va_putF (D := D) (ci := 1) (C := RX1) (T := TX1) (N := 9) C.1.1 C.1.2.1 C.1.2.2.2.2 inlX1 tyX1 tyX1_ok nmX1 C.1.2.2.2.1 C.2.1 hP hDD hS q0 he rfl 4 (by decide) (C.1.2.2.2.2 _ mfX1_21) (fun _ h9 => h9) rfl hin rfl (ty := (.array .int)) (by decide +kernel) rfl rfl hl hd (fun H1 locs1 hP1 hD1 hS1 => g H1 locs1 ls hP1 hD1 hS1 hL)
theorem iX1_24 {p : Program} {l : Launch} {e : Env} {R : Room} {s : State} {m : MethodId} {args : Array Value} {below : List Frame} {meth : Method} {c : Code} {Q : State → Prop} {D : va_G} {A : Nat → Prop} {cc : ByteArray} {nL : Nat} {lv : List (Nat × Value)} {pc : Nat} {st : List Value} {cA : Nat → ClassId} {E : zEt} {k9 n9 : Nat} {ws : va_W} {q0 a : Nat} {fs : List Value} {v : Nat} (C : zC p s m args meth c cc nL RX1 zTS D (zTy cA) A E) (hin : meth.name = "<init>") (he : ws[q0]? = some (a, .inr (1, fs))) (hl : 5 < fs.length) (hd : decode cc pc = .ok (.putfield 24, 3)) (g : yG p l e R s m args below meth c nL D A Q k9 n9 (ws.set q0 (a, .inr (1, fs.set 5 (.ref v)))) lv (pc + 3) (st)) : yG p l e R s m args below meth c nL D A Q k9 n9 ws lv pc (.ref v :: .ref a :: st) := fun H locs ls hP hDD hS hL => va_putF (D := D) (ci := 1) (C := RX1) (T := TX1) (N := 9) C.1.1 C.1.2.1 C.1.2.2.2.2 inlX1 tyX1 tyX1_ok nmX1 C.1.2.2.2.1 C.2.1 hP hDD hS q0 he rfl 5 (by decide) (C.1.2.2.2.2 _ mfX1_24) (fun _ h9 => h9) rfl hin rfl (ty := (.array .int)) (by decide +kernel) rfl rfl hl hd (fun H1 locs1 hP1 hD1 hS1 => g H1 locs1 ls hP1 hD1 hS1 hL)
theorem iX1_27 {p : Program} {l : Launch} {e : Env} {R : Room} {s : State} {m : MethodId} {args : Array Value} {below : List Frame} {meth : Method} {c : Code} {Q : State → Prop} {D : va_G} {A : Nat → Prop} {cc : ByteArray} {nL : Nat} {lv : List (Nat × Value)} {pc : Nat} {st : List Value} {cA : Nat → ClassId} {E : zEt} {k9 n9 : Nat} {ws : va_W} {q0 a : Nat} {fs : List Value} {v : Nat} (C : zC p s m args meth c cc nL RX1 zTS D (zTy cA) A E) (hin : meth.name = "<init>") (he : ws[q0]? = some (a, .inr (1, fs))) (hl : 7 < fs.length) (hd : decode cc pc = .ok (.putfield 27, 3)) (g : yG p l e R s m args below meth c nL D A Q k9 n9 (ws.set q0 (a, .inr (1, fs.set 7 (.ref v)))) lv (pc + 3) (st)) : yG p l e R s m args below meth c nL D A Q k9 n9 ws lv pc (.ref v :: .ref a :: st) := fun H locs ls hP hDD hS hL => va_putF (D := D) (ci := 1) (C := RX1) (T := TX1) (N := 9) C.1.1 C.1.2.1 C.1.2.2.2.2 inlX1 tyX1 tyX1_ok nmX1 C.1.2.2.2.1 C.2.1 hP hDD hS q0 he rfl 7 (by decide) (C.1.2.2.2.2 _ mfX1_27) (fun _ h9 => h9) rfl hin rfl (ty := (.array .int)) (by decide +kernel) rfl rfl hl hd (fun H1 locs1 hP1 hD1 hS1 => g H1 locs1 ls hP1 hD1 hS1 hL)
def H_z : SH := ((((0 : Int32), (0 : Int32)), ((0 : Int32), (fun _ => 0))), (((fun _ => 0), (fun _ => 0)), ((fun _ => 0), ((fun _ => 0), (fun _ => 0)))))
def H_p0 : Int32 × Int32 × Int32 × (Nat → Int32) × (Nat → Int32) := (mH_clear H_z).getD (0, 0, 0, (fun _ => 0), (fun _ => 0))
theorem H_p0_eq : mH_clear H_z = some H_p0 := by
  have h : (mH_clear H_z).isSome = true := by decide +kernel
  unfold H_p0
  cases hq : mH_clear H_z with
  | none => rw [hq] at h; cases h
  | some p => rfl
def H_u0 : SH := H_put_late_clauses_stepCount_sounds_swaps H_p0 H_z
set_option maxRecDepth 100000 in
set_option maxHeartbeats 4000000 in
theorem cH_init {l : Launch} {D : va_G} {cA : Nat → ClassId} {tK tB : Nat} {kS vS : Nat → Nat} (a sz : Nat) : Met l yX1_init (zWs yX1_init cX1_init 1 none) (zRmA 1 6 160) (va_Pc [.ref a] (zPreC D (zTy cA) (zE tK tB kS vS) a sz [(a, .inr (1, [.null, .null, .int 0, .null, .null, .null, .int 0, .null, .int 0]))])) (zQc D a sz (fun ad => wH cA ad H_u0)) 6 160 (zAn a sz) := by
  refine y_met (lv := [(0, .ref a)]) plX1 rfl (Nat.le_of_ble_eq_true rfl) rfl ?_
  intro p e s m below meth c hC hr hin hsz
  have hA : ∀ q, s.heap.size ≤ q → zAn a sz q := fun q h => Or.inr (hsz ▸ h)
  refine y_aload_n hC dX1_init_0 rfl 0 rfl ?_
  refine y_objInit hC (zMem 238 (by decide +kernel) rfl) (Nat.le_of_ble_eq_true rfl) (Nat.le_of_ble_eq_true rfl) dX1_init_1 ?_
  refine y_aload_n hC dX1_init_4 rfl 0 rfl ?_
  refine y_bipush hC dX1_init_5 kB_20 ?_
  refine y_newa0 hC hA (N := 20) (by decide) (by decide) (Nat.le_of_ble_eq_true rfl) (Nat.le_of_ble_eq_true rfl) (Nat.le_of_ble_eq_true rfl) dX1_init_7 (fun q1 => ?_)
  refine yG_ws (ws2 := [(a, .inr (1, [.null, .null, .int 0, .null, .null, .null, .int 0, .null, .int 0])), (q1, .inl (cA 0, 20, .inl (fun _ => 0)))]) rfl ?_
  refine iX1_9 hC hin (q0 := 0) rfl (Nat.le_of_ble_eq_true rfl) dX1_init_9 ?_
  refine yG_ws (ws2 := [(a, .inr (1, [.ref q1, .null, .int 0, .null, .null, .null, .int 0, .null, .int 0])), (q1, .inl (cA 0, 20, .inl (fun _ => 0)))]) rfl ?_
  refine y_aload_n hC dX1_init_12 rfl 0 rfl ?_
  refine y_bipush hC dX1_init_13 kB_10 ?_
  refine y_newa0 hC hA (N := 10) (by decide) (by decide) (Nat.le_of_ble_eq_true rfl) (Nat.le_of_ble_eq_true rfl) (Nat.le_of_ble_eq_true rfl) dX1_init_15 (fun q2 => ?_)
  refine yG_ws (ws2 := [(a, .inr (1, [.ref q1, .null, .int 0, .null, .null, .null, .int 0, .null, .int 0])), (q1, .inl (cA 0, 20, .inl (fun _ => 0))), (q2, .inl (cA 0, 10, .inl (fun _ => 0)))]) rfl ?_
  refine iX1_15 hC hin (q0 := 0) rfl (Nat.le_of_ble_eq_true rfl) dX1_init_17 ?_
  refine yG_ws (ws2 := [(a, .inr (1, [.ref q1, .ref q2, .int 0, .null, .null, .null, .int 0, .null, .int 0])), (q1, .inl (cA 0, 20, .inl (fun _ => 0))), (q2, .inl (cA 0, 10, .inl (fun _ => 0)))]) rfl ?_
  refine y_aload_n hC dX1_init_20 rfl 0 rfl ?_
  refine y_bipush hC dX1_init_21 kB_10 ?_
  refine y_newa0 hC hA (N := 10) (by decide) (by decide) (Nat.le_of_ble_eq_true rfl) (Nat.le_of_ble_eq_true rfl) (Nat.le_of_ble_eq_true rfl) dX1_init_23 (fun q3 => ?_)
  refine yG_ws (ws2 := [(a, .inr (1, [.ref q1, .ref q2, .int 0, .null, .null, .null, .int 0, .null, .int 0])), (q1, .inl (cA 0, 20, .inl (fun _ => 0))), (q2, .inl (cA 0, 10, .inl (fun _ => 0))), (q3, .inl (cA 0, 10, .inl (fun _ => 0)))]) rfl ?_
  refine iX1_18 hC hin (q0 := 0) rfl (Nat.le_of_ble_eq_true rfl) dX1_init_25 ?_
  refine yG_ws (ws2 := [(a, .inr (1, [.ref q1, .ref q2, .int 0, .ref q3, .null, .null, .int 0, .null, .int 0])), (q1, .inl (cA 0, 20, .inl (fun _ => 0))), (q2, .inl (cA 0, 10, .inl (fun _ => 0))), (q3, .inl (cA 0, 10, .inl (fun _ => 0)))]) rfl ?_
  refine y_aload_n hC dX1_init_28 rfl 0 rfl ?_
  refine y_bipush hC dX1_init_29 kB_10 ?_
  refine y_newa0 hC hA (N := 10) (by decide) (by decide) (Nat.le_of_ble_eq_true rfl) (Nat.le_of_ble_eq_true rfl) (Nat.le_of_ble_eq_true rfl) dX1_init_31 (fun q4 => ?_)
  refine yG_ws (ws2 := [(a, .inr (1, [.ref q1, .ref q2, .int 0, .ref q3, .null, .null, .int 0, .null, .int 0])), (q1, .inl (cA 0, 20, .inl (fun _ => 0))), (q2, .inl (cA 0, 10, .inl (fun _ => 0))), (q3, .inl (cA 0, 10, .inl (fun _ => 0))), (q4, .inl (cA 0, 10, .inl (fun _ => 0)))]) rfl ?_
  refine iX1_21 hC hin (q0 := 0) rfl (Nat.le_of_ble_eq_true rfl) dX1_init_33 ?_
  refine yG_ws (ws2 := [(a, .inr (1, [.ref q1, .ref q2, .int 0, .ref q3, .ref q4, .null, .int 0, .null, .int 0])), (q1, .inl (cA 0, 20, .inl (fun _ => 0))), (q2, .inl (cA 0, 10, .inl (fun _ => 0))), (q3, .inl (cA 0, 10, .inl (fun _ => 0))), (q4, .inl (cA 0, 10, .inl (fun _ => 0)))]) rfl ?_
  refine y_aload_n hC dX1_init_36 rfl 0 rfl ?_
  refine y_bipush hC dX1_init_37 kB_10 ?_
  refine y_newa0 hC hA (N := 10) (by decide) (by decide) (Nat.le_of_ble_eq_true rfl) (Nat.le_of_ble_eq_true rfl) (Nat.le_of_ble_eq_true rfl) dX1_init_39 (fun q5 => ?_)
  refine yG_ws (ws2 := [(a, .inr (1, [.ref q1, .ref q2, .int 0, .ref q3, .ref q4, .null, .int 0, .null, .int 0])), (q1, .inl (cA 0, 20, .inl (fun _ => 0))), (q2, .inl (cA 0, 10, .inl (fun _ => 0))), (q3, .inl (cA 0, 10, .inl (fun _ => 0))), (q4, .inl (cA 0, 10, .inl (fun _ => 0))), (q5, .inl (cA 0, 10, .inl (fun _ => 0)))]) rfl ?_
  refine iX1_24 hC hin (q0 := 0) rfl (Nat.le_of_ble_eq_true rfl) dX1_init_41 ?_
  refine yG_ws (ws2 := [(a, .inr (1, [.ref q1, .ref q2, .int 0, .ref q3, .ref q4, .ref q5, .int 0, .null, .int 0])), (q1, .inl (cA 0, 20, .inl (fun _ => 0))), (q2, .inl (cA 0, 10, .inl (fun _ => 0))), (q3, .inl (cA 0, 10, .inl (fun _ => 0))), (q4, .inl (cA 0, 10, .inl (fun _ => 0))), (q5, .inl (cA 0, 10, .inl (fun _ => 0)))]) rfl ?_
  refine y_aload_n hC dX1_init_44 rfl 0 rfl ?_
  refine y_bipush hC dX1_init_45 kB_100 ?_
  refine y_newa0 hC hA (N := 100) (by decide) (by decide) (Nat.le_of_ble_eq_true rfl) (Nat.le_of_ble_eq_true rfl) (Nat.le_of_ble_eq_true rfl) dX1_init_47 (fun q6 => ?_)
  refine yG_ws (ws2 := [(a, .inr (1, [.ref q1, .ref q2, .int 0, .ref q3, .ref q4, .ref q5, .int 0, .null, .int 0])), (q1, .inl (cA 0, 20, .inl (fun _ => 0))), (q2, .inl (cA 0, 10, .inl (fun _ => 0))), (q3, .inl (cA 0, 10, .inl (fun _ => 0))), (q4, .inl (cA 0, 10, .inl (fun _ => 0))), (q5, .inl (cA 0, 10, .inl (fun _ => 0))), (q6, .inl (cA 0, 100, .inl (fun _ => 0)))]) rfl ?_
  refine iX1_27 hC hin (q0 := 0) rfl (Nat.le_of_ble_eq_true rfl) dX1_init_49 ?_
  refine yG_ws (ws2 := [(a, .inr (1, [.ref q1, .ref q2, .int 0, .ref q3, .ref q4, .ref q5, .int 0, .ref q6, .int 0])), (q1, .inl (cA 0, 20, .inl (fun _ => 0))), (q2, .inl (cA 0, 10, .inl (fun _ => 0))), (q3, .inl (cA 0, 10, .inl (fun _ => 0))), (q4, .inl (cA 0, 10, .inl (fun _ => 0))), (q5, .inl (cA 0, 10, .inl (fun _ => 0))), (q6, .inl (cA 0, 100, .inl (fun _ => 0)))]) rfl ?_
  refine y_aload_n hC dX1_init_52 rfl 0 rfl ?_
  refine yG_ws (ws2 := wH cA (fun i => ([a, q1, q2, q3, q4, q5, q6] : List Nat).getD i 0) H_z) rfl ?_
  refine y_inj (N := 7) (ad := (fun i => ([a, q1, q2, q3, q4, q5, q6] : List Nat).getD i 0)) rfl (fun hI hAd => ?_)
  refine y_callvV hC (cH_clear (cA := cA) (ad := (fun i => ([a, q1, q2, q3, q4, q5, q6] : List Nat).getD i 0)) hI H_z H_p0_eq) (cwX1_30 hC.1.2.2.2.2 rfl rfl ⟨Nat.le_of_ble_eq_true rfl, Nat.le_of_ble_eq_true rfl⟩) (Nat.le_of_ble_eq_true rfl) (Nat.le_of_ble_eq_true rfl) dX1_init_53 rfl rfl (Nat.le_of_ble_eq_true rfl) ⟨_, rfl, rfl⟩ (List.mem_of_getElem? (heH_o cA (fun i => ([a, q1, q2, q3, q4, q5, q6] : List Nat).getD i 0) H_z)) (fun _ h => h) hAd zJ_same (fun h => zD_fst (ws := wH cA (fun i => ([a, q1, q2, q3, q4, q5, q6] : List Nat).getD i 0) H_z) rfl h) ?_
  intro H locs ls hP hDD hS hL
  exact W.vret hC.1.1 hC.1.2.1 hr (fun t ht hW => ⟨⟨(), rfl, trivial, (fun i => ([a, q1, q2, q3, q4, q5, q6] : List Nat).getD i 0), rfl, by rw [ht]; exact hP, hDD⟩, hS.F ht⟩) hS.2.2 dX1_init_56 hC.2.2.1
