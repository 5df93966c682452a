theorem xM_X8_247 {p : Program} {l : Launch} {e : Env} {s : State} {m : MethodId} {args : Array Value} {below : List Frame} {meth : Method} {c : Code} {Q : State → Prop} {D : va_G} {A : Nat → Prop} {cc : ByteArray} {nL : Nat} {lv : List (Nat × Value)} {pc : Nat} {st : List Value} {cA : Nat → ClassId} {ad : Nat → Nat} {E : zEt} {d : Nat} {x1 : Int32} {x2 : Int32} {u : SM} (hI : zInj ad 23) (C : zC p s m args meth c cc nL RX8 zTS D (zTy cA) A E) (hdm : 0 + 1 ≤ d) (hd : decode cc pc = .ok (.invokevirtual 247, 3)) (h8 : (st.map fun v => v.category).sum ≤ 8) (g : zG p l e (zRm d) s m args below meth c nL D A Q (wM cA ad u) lv (pc + 3) (.int (mM_min x1 x2) :: st)) : zG p l e (zRm d) s m args below meth c nL D A Q (wM cA ad u) lv pc (.int x2 :: .int x1 :: .ref (ad 0) :: st) :=
  z_calliV C (cM_min hI x1 x2 u rfl) (cwX8_247 C.1.2.2.2.2 rfl rfl ⟨hdm, by have := hdm; simp only [zRm]; omega⟩) hd rfl rfl h8 ⟨_, rfl, rfl⟩ (List.mem_of_getElem? (heM_o cA ad u)) (fun _ h => h) (fun _ h => h.elim) zJ_ro g
theorem xM_X8_243 {p : Program} {l : Launch} {e : Env} {s : State} {m : MethodId} {args : Array Value} {below : List Frame} {meth : Method} {c : Code} {Q : State → Prop} {D : va_G} {A : Nat → Prop} {cc : ByteArray} {nL : Nat} {lv : List (Nat × Value)} {pc : Nat} {st : List Value} {cA : Nat → ClassId} {ad : Nat → Nat} {E : zEt} {d : Nat} {x1 : Int32} {x2 : Int32} {x3 : Int32} {x4 : Int32} {u : SM} (hI : zInj ad 23) (C : zC p s m args meth c cc nL RX8 zTS D (zTy cA) A E) (hdm : 2 + 1 ≤ d) (hA : ∀ q, zAd ad 23 q → A q) {β : Type} {f : (Int32 × (Nat → Int32)) → Option β} {o : β} (hm : (mM_holds x1 x2 x3 x4 u).bind f = some o) (hd : decode cc pc = .ok (.invokevirtual 243, 3)) (h8 : (st.map fun v => v.category).sum ≤ 8) (g : ∀ q, f q = some o → zG p l e (zRm d) s m args below meth c nL D A Q (wM cA ad (M_put_pile q.2 u)) lv (pc + 3) (.int q.1 :: st)) : zG p l e (zRm d) s m args below meth c nL D A Q (wM cA ad u) lv pc (.int x4 :: .int x3 :: .int x2 :: .int x1 :: .ref (ad 0) :: st) := by
  obtain ⟨q, h1, h2⟩ := zb_some hm
  exact z_calliV C (cM_holds hI x1 x2 x3 x4 u h1) (cwX8_243 C.1.2.2.2.2 rfl rfl ⟨hdm, by have := hdm; simp only [zRm]; omega⟩) hd rfl rfl h8 ⟨_, rfl, rfl⟩ (List.mem_of_getElem? (heM_o cA ad u)) (fun _ h => h) hA zJ_same (g q h2)
def mM_unsure_L9 (x1 : Int32) (x2 : Int32) (x3 : Int32) (x4 : Int32) : Nat → Int32 → Int32 → SM → Option (Int32 × (Nat → Int32))
  | 0, _, _, _ => none
  | n + 1, x5, x6, u => (mM_behind u).bind fun q1 => (if q1 ≤ x6 then (some ((mM_min (60 : Int32) x5), ((M_pile u)))) else (zgi x6 50 (if ((M_word u) (x6).toNatClampNeg) = x1 then ((mM_holds x6 x2 x3 x4 u).bind fun q2 => (if q2.1 = 0 then (mM_unsure_L9 x1 x2 x3 x4 n (x5 + (0 : Int32)) (x6 + (1 : Int32)) (M_put_pile (q2.2) u)) else (zgi x6 50 (mM_unsure_L9 x1 x2 x3 x4 n (x5 + ((M_number u) (x6).toNatClampNeg)) (x6 + (1 : Int32)) (M_put_pile (q2.2) u))))) else (mM_unsure_L9 x1 x2 x3 x4 n (x5 + (0 : Int32)) (x6 + (1 : Int32)) u))))
set_option maxRecDepth 100000 in
set_option maxHeartbeats 4000000 in
theorem lM_unsure_9 {l : Launch} {D : va_G} {cA : Nat → ClassId} {ad : Nat → Nat} {p : Program} {e : Env} {s : State} {m : MethodId} {args : Array Value} {below : List Frame} {meth : Method} {c : Code} {E : zEt} {r : Int32} {w' : (Nat → Int32)}  {x1 : Int32} {x2 : Int32} {x3 : Int32} {x4 : Int32} (hI : zInj ad 23) (hC : zC p s m args meth c cX8_unsure 7 RX8 zTS D (zTy cA) (zAd ad 23) E) (hr : meth.sig.returnType = (some .int)) : ∀ (n : Nat) (x5 : Int32) (x6 : Int32) (u : SM), mM_unsure_L9 x1 x2 x3 x4 n x5 x6 u = some (r, w') → zG p l e (zRm 3) s m args below meth c 7 D (zAd ad 23) (MQ below (zQi r (zBw D (wM cA ad (M_put_pile w' u))) (zAd ad 23)) args s 0 0 (zAd ad 23)) (wM cA ad u) [(0, .ref (ad 0)), (1, .int x1), (2, .int x2), (3, .int x3), (4, .int x4), (5, .int x5), (6, .int x6)] 9 [] := by
  intro n
  induction n with
  | zero => intro x5 x6 u hm; exact z_none hm
  | succ n ih =>
    intro x5 x6 u hm
    rw [mM_unsure_L9] at hm
    refine z_iload hC dX8_unsure_9 6 rfl ?_
    refine z_aload_n hC dX8_unsure_11 rfl 0 rfl ?_
    refine xM_X8_219 hI hC (Nat.le_of_ble_eq_true rfl) hm dX8_unsure_12 (Nat.le_of_ble_eq_true rfl) (fun q1 hm => ?_)
    refine z_icmp_ge (tgt := 64) hC hm dX8_unsure_15 (by decide) (fun hm => ?_) (fun hm => ?_)
    · refine z_aload_n hC dX8_unsure_64 rfl 0 rfl ?_
      refine z_bipush hC dX8_unsure_65 kB_60 ?_
      refine z_iload hC dX8_unsure_67 5 rfl ?_
      refine xM_X8_247 hI hC (Nat.le_of_ble_eq_true rfl) dX8_unsure_69 (Nat.le_of_ble_eq_true rfl) ?_
      exact riM (fin := fun z => M_put_pile z u) hC hr rfl dX8_unsure_72 hm rfl
    · refine z_iload hC dX8_unsure_18 5 rfl ?_
      refine z_aload_n hC dX8_unsure_20 rfl 0 rfl ?_
      refine gM_X8_60_o hC dX8_unsure_21 ?_
      refine z_iload hC dX8_unsure_24 6 rfl ?_
      refine aM_word hC hm dX8_unsure_26 (fun hm => ?_)
      refine z_iload_n hC dX8_unsure_27 rfl 1 rfl ?_
      refine z_icmp_ne (tgt := 54) hC hm dX8_unsure_28 (by decide) (fun hm => ?_) (fun hm => ?_)
      · refine z_aload_n hC dX8_unsure_31 rfl 0 rfl ?_
        refine z_iload hC dX8_unsure_32 6 rfl ?_
        refine z_iload_n hC dX8_unsure_34 rfl 2 rfl ?_
        refine z_iload_n hC dX8_unsure_35 rfl 3 rfl ?_
        refine z_iload hC dX8_unsure_36 4 rfl ?_
        refine xM_X8_243 hI hC (Nat.le_of_ble_eq_true rfl) (fun _ h => h) hm dX8_unsure_38 (Nat.le_of_ble_eq_true rfl) (fun q2 hm => ?_)
        refine zuM (u2 := (M_put_pile (q2.2) u)) rfl ?_
        refine z_if_eq (tgt := 54) hC hm dX8_unsure_41 (by decide) (fun hm => ?_) (fun hm => ?_)
        · refine z_iconst hC dX8_unsure_54 kI_0 ?_
          refine z_iadd hC dX8_unsure_55 ?_
          refine z_istore (lv' := [(5, .int (x5 + (0 : Int32))), (0, .ref (ad 0)), (1, .int x1), (2, .int x2), (3, .int x3), (4, .int x4), (6, .int x6)]) hC dX8_unsure_56 (by decide) rfl ?_
          refine z_iinc (lv' := [(6, .int (x6 + (1 : Int32))), (5, .int (x5 + (0 : Int32))), (0, .ref (ad 0)), (1, .int x1), (2, .int x2), (3, .int x3), (4, .int x4)]) (k := 6) (v := (x6 + (1 : Int32))) hC dX8_unsure_58 rfl rfl (by decide) rfl ?_
          refine z_goto (tgt := 9) hC dX8_unsure_61 (by decide) ?_
          refine z_lv hC [2, 3, 4, 5, 6, 1, 0] rfl ?_
          exact ih _ _ _ hm
        · refine z_aload_n hC dX8_unsure_44 rfl 0 rfl ?_
          refine gM_X8_66_o hC dX8_unsure_45 ?_
          refine z_iload hC dX8_unsure_48 6 rfl ?_
          refine aM_number hC hm dX8_unsure_50 (fun hm => ?_)
          refine z_goto (tgt := 55) hC dX8_unsure_51 (by decide) ?_
          refine z_iadd hC dX8_unsure_55 ?_
          refine z_istore (lv' := [(5, .int (x5 + ((M_number u) (x6).toNatClampNeg))), (0, .ref (ad 0)), (1, .int x1), (2, .int x2), (3, .int x3), (4, .int x4), (6, .int x6)]) hC dX8_unsure_56 (by decide) rfl ?_
          refine z_iinc (lv' := [(6, .int (x6 + (1 : Int32))), (5, .int (x5 + ((M_number u) (x6).toNatClampNeg))), (0, .ref (ad 0)), (1, .int x1), (2, .int x2), (3, .int x3), (4, .int x4)]) (k := 6) (v := (x6 + (1 : Int32))) hC dX8_unsure_58 rfl rfl (by decide) rfl ?_
          refine z_goto (tgt := 9) hC dX8_unsure_61 (by decide) ?_
          refine z_lv hC [2, 3, 4, 5, 6, 1, 0] rfl ?_
          exact ih _ _ _ hm
      · refine z_iconst hC dX8_unsure_54 kI_0 ?_
        refine z_iadd hC dX8_unsure_55 ?_
        refine z_istore (lv' := [(5, .int (x5 + (0 : Int32))), (0, .ref (ad 0)), (1, .int x1), (2, .int x2), (3, .int x3), (4, .int x4), (6, .int x6)]) hC dX8_unsure_56 (by decide) rfl ?_
        refine z_iinc (lv' := [(6, .int (x6 + (1 : Int32))), (5, .int (x5 + (0 : Int32))), (0, .ref (ad 0)), (1, .int x1), (2, .int x2), (3, .int x3), (4, .int x4)]) (k := 6) (v := (x6 + (1 : Int32))) hC dX8_unsure_58 rfl rfl (by decide) rfl ?_
        refine z_goto (tgt := 9) hC dX8_unsure_61 (by decide) ?_
        refine z_lv hC [2, 3, 4, 5, 6, 1, 0] rfl ?_
        exact ih _ _ _ hm
def mM_unsure (x1 : Int32) (x2 : Int32) (x3 : Int32) (x4 : Int32) (u : SM) : Option (Int32 × (Nat → Int32)) :=
  mM_unsure_L9 x1 x2 x3 x4 256 (1 : Int32) (mM_first u) u
set_option maxRecDepth 100000 in
set_option maxHeartbeats 4000000 in
theorem cM_unsure {l : Launch} {D : va_G} {cA : Nat → ClassId} {ad : Nat → Nat} {E : zEt} (hI : zInj ad 23) (x1 : Int32) (x2 : Int32) (x3 : Int32) (x4 : Int32) (u : SM) {r : Int32} {w' : (Nat → Int32)} (hm : mM_unsure x1 x2 x3 x4 u = some (r, w')) : Met l yX8_unsure (zWs yX8_unsure cX8_unsure 7 (some .int)) (zRm 3) (va_Pc [.ref (ad 0), .int x1, .int x2, .int x3, .int x4] (zPre D (zTy cA) E (zAd ad 23) (wM cA ad u))) (zQi r (zBw D (wM cA ad (M_put_pile w' u))) (zAd ad 23)) 0 0 (zAd ad 23) := by
  refine z_met (lv := [(0, .ref (ad 0)), (1, .int x1), (2, .int x2), (3, .int x3), (4, .int x4)]) plX8 rfl rfl (Nat.le_of_ble_eq_true rfl) rfl ?_
  intro p e s m below meth c hC hr hin
  unfold mM_unsure at hm
  refine z_iconst hC dX8_unsure_0 kI_1 ?_
  refine z_istore (lv' := [(5, .int (1 : Int32)), (0, .ref (ad 0)), (1, .int x1), (2, .int x2), (3, .int x3), (4, .int x4)]) hC dX8_unsure_1 (by decide) rfl ?_
  refine z_aload_n hC dX8_unsure_3 rfl 1 rfl ?_
  refine xM_X8_216 hI hC (Nat.le_of_ble_eq_true rfl) dX8_unsure_4 (Nat.le_of_ble_eq_true rfl) ?_
  refine z_istore (lv' := [(6, .int (mM_first u)), (5, .int (1 : Int32)), (0, .ref (ad 0)), (1, .int x1), (2, .int x2), (3, .int x3), (4, .int x4)]) hC dX8_unsure_7 (by decide) rfl ?_
  refine z_lv hC [2, 3, 4, 5, 6, 1, 0] rfl ?_
  exact lM_unsure_9 hI hC hr _ _ _ _ hm
theorem xM_X8_250 {p : Program} {l : Launch} {e : Env} {s : State} {m : MethodId} {args : Array Value} {below : List Frame} {meth : Method} {c : Code} {Q : State → Prop} {D : va_G} {A : Nat → Prop} {cc : ByteArray} {nL : Nat} {lv : List (Nat × Value)} {pc : Nat} {st : List Value} {cA : Nat → ClassId} {ad : Nat → Nat} {E : zEt} {d : Nat} {x1 : Int32} {x2 : Int32} {x3 : Int32} {x4 : Int32} {u : SM} (hI : zInj ad 23) (C : zC p s m args meth c cc nL RX8 zTS D (zTy cA) A E) (hdm : 3 + 1 ≤ d) (hA : ∀ q, zAd ad 23 q → A q) {β : Type} {f : (Int32 × (Nat → Int32)) → Option β} {o : β} (hm : (mM_unsure x1 x2 x3 x4 u).bind f = some o) (hd : decode cc pc = .ok (.invokevirtual 250, 3)) (h8 : (st.map fun v => v.category).sum ≤ 8) (g : ∀ q, f q = some o → zG p l e (zRm d) s m args below meth c nL D A Q (wM cA ad (M_put_pile q.2 u)) lv (pc + 3) (.int q.1 :: st)) : zG p l e (zRm d) s m args below meth c nL D A Q (wM cA ad u) lv pc (.int x4 :: .int x3 :: .int x2 :: .int x1 :: .ref (ad 0) :: st) := by
  obtain ⟨q, h1, h2⟩ := zb_some hm
  exact z_calliV C (cM_unsure hI x1 x2 x3 x4 u h1) (cwX8_250 C.1.2.2.2.2 rfl rfl ⟨hdm, by have := hdm; simp only [zRm]; omega⟩) hd rfl rfl h8 ⟨_, rfl, rfl⟩ (List.mem_of_getElem? (heM_o cA ad u)) (fun _ h => h) hA zJ_same (g q h2)
theorem aM_v {p : Program} {l : Launch} {e : Env} {R : Room} {s : State} {m : MethodId} {args : Array Value} {below : List Frame} {meth : Method} {c : Code} {Q : State → Prop} {D : va_G} {A : Nat → Prop} {cc : ByteArray} {nL : Nat} {lv : List (Nat × Value)} {pc : Nat} {st : List Value} {cA : Nat → ClassId} {ad : Nat → Nat} {E : zEt} {own : String} {u : SM} {i : Int32} {β : Type} {k : Option β} {r : β} (C : zC p s m args meth c cc nL own zTS D (zTy cA) A E) (hm : zgi i 10 k = some r) (hd : decode cc pc = .ok (.iaload, 1)) (g : k = some r → zG p l e R s m args below meth c nL D A Q (wM cA ad u) lv (pc + 1) (.int (M_v u i.toNatClampNeg) :: st)) : zG p l e R s m args below meth c nL D A Q (wM cA ad u) lv pc (.int i :: .ref (ad 15) :: st) := fun H locs ls hP hS hL => va_iald C.1.1 C.1.2.1 C.2.1 hP 15 0 (heM_v cA ad u) rfl (zgi_some hm).1 hd (g (zgi_some hm).2 H locs ls hP hS hL)
def mM_earOf_J30 (x1 : Int32) (x4 : Int32) (u : SM) : Option (Int32 × (Nat → Int32)) :=
  zgi x1 10 (some ((x4 + ((M_v u) (x1).toNatClampNeg)), ((M_pile u))))
set_option maxRecDepth 100000 in
set_option maxHeartbeats 4000000 in
theorem jM_earOf_30 {l : Launch} {D : va_G} {cA : Nat → ClassId} {ad : Nat → Nat} {p : Program} {e : Env} {s : State} {m : MethodId} {args : Array Value} {below : List Frame} {meth : Method} {c : Code} {E : zEt} {r : Int32} {w' : (Nat → Int32)}  {x1 : Int32} {x4 : Int32} {u : SM} (hI : zInj ad 23) (hC : zC p s m args meth c cX8_earOf 5 RX8 zTS D (zTy cA) (zAd ad 23) E) (hr : meth.sig.returnType = (some .int)) (hm : mM_earOf_J30 x1 x4 u = some (r, w')) : zG p l e (zRm 4) s m args below meth c 5 D (zAd ad 23) (MQ below (zQi r (zBw D (wM cA ad (M_put_pile w' u))) (zAd ad 23)) args s 0 0 (zAd ad 23)) (wM cA ad u) [(0, .ref (ad 0)), (1, .int x1), (4, .int x4)] 30 [] := by
  unfold mM_earOf_J30 at hm
  refine z_iload hC dX8_earOf_30 2 rfl ?_
  refine z_aload_n hC dX8_earOf_32 rfl 0 rfl ?_
  refine gM_X8_99_o hC dX8_earOf_33 ?_
  refine z_iload_n hC dX8_earOf_36 rfl 1 rfl ?_
  refine aM_v hC hm dX8_earOf_37 (fun hm => ?_)
  refine z_iadd hC dX8_earOf_38 ?_
  refine z_goto (tgt := 72) hC dX8_earOf_39 (by decide) ?_
  exact riM (fin := fun z => M_put_pile z u) hC hr rfl dX8_earOf_72 hm rfl
def mM_earOf (x1 : Int32) (x2 : Int32) (x3 : Int32) (u : SM) : Option (Int32 × (Nat → Int32)) :=
  (mM_unsure (0 : Int32) x1 x2 x3 u).bind fun q1 => (zgi x1 10 (if ((M_kind u) (x1).toNatClampNeg) = (2 : Int32) then (mM_earOf_J30 x1 q1.1 (M_put_pile (q1.2) u)) else (zgi x1 10 (if ((M_kind u) (x1).toNatClampNeg) = (5 : Int32) then (mM_earOf_J30 x1 q1.1 (M_put_pile (q1.2) u)) else (zgi x1 10 (if ((M_kind u) (x1).toNatClampNeg) = (3 : Int32) then (some (((2 : Int32) * q1.1), (q1.2))) else (zgi x1 10 (if ((M_kind u) (x1).toNatClampNeg) = (6 : Int32) then (some (((2 : Int32) * q1.1), (q1.2))) else (some (q1.1, (q1.2)))))))))))
set_option maxRecDepth 100000 in
set_option maxHeartbeats 4000000 in
theorem cM_earOf {l : Launch} {D : va_G} {cA : Nat → ClassId} {ad : Nat → Nat} {E : zEt} (hI : zInj ad 23) (x1 : Int32) (x2 : Int32) (x3 : Int32) (u : SM) {r : Int32} {w' : (Nat → Int32)} (hm : mM_earOf x1 x2 x3 u = some (r, w')) : Met l yX8_earOf (zWs yX8_earOf cX8_earOf 5 (some .int)) (zRm 4) (va_Pc [.ref (ad 0), .int x1, .int x2, .int x3] (zPre D (zTy cA) E (zAd ad 23) (wM cA ad u))) (zQi r (zBw D (wM cA ad (M_put_pile w' u))) (zAd ad 23)) 0 0 (zAd ad 23) := by
  refine z_met (lv := [(0, .ref (ad 0)), (1, .int x1), (2, .int x2), (3, .int x3)]) plX8 rfl rfl (Nat.le_of_ble_eq_true rfl) rfl ?_
  intro p e s m below meth c hC hr hin
  unfold mM_earOf at hm
  refine z_aload_n hC dX8_earOf_0 rfl 0 rfl ?_
  refine z_iconst hC dX8_earOf_1 kI_0 ?_
  refine z_iload_n hC dX8_earOf_2 rfl 1 rfl ?_
  refine z_iload_n hC dX8_earOf_3 rfl 2 rfl ?_
  refine z_iload_n hC dX8_earOf_4 rfl 3 rfl ?_
  refine xM_X8_250 hI hC (Nat.le_of_ble_eq_true rfl) (fun _ h => h) hm dX8_earOf_5 (Nat.le_of_ble_eq_true rfl) (fun q1 hm => ?_)
  refine zuM (u2 := (M_put_pile (q1.2) u)) rfl ?_
  refine z_istore (lv' := [(4, .int q1.1), (0, .ref (ad 0)), (1, .int x1), (2, .int x2), (3, .int x3)]) hC dX8_earOf_8 (by decide) rfl ?_
  refine z_aload_n hC dX8_earOf_10 rfl 1 rfl ?_
  refine gM_X8_96_o hC dX8_earOf_11 ?_
  refine z_iload_n hC dX8_earOf_14 rfl 2 rfl ?_
  refine aM_kind hC hm dX8_earOf_15 (fun hm => ?_)
  refine z_iconst hC dX8_earOf_16 kI_2 ?_
  refine z_icmp_eq (tgt := 30) hC hm dX8_earOf_17 (by decide) (fun hm => ?_) (fun hm => ?_)
  · refine z_lv hC [1, 2, 0] rfl ?_
    exact jM_earOf_30 hI hC hr hm
  · refine z_aload_n hC dX8_earOf_20 rfl 1 rfl ?_
    refine gM_X8_96_o hC dX8_earOf_21 ?_
    refine z_iload_n hC dX8_earOf_24 rfl 2 rfl ?_
    refine aM_kind hC hm dX8_earOf_25 (fun hm => ?_)
    refine z_iconst hC dX8_earOf_26 kI_5 ?_
    refine z_icmp_ne (tgt := 42) hC hm dX8_earOf_27 (by decide) (fun hm => ?_) (fun hm => ?_)
    · refine z_lv hC [1, 2, 0] rfl ?_
      exact jM_earOf_30 hI hC hr hm
    · refine z_aload_n hC dX8_earOf_42 rfl 1 rfl ?_
      refine gM_X8_96_o hC dX8_earOf_43 ?_
      refine z_iload_n hC dX8_earOf_46 rfl 2 rfl ?_
      refine aM_kind hC hm dX8_earOf_47 (fun hm => ?_)
      refine z_iconst hC dX8_earOf_48 kI_3 ?_
      refine z_icmp_eq (tgt := 63) hC hm dX8_earOf_49 (by decide) (fun hm => ?_) (fun hm => ?_)
      · refine z_iconst hC dX8_earOf_63 kI_2 ?_
        refine z_iload hC dX8_earOf_64 0 rfl ?_
        refine z_imul hC dX8_earOf_66 ?_
        refine z_goto (tgt := 72) hC dX8_earOf_67 (by decide) ?_
        exact riM (fin := fun z => M_put_pile z u) hC hr rfl dX8_earOf_72 hm rfl
      · refine z_aload_n hC dX8_earOf_52 rfl 1 rfl ?_
        refine gM_X8_96_o hC dX8_earOf_53 ?_
        refine z_iload_n hC dX8_earOf_56 rfl 2 rfl ?_
        refine aM_kind hC hm dX8_earOf_57 (fun hm => ?_)
        refine z_bipush hC dX8_earOf_58 kB_6 ?_
        refine z_icmp_ne (tgt := 70) hC hm dX8_earOf_60 (by decide) (fun hm => ?_) (fun hm => ?_)
        · refine z_iconst hC dX8_earOf_63 kI_2 ?_
          refine z_iload hC dX8_earOf_64 0 rfl ?_
          refine z_imul hC dX8_earOf_66 ?_
          refine z_goto (tgt := 72) hC dX8_earOf_67 (by decide) ?_
          exact riM (fin := fun z => M_put_pile z u) hC hr rfl dX8_earOf_72 hm rfl
        · refine z_iload hC dX8_earOf_70 0 rfl ?_
          exact riM (fin := fun z => M_put_pile z u) hC hr rfl dX8_earOf_72 hm rfl
def mM_soundsOf_J17 (x1 : Int32) (x2 : Int32) (u : SM) : Option Int32 :=
  zgi x1 10 (if (M_mouth u) ≤ x2 then (some ((M_mouth u) + (mM_min ((M_v u) (x1).toNatClampNeg) (mM_apart (M_mouth u) x2)))) else (some ((M_mouth u) - (mM_min ((M_v u) (x1).toNatClampNeg) (mM_apart (M_mouth u) x2)))))
set_option maxRecDepth 100000 in
set_option maxHeartbeats 4000000 in
theorem jM_soundsOf_17 {l : Launch} {D : va_G} {cA : Nat → ClassId} {ad : Nat → Nat} {p : Program} {e : Env} {s : State} {m : MethodId} {args : Array Value} {below : List Frame} {meth : Method} {c : Code} {E : zEt} {r : Int32}  {x1 : Int32} {x2 : Int32} {u : SM} (hI : zInj ad 23) (hC : zC p s m args meth c cX8_soundsOf 5 RX8 zTS D (zTy cA) zA0 E) (hr : meth.sig.returnType = (some .int)) (hm : mM_soundsOf_J17 x1 x2 u = some r) : zG p l e (zRm 1) s m args below meth c 5 D zA0 (MQ below (zQi r zB0 zA0) args s 0 0 zA0) (wM cA ad u) [(0, .ref (ad 0)), (1, .int x1), (2, .int x2)] 17 [] := by
  unfold mM_soundsOf_J17 at hm
  refine z_aload_n hC dX8_soundsOf_17 rfl 0 rfl ?_
  refine z_aload_n hC dX8_soundsOf_18 rfl 0 rfl ?_
  refine gM_X8_99_o hC dX8_soundsOf_19 ?_
  refine z_iload_n hC dX8_soundsOf_22 rfl 1 rfl ?_
  refine aM_v hC hm dX8_soundsOf_23 (fun hm => ?_)
  refine z_aload_n hC dX8_soundsOf_24 rfl 0 rfl ?_
  refine z_aload_n hC dX8_soundsOf_25 rfl 0 rfl ?_
  refine gM_X8_7_o (v := (M_mouth u)) hC dX8_soundsOf_26 rfl ?_
  refine z_iload_n hC dX8_soundsOf_29 rfl 2 rfl ?_
  refine xM_X8_233 hI hC (Nat.le_of_ble_eq_true rfl) dX8_soundsOf_30 (Nat.le_of_ble_eq_true rfl) ?_
  refine xM_X8_247 hI hC (Nat.le_of_ble_eq_true rfl) dX8_soundsOf_33 (Nat.le_of_ble_eq_true rfl) ?_
  refine z_istore (lv' := [(4, .int (mM_min ((M_v u) (x1).toNatClampNeg) (mM_apart (M_mouth u) x2))), (0, .ref (ad 0)), (1, .int x1), (2, .int x2)]) hC dX8_soundsOf_36 (by decide) rfl ?_
  refine z_iload_n hC dX8_soundsOf_38 rfl 3 rfl ?_
  refine z_aload_n hC dX8_soundsOf_39 rfl 1 rfl ?_
  refine gM_X8_7_o (v := (M_mouth u)) hC dX8_soundsOf_40 rfl ?_
  refine z_icmp_ge (tgt := 56) hC hm dX8_soundsOf_43 (by decide) (fun hm => ?_) (fun hm => ?_)
  · refine z_aload_n hC dX8_soundsOf_56 rfl 1 rfl ?_
    refine gM_X8_7_o (v := (M_mouth u)) hC dX8_soundsOf_57 rfl ?_
    refine z_iload hC dX8_soundsOf_60 0 rfl ?_
    refine z_iadd hC dX8_soundsOf_62 ?_
    exact z_iret hC hr rfl dX8_soundsOf_63 (fun _ _ => trivial) (Option.some.inj hm)
  · refine z_aload_n hC dX8_soundsOf_46 rfl 1 rfl ?_
    refine gM_X8_7_o (v := (M_mouth u)) hC dX8_soundsOf_47 rfl ?_
    refine z_iload hC dX8_soundsOf_50 0 rfl ?_
    refine z_isub hC dX8_soundsOf_52 ?_
    refine z_goto (tgt := 63) hC dX8_soundsOf_53 (by decide) ?_
    exact z_iret hC hr rfl dX8_soundsOf_63 (fun _ _ => trivial) (Option.some.inj hm)
def mM_soundsOf_J113 (s0 : Int32) (u : SM) : Option Int32 :=
  if 0 ≤ s0 then (if s0 ≤ (40 : Int32) then (some s0) else (some (40 : Int32))) else (some (0 : Int32))
set_option maxRecDepth 100000 in
set_option maxHeartbeats 4000000 in
theorem jM_soundsOf_113 {l : Launch} {D : va_G} {cA : Nat → ClassId} {ad : Nat → Nat} {p : Program} {e : Env} {s : State} {m : MethodId} {args : Array Value} {below : List Frame} {meth : Method} {c : Code} {E : zEt} {r : Int32}  {s0 : Int32} {u : SM} (hI : zInj ad 23) (hC : zC p s m args meth c cX8_soundsOf 5 RX8 zTS D (zTy cA) zA0 E) (hr : meth.sig.returnType = (some .int)) (hm : mM_soundsOf_J113 s0 u = some r) : zG p l e (zRm 1) s m args below meth c 5 D zA0 (MQ below (zQi r zB0 zA0) args s 0 0 zA0) (wM cA ad u) [] 113 [.int s0] := by
  unfold mM_soundsOf_J113 at hm
  refine z_istore (lv' := [(4, .int s0)]) hC dX8_soundsOf_113 (by decide) rfl ?_
  refine z_iload hC dX8_soundsOf_115 0 rfl ?_
  refine z_if_ge (tgt := 124) hC hm dX8_soundsOf_117 (by decide) (fun hm => ?_) (fun hm => ?_)
  · refine z_iload hC dX8_soundsOf_124 0 rfl ?_
    refine z_bipush hC dX8_soundsOf_126 kB_40 ?_
    refine z_icmp_le (tgt := 136) hC hm dX8_soundsOf_128 (by decide) (fun hm => ?_) (fun hm => ?_)
    · refine z_iload hC dX8_soundsOf_136 0 rfl ?_
      exact z_iret hC hr rfl dX8_soundsOf_138 (fun _ _ => trivial) (Option.some.inj hm)
    · refine z_bipush hC dX8_soundsOf_131 kB_40 ?_
      refine z_goto (tgt := 138) hC dX8_soundsOf_133 (by decide) ?_
      exact z_iret hC hr rfl dX8_soundsOf_138 (fun _ _ => trivial) (Option.some.inj hm)
  · refine z_iconst hC dX8_soundsOf_120 kI_0 ?_
    refine z_goto (tgt := 138) hC dX8_soundsOf_121 (by decide) ?_
    exact z_iret hC hr rfl dX8_soundsOf_138 (fun _ _ => trivial) (Option.some.inj hm)
def mM_soundsOf_J80 (x1 : Int32) (x2 : Int32) (u : SM) : Option Int32 :=
  if x2 ≤ (M_mouth u) then (zgi x1 10 (mM_soundsOf_J113 ((M_mouth u) + ((M_v u) (x1).toNatClampNeg)) u)) else (zgi x1 10 (mM_soundsOf_J113 ((M_mouth u) - ((M_v u) (x1).toNatClampNeg)) u))
set_option maxRecDepth 100000 in
set_option maxHeartbeats 4000000 in
theorem jM_soundsOf_80 {l : Launch} {D : va_G} {cA : Nat → ClassId} {ad : Nat → Nat} {p : Program} {e : Env} {s : State} {m : MethodId} {args : Array Value} {below : List Frame} {meth : Method} {c : Code} {E : zEt} {r : Int32}  {x1 : Int32} {x2 : Int32} {u : SM} (hI : zInj ad 23) (hC : zC p s m args meth c cX8_soundsOf 5 RX8 zTS D (zTy cA) zA0 E) (hr : meth.sig.returnType = (some .int)) (hm : mM_soundsOf_J80 x1 x2 u = some r) : zG p l e (zRm 1) s m args below meth c 5 D zA0 (MQ below (zQi r zB0 zA0) args s 0 0 zA0) (wM cA ad u) [(0, .ref (ad 0)), (1, .int x1), (2, .int x2)] 80 [] := by
  unfold mM_soundsOf_J80 at hm
  refine z_iload_n hC dX8_soundsOf_80 rfl 2 rfl ?_
  refine z_aload_n hC dX8_soundsOf_81 rfl 0 rfl ?_
  refine gM_X8_7_o (v := (M_mouth u)) hC dX8_soundsOf_82 rfl ?_
  refine z_icmp_le (tgt := 102) hC hm dX8_soundsOf_85 (by decide) (fun hm => ?_) (fun hm => ?_)
  · refine z_aload_n hC dX8_soundsOf_102 rfl 0 rfl ?_
    refine gM_X8_7_o (v := (M_mouth u)) hC dX8_soundsOf_103 rfl ?_
    refine z_aload_n hC dX8_soundsOf_106 rfl 0 rfl ?_
    refine gM_X8_99_o hC dX8_soundsOf_107 ?_
    refine z_iload_n hC dX8_soundsOf_110 rfl 1 rfl ?_
    refine aM_v hC hm dX8_soundsOf_111 (fun hm => ?_)
    refine z_iadd hC dX8_soundsOf_112 ?_
    refine z_lv hC [] rfl ?_
    exact jM_soundsOf_113 hI hC hr hm
  · refine z_aload_n hC dX8_soundsOf_88 rfl 0 rfl ?_
    refine gM_X8_7_o (v := (M_mouth u)) hC dX8_soundsOf_89 rfl ?_
    refine z_aload_n hC dX8_soundsOf_92 rfl 0 rfl ?_
    refine gM_X8_99_o hC dX8_soundsOf_93 ?_
    refine z_iload_n hC dX8_soundsOf_96 rfl 1 rfl ?_
    refine aM_v hC hm dX8_soundsOf_97 (fun hm => ?_)
    refine z_isub hC dX8_soundsOf_98 ?_
    refine z_goto (tgt := 113) hC dX8_soundsOf_99 (by decide) ?_
    refine z_lv hC [] rfl ?_
    exact jM_soundsOf_113 hI hC hr hm
def mM_soundsOf (x1 : Int32) (x2 : Int32) (u : SM) : Option Int32 :=
  zgi x1 10 (if ((M_kind u) (x1).toNatClampNeg) = (1 : Int32) then (mM_soundsOf_J17 x1 x2 u) else (if ((M_kind u) (x1).toNatClampNeg) = (4 : Int32) then (mM_soundsOf_J17 x1 x2 u) else (if ((M_kind u) (x1).toNatClampNeg) = (3 : Int32) then (mM_soundsOf_J80 x1 x2 u) else (if ((M_kind u) (x1).toNatClampNeg) = (6 : Int32) then (mM_soundsOf_J80 x1 x2 u) else (some (M_mouth u))))))
set_option maxRecDepth 100000 in
set_option maxHeartbeats 4000000 in
theorem cM_soundsOf {l : Launch} {D : va_G} {cA : Nat → ClassId} {ad : Nat → Nat} {E : zEt} (hI : zInj ad 23) (x1 : Int32) (x2 : Int32) (u : SM) {r : Int32} (hm : mM_soundsOf x1 x2 u = some r) : Met l yX8_soundsOf (zWs yX8_soundsOf cX8_soundsOf 5 (some .int)) (zRm 1) (va_Pc [.ref (ad 0), .int x1, .int x2] (zPre D (zTy cA) E zA0 (wM cA ad u))) (zQi r zB0 zA0) 0 0 zA0 := by
  refine z_met (lv := [(0, .ref (ad 0)), (1, .int x1), (2, .int x2)]) plX8 rfl rfl (Nat.le_of_ble_eq_true rfl) rfl ?_
  intro p e s m below meth c hC hr hin
  unfold mM_soundsOf at hm
  refine z_aload_n hC dX8_soundsOf_0 rfl 0 rfl ?_
  refine gM_X8_96_o hC dX8_soundsOf_1 ?_
  refine z_iload_n hC dX8_soundsOf_4 rfl 1 rfl ?_
  refine aM_kind hC hm dX8_soundsOf_5 (fun hm => ?_)
  refine z_istore_n (lv' := [(3, .int ((M_kind u) (x1).toNatClampNeg)), (0, .ref (ad 0)), (1, .int x1), (2, .int x2)]) hC dX8_soundsOf_6 rfl (by decide) rfl ?_
  refine z_iload_n hC dX8_soundsOf_7 rfl 0 rfl ?_
  refine z_iconst hC dX8_soundsOf_8 kI_1 ?_
  refine z_icmp_eq (tgt := 17) hC hm dX8_soundsOf_9 (by decide) (fun hm => ?_) (fun hm => ?_)
  · refine z_lv hC [1, 2, 3] rfl ?_
    exact jM_soundsOf_17 hI hC hr hm
  · refine z_iload_n hC dX8_soundsOf_12 rfl 0 rfl ?_
    refine z_iconst hC dX8_soundsOf_13 kI_4 ?_
    refine z_icmp_ne (tgt := 64) hC hm dX8_soundsOf_14 (by decide) (fun hm => ?_) (fun hm => ?_)
    · refine z_lv hC [1, 2, 3] rfl ?_
      exact jM_soundsOf_17 hI hC hr hm
    · refine z_iload_n hC dX8_soundsOf_64 rfl 0 rfl ?_
      refine z_iconst hC dX8_soundsOf_65 kI_3 ?_
      refine z_icmp_eq (tgt := 80) hC hm dX8_soundsOf_66 (by decide) (fun hm => ?_) (fun hm => ?_)
      · refine z_lv hC [1, 2, 3] rfl ?_
        exact jM_soundsOf_80 hI hC hr hm
      · refine z_iload_n hC dX8_soundsOf_69 rfl 0 rfl ?_
        refine z_bipush hC dX8_soundsOf_70 kB_6 ?_
        refine z_icmp_eq (tgt := 80) hC hm dX8_soundsOf_72 (by decide) (fun hm => ?_) (fun hm => ?_)
        · refine z_lv hC [1, 2, 3] rfl ?_
          exact jM_soundsOf_80 hI hC hr hm
        · refine z_aload_n hC dX8_soundsOf_75 rfl 1 rfl ?_
          refine gM_X8_7_o (v := (M_mouth u)) hC dX8_soundsOf_76 rfl ?_
          exact z_iret hC hr rfl dX8_soundsOf_79 (fun _ _ => trivial) (Option.some.inj hm)
theorem gM_X8_25_o {p : Program} {l : Launch} {e : Env} {R : Room} {s : State} {m : MethodId} {args : Array Value} {below : List Frame} {meth : Method} {c : Code} {Q : State → Prop} {D : va_G} {A : Nat → Prop} {cc : ByteArray} {nL : Nat} {lv : List (Nat × Value)} {pc : Nat} {st : List Value} {cA : Nat → ClassId} {ad : Nat → Nat} {E : zEt} {u : SM} (C : zC p s m args meth c cc nL RX8 zTS D (zTy cA) A E) (hd : decode cc pc = .ok (.getfield 25, 3)) {v : Int64} (hv : M_moves u = v) (g : zG p l e R s m args below meth c nL D A Q (wM cA ad u) lv (pc + 3) (.long v :: st)) : zG p l e R s m args below meth c nL D A Q (wM cA ad u) lv pc (.ref (ad 0) :: st) := by
  subst hv; exact fun H locs ls hP hS hL => va_get (D := D) (ci := 8) (C := RX8) (T := TX8) (N := 45) C.1.1 C.1.2.1 C.1.2.2.2.2 inlX8 C.1.2.2.2.1 C.2.1 hP 0 (heM_o cA ad u) rfl 5 (by decide) (C.1.2.2.2.2 _ mfX8_25) (fun _ h9 => h9) (v := .long (M_moves u)) rfl hd (g H locs ls hP hS hL)
def mM_movesBy_L37 (x2 : Int32) (x4 : Int32) (x5 : Int32) (u : SM) : Nat → Int32 → Int32 → Option Int32
  | 0, _, _ => none
  | n + 1, x6, x7 => if (40 : Int32) ≤ x7 then (some x6) else (if x4 < (mM_apart x7 x2) then (mM_movesBy_L37 x2 x4 x5 u n (x6 + (0 : Int32)) (x7 + (1 : Int32))) else (if x7 < x5 then (mM_movesBy_L37 x2 x4 x5 u n (x6 + (0 : Int32)) (x7 + (1 : Int32))) else (if (lg_cmp (((M_moves u) >>> (((x7 - x5)).toInt64 &&& 63)) &&& (1 : Int64)) (1 : Int64)) = 0 then (mM_movesBy_L37 x2 x4 x5 u n (x6 + (1 : Int32)) (x7 + (1 : Int32))) else (mM_movesBy_L37 x2 x4 x5 u n (x6 + (0 : Int32)) (x7 + (1 : Int32))))))
set_option maxRecDepth 100000 in
set_option maxHeartbeats 4000000 in
theorem lM_movesBy_37 {l : Launch} {D : va_G} {cA : Nat → ClassId} {ad : Nat → Nat} {p : Program} {e : Env} {s : State} {m : MethodId} {args : Array Value} {below : List Frame} {meth : Method} {c : Code} {E : zEt} {r : Int32}  {x2 : Int32} {x4 : Int32} {x5 : Int32} {u : SM} (hI : zInj ad 23) (hC : zC p s m args meth c cX8_movesBy 8 RX8 zTS D (zTy cA) zA0 E) (hr : meth.sig.returnType = (some .int)) : ∀ (n : Nat) (x6 : Int32) (x7 : Int32), mM_movesBy_L37 x2 x4 x5 u n x6 x7 = some r → zG p l e (zRm 3) s m args below meth c 8 D zA0 (MQ below (zQi r zB0 zA0) args s 0 0 zA0) (wM cA ad u) [(0, .ref (ad 0)), (2, .int x2), (4, .int x4), (5, .int x5), (6, .int x6), (7, .int x7)] 37 [] := by
  intro n
  induction n with
  | zero => intro x6 x7 hm; exact z_none hm
  | succ n ih =>
    intro x6 x7 hm
    rw [mM_movesBy_L37] at hm
    refine z_iload hC dX8_movesBy_37 5 rfl ?_
    refine z_bipush hC dX8_movesBy_39 kB_40 ?_
    refine z_icmp_ge (tgt := 96) hC hm dX8_movesBy_41 (by decide) (fun hm => ?_) (fun hm => ?_)
    · refine z_iload hC dX8_movesBy_96 4 rfl ?_
      exact z_iret hC hr rfl dX8_movesBy_98 (fun _ _ => trivial) (Option.some.inj hm)
    · refine z_iload hC dX8_movesBy_44 4 rfl ?_
      refine z_aload_n hC dX8_movesBy_46 rfl 0 rfl ?_
      refine z_iload hC dX8_movesBy_47 5 rfl ?_
      refine z_iload_n hC dX8_movesBy_49 rfl 1 rfl ?_
      refine xM_X8_233 hI hC (Nat.le_of_ble_eq_true rfl) dX8_movesBy_50 (Nat.le_of_ble_eq_true rfl) ?_
      refine z_iload hC dX8_movesBy_53 2 rfl ?_
      refine z_icmp_gt (tgt := 86) hC hm dX8_movesBy_55 (by decide) (fun hm => ?_) (fun hm => ?_)
      · refine z_iconst hC dX8_movesBy_86 kI_0 ?_
        refine z_iadd hC dX8_movesBy_87 ?_
        refine z_istore (lv' := [(6, .int (x6 + (0 : Int32))), (0, .ref (ad 0)), (2, .int x2), (4, .int x4), (5, .int x5), (7, .int x7)]) hC dX8_movesBy_88 (by decide) rfl ?_
        refine z_iinc (lv' := [(7, .int (x7 + (1 : Int32))), (6, .int (x6 + (0 : Int32))), (0, .ref (ad 0)), (2, .int x2), (4, .int x4), (5, .int x5)]) (k := 5) (v := (x7 + (1 : Int32))) hC dX8_movesBy_90 rfl rfl (by decide) rfl ?_
        refine z_goto (tgt := 37) hC dX8_movesBy_93 (by decide) ?_
        refine z_lv hC [2, 3, 4, 5, 1, 0] rfl ?_
        exact ih _ _ hm
      · refine z_iload hC dX8_movesBy_58 5 rfl ?_
        refine z_iload hC dX8_movesBy_60 3 rfl ?_
        refine z_icmp_lt (tgt := 86) hC hm dX8_movesBy_62 (by decide) (fun hm => ?_) (fun hm => ?_)
        · refine z_iconst hC dX8_movesBy_86 kI_0 ?_
          refine z_iadd hC dX8_movesBy_87 ?_
          refine z_istore (lv' := [(6, .int (x6 + (0 : Int32))), (0, .ref (ad 0)), (2, .int x2), (4, .int x4), (5, .int x5), (7, .int x7)]) hC dX8_movesBy_88 (by decide) rfl ?_
          refine z_iinc (lv' := [(7, .int (x7 + (1 : Int32))), (6, .int (x6 + (0 : Int32))), (0, .ref (ad 0)), (2, .int x2), (4, .int x4), (5, .int x5)]) (k := 5) (v := (x7 + (1 : Int32))) hC dX8_movesBy_90 rfl rfl (by decide) rfl ?_
          refine z_goto (tgt := 37) hC dX8_movesBy_93 (by decide) ?_
          refine z_lv hC [2, 3, 4, 5, 1, 0] rfl ?_
          exact ih _ _ hm
        · refine z_aload_n hC dX8_movesBy_65 rfl 0 rfl ?_
          refine gM_X8_25_o (v := (M_moves u)) hC dX8_movesBy_66 rfl ?_
          refine z_iload hC dX8_movesBy_69 5 rfl ?_
          refine z_iload hC dX8_movesBy_71 3 rfl ?_
          refine z_isub hC dX8_movesBy_73 ?_
          refine z_lshr hC dX8_movesBy_74 ?_
          refine z_lconst hC dX8_movesBy_75 kL_1 ?_
          refine z_land hC dX8_movesBy_76 ?_
          refine z_lconst hC dX8_movesBy_77 kL_1 ?_
          refine z_lcmp hC dX8_movesBy_78 ?_
          refine z_if_ne (tgt := 86) hC hm dX8_movesBy_79 (by decide) (fun hm => ?_) (fun hm => ?_)
          · refine z_iconst hC dX8_movesBy_82 kI_1 ?_
            refine z_goto (tgt := 87) hC dX8_movesBy_83 (by decide) ?_
            refine z_iadd hC dX8_movesBy_87 ?_
            refine z_istore (lv' := [(6, .int (x6 + (1 : Int32))), (0, .ref (ad 0)), (2, .int x2), (4, .int x4), (5, .int x5), (7, .int x7)]) hC dX8_movesBy_88 (by decide) rfl ?_
            refine z_iinc (lv' := [(7, .int (x7 + (1 : Int32))), (6, .int (x6 + (1 : Int32))), (0, .ref (ad 0)), (2, .int x2), (4, .int x4), (5, .int x5)]) (k := 5) (v := (x7 + (1 : Int32))) hC dX8_movesBy_90 rfl rfl (by decide) rfl ?_
            refine z_goto (tgt := 37) hC dX8_movesBy_93 (by decide) ?_
            refine z_lv hC [2, 3, 4, 5, 1, 0] rfl ?_
            exact ih _ _ hm
          · refine z_iconst hC dX8_movesBy_86 kI_0 ?_
            refine z_iadd hC dX8_movesBy_87 ?_
            refine z_istore (lv' := [(6, .int (x6 + (0 : Int32))), (0, .ref (ad 0)), (2, .int x2), (4, .int x4), (5, .int x5), (7, .int x7)]) hC dX8_movesBy_88 (by decide) rfl ?_
            refine z_iinc (lv' := [(7, .int (x7 + (1 : Int32))), (6, .int (x6 + (0 : Int32))), (0, .ref (ad 0)), (2, .int x2), (4, .int x4), (5, .int x5)]) (k := 5) (v := (x7 + (1 : Int32))) hC dX8_movesBy_90 rfl rfl (by decide) rfl ?_
            refine z_goto (tgt := 37) hC dX8_movesBy_93 (by decide) ?_
            refine z_lv hC [2, 3, 4, 5, 1, 0] rfl ?_
            exact ih _ _ hm
def mM_movesBy (x1 : Int32) (x2 : Int32) (x3 : Int32) (u : SM) : Option Int32 :=
  (mM_lateNow u).bind fun q1 => (zgi x1 10 (if ((M_kind u) (x1).toNatClampNeg) = (6 : Int32) then (zgi x1 10 (mM_movesBy_L37 x2 q1 (x3 + ((M_v u) (x1).toNatClampNeg)) u 256 (0 : Int32) (0 : Int32))) else (mM_movesBy_L37 x2 q1 (x3 + (0 : Int32)) u 256 (0 : Int32) (0 : Int32))))
set_option maxRecDepth 100000 in
set_option maxHeartbeats 4000000 in
theorem cM_movesBy {l : Launch} {D : va_G} {cA : Nat → ClassId} {ad : Nat → Nat} {E : zEt} (hI : zInj ad 23) (x1 : Int32) (x2 : Int32) (x3 : Int32) (u : SM) {r : Int32} (hm : mM_movesBy x1 x2 x3 u = some r) : Met l yX8_movesBy (zWs yX8_movesBy cX8_movesBy 8 (some .int)) (zRm 3) (va_Pc [.ref (ad 0), .int x1, .int x2, .int x3] (zPre D (zTy cA) E zA0 (wM cA ad u))) (zQi r zB0 zA0) 0 0 zA0 := by
  refine z_met (lv := [(0, .ref (ad 0)), (1, .int x1), (2, .int x2), (3, .int x3)]) plX8 rfl rfl (Nat.le_of_ble_eq_true rfl) rfl ?_
  intro p e s m below meth c hC hr hin
  unfold mM_movesBy at hm
  refine z_aload_n hC dX8_movesBy_0 rfl 0 rfl ?_
  refine xM_X8_230 hI hC (Nat.le_of_ble_eq_true rfl) hm dX8_movesBy_1 (Nat.le_of_ble_eq_true rfl) (fun q1 hm => ?_)
  refine z_istore (lv' := [(4, .int q1), (0, .ref (ad 0)), (1, .int x1), (2, .int x2), (3, .int x3)]) hC dX8_movesBy_4 (by decide) rfl ?_
  refine z_iload_n hC dX8_movesBy_6 rfl 4 rfl ?_
  refine z_aload_n hC dX8_movesBy_7 rfl 1 rfl ?_
  refine gM_X8_96_o hC dX8_movesBy_8 ?_
  refine z_iload_n hC dX8_movesBy_11 rfl 2 rfl ?_
  refine aM_kind hC hm dX8_movesBy_12 (fun hm => ?_)
  refine z_bipush hC dX8_movesBy_13 kB_6 ?_
  refine z_icmp_ne (tgt := 27) hC hm dX8_movesBy_15 (by decide) (fun hm => ?_) (fun hm => ?_)
  · refine z_aload_n hC dX8_movesBy_18 rfl 1 rfl ?_
    refine gM_X8_99_o hC dX8_movesBy_19 ?_
    refine z_iload_n hC dX8_movesBy_22 rfl 2 rfl ?_
    refine aM_v hC hm dX8_movesBy_23 (fun hm => ?_)
    refine z_goto (tgt := 28) hC dX8_movesBy_24 (by decide) ?_
    refine z_iadd hC dX8_movesBy_28 ?_
    refine z_istore (lv' := [(5, .int (x3 + ((M_v u) (x1).toNatClampNeg))), (4, .int q1), (0, .ref (ad 0)), (1, .int x1), (2, .int x2), (3, .int x3)]) hC dX8_movesBy_29 (by decide) rfl ?_
    refine z_iconst hC dX8_movesBy_31 kI_0 ?_
    refine z_istore (lv' := [(6, .int (0 : Int32)), (5, .int (x3 + ((M_v u) (x1).toNatClampNeg))), (4, .int q1), (0, .ref (ad 0)), (1, .int x1), (2, .int x2), (3, .int x3)]) hC dX8_movesBy_32 (by decide) rfl ?_
    refine z_iconst hC dX8_movesBy_34 kI_0 ?_
    refine z_istore (lv' := [(7, .int (0 : Int32)), (6, .int (0 : Int32)), (5, .int (x3 + ((M_v u) (x1).toNatClampNeg))), (4, .int q1), (0, .ref (ad 0)), (1, .int x1), (2, .int x2), (3, .int x3)]) hC dX8_movesBy_35 (by decide) rfl ?_
    refine z_lv hC [4, 6, 3, 2, 1, 0] rfl ?_
    exact lM_movesBy_37 hI hC hr _ _ _ hm
  · refine z_iconst hC dX8_movesBy_27 kI_0 ?_
    refine z_iadd hC dX8_movesBy_28 ?_
    refine z_istore (lv' := [(5, .int (x3 + (0 : Int32))), (4, .int q1), (0, .ref (ad 0)), (1, .int x1), (2, .int x2), (3, .int x3)]) hC dX8_movesBy_29 (by decide) rfl ?_
    refine z_iconst hC dX8_movesBy_31 kI_0 ?_
    refine z_istore (lv' := [(6, .int (0 : Int32)), (5, .int (x3 + (0 : Int32))), (4, .int q1), (0, .ref (ad 0)), (1, .int x1), (2, .int x2), (3, .int x3)]) hC dX8_movesBy_32 (by decide) rfl ?_
    refine z_iconst hC dX8_movesBy_34 kI_0 ?_
    refine z_istore (lv' := [(7, .int (0 : Int32)), (6, .int (0 : Int32)), (5, .int (x3 + (0 : Int32))), (4, .int q1), (0, .ref (ad 0)), (1, .int x1), (2, .int x2), (3, .int x3)]) hC dX8_movesBy_35 (by decide) rfl ?_
    refine z_lv hC [4, 6, 3, 2, 1, 0] rfl ?_
    exact lM_movesBy_37 hI hC hr _ _ _ hm
theorem xM_X8_253 {p : Program} {l : Launch} {e : Env} {s : State} {m : MethodId} {args : Array Value} {below : List Frame} {meth : Method} {c : Code} {Q : State → Prop} {D : va_G} {A : Nat → Prop} {cc : ByteArray} {nL : Nat} {lv : List (Nat × Value)} {pc : Nat} {st : List Value} {cA : Nat → ClassId} {ad : Nat → Nat} {E : zEt} {d : Nat} {x1 : Int32} {x2 : Int32} {u : SM} (hI : zInj ad 23) (C : zC p s m args meth c cc nL RX8 zTS D (zTy cA) A E) (hdm : 1 + 1 ≤ d) {β : Type} {f : Int32 → Option β} {o : β} (hm : (mM_soundsOf x1 x2 u).bind f = some o) (hd : decode cc pc = .ok (.invokevirtual 253, 3)) (h8 : (st.map fun v => v.category).sum ≤ 8) (g : ∀ q, f q = some o → zG p l e (zRm d) s m args below meth c nL D A Q (wM cA ad u) lv (pc + 3) (.int q :: st)) : zG p l e (zRm d) s m args below meth c nL D A Q (wM cA ad u) lv pc (.int x2 :: .int x1 :: .ref (ad 0) :: st) := by
  obtain ⟨q, h1, h2⟩ := zb_some hm
  exact z_calliV C (cM_soundsOf hI x1 x2 u h1) (cwX8_253 C.1.2.2.2.2 rfl rfl ⟨hdm, by have := hdm; simp only [zRm]; omega⟩) hd rfl rfl h8 ⟨_, rfl, rfl⟩ (List.mem_of_getElem? (heM_o cA ad u)) (fun _ h => h) (fun _ h => h.elim) zJ_ro (g q h2)
theorem xM_X8_256 {p : Program} {l : Launch} {e : Env} {s : State} {m : MethodId} {args : Array Value} {below : List Frame} {meth : Method} {c : Code} {Q : State → Prop} {D : va_G} {A : Nat → Prop} {cc : ByteArray} {nL : Nat} {lv : List (Nat × Value)} {pc : Nat} {st : List Value} {cA : Nat → ClassId} {ad : Nat → Nat} {E : zEt} {d : Nat} {x1 : Int32} {x2 : Int32} {x3 : Int32} {u : SM} (hI : zInj ad 23) (C : zC p s m args meth c cc nL RX8 zTS D (zTy cA) A E) (hdm : 4 + 1 ≤ d) (hA : ∀ q, zAd ad 23 q → A q) {β : Type} {f : (Int32 × (Nat → Int32)) → Option β} {o : β} (hm : (mM_earOf x1 x2 x3 u).bind f = some o) (hd : decode cc pc = .ok (.invokevirtual 256, 3)) (h8 : (st.map fun v => v.category).sum ≤ 8) (g : ∀ q, f q = some o → zG p l e (zRm d) s m args below meth c nL D A Q (wM cA ad (M_put_pile q.2 u)) lv (pc + 3) (.int q.1 :: st)) : zG p l e (zRm d) s m args below meth c nL D A Q (wM cA ad u) lv pc (.int x3 :: .int x2 :: .int x1 :: .ref (ad 0) :: st) := by
  obtain ⟨q, h1, h2⟩ := zb_some hm
  exact z_calliV C (cM_earOf hI x1 x2 x3 u h1) (cwX8_256 C.1.2.2.2.2 rfl rfl ⟨hdm, by have := hdm; simp only [zRm]; omega⟩) hd rfl rfl h8 ⟨_, rfl, rfl⟩ (List.mem_of_getElem? (heM_o cA ad u)) (fun _ h => h) hA zJ_same (g q h2)
def mM_mayJoin_J40 (x1 : Int32) (x2 : Int32) (x3 : Int32) (x4 : Int32) (u : SM) : Option (Int32 × (Nat → Int32)) :=
  (mM_soundsOf x1 x4 u).bind fun q1 => ((mM_earOf x1 x2 x3 u).bind fun q2 => ((mM_unsure (1 : Int32) x1 x2 x3 (M_put_pile (q2.2) u)).bind fun q3 => (if (q2.1 + q3.1) < (mM_apart x4 q1) then (some ((0 : Int32), (q3.2))) else (some ((1 : Int32), (q3.2))))))
set_option maxRecDepth 100000 in
set_option maxHeartbeats 4000000 in
theorem jM_mayJoin_40 {l : Launch} {D : va_G} {cA : Nat → ClassId} {ad : Nat → Nat} {p : Program} {e : Env} {s : State} {m : MethodId} {args : Array Value} {below : List Frame} {meth : Method} {c : Code} {E : zEt} {r : Int32} {w' : (Nat → Int32)}  {x1 : Int32} {x2 : Int32} {x3 : Int32} {x4 : Int32} {u : SM} (hI : zInj ad 23) (hC : zC p s m args meth c cX8_mayJoin 5 RX8 zTS D (zTy cA) (zAd ad 23) E) (hr : meth.sig.returnType = (some .boolean)) (hm : mM_mayJoin_J40 x1 x2 x3 x4 u = some (r, w')) : zG p l e (zRm 5) s m args below meth c 5 D (zAd ad 23) (MQ below (zQi r (zBw D (wM cA ad (M_put_pile w' u))) (zAd ad 23)) args s 0 0 (zAd ad 23)) (wM cA ad u) [(0, .ref (ad 0)), (1, .int x1), (2, .int x2), (3, .int x3), (4, .int x4)] 40 [] := by
  unfold mM_mayJoin_J40 at hm
  refine z_aload_n hC dX8_mayJoin_40 rfl 0 rfl ?_
  refine z_iload hC dX8_mayJoin_41 4 rfl ?_
  refine z_aload_n hC dX8_mayJoin_43 rfl 0 rfl ?_
  refine z_iload_n hC dX8_mayJoin_44 rfl 1 rfl ?_
  refine z_iload hC dX8_mayJoin_45 4 rfl ?_
  refine xM_X8_253 hI hC (Nat.le_of_ble_eq_true rfl) hm dX8_mayJoin_47 (Nat.le_of_ble_eq_true rfl) (fun q1 hm => ?_)
  refine xM_X8_233 hI hC (Nat.le_of_ble_eq_true rfl) dX8_mayJoin_50 (Nat.le_of_ble_eq_true rfl) ?_
  refine z_aload_n hC dX8_mayJoin_53 rfl 0 rfl ?_
  refine z_iload_n hC dX8_mayJoin_54 rfl 1 rfl ?_
  refine z_iload_n hC dX8_mayJoin_55 rfl 2 rfl ?_
  refine z_iload_n hC dX8_mayJoin_56 rfl 3 rfl ?_
  refine xM_X8_256 hI hC (Nat.le_of_ble_eq_true rfl) (fun _ h => h) hm dX8_mayJoin_57 (Nat.le_of_ble_eq_true rfl) (fun q2 hm => ?_)
  refine zuM (u2 := (M_put_pile (q2.2) u)) rfl ?_
  refine z_aload_n hC dX8_mayJoin_60 rfl 0 rfl ?_
  refine z_iconst hC dX8_mayJoin_61 kI_1 ?_
  refine z_iload_n hC dX8_mayJoin_62 rfl 1 rfl ?_
  refine z_iload_n hC dX8_mayJoin_63 rfl 2 rfl ?_
  refine z_iload_n hC dX8_mayJoin_64 rfl 3 rfl ?_
  refine xM_X8_250 hI hC (Nat.le_of_ble_eq_true rfl) (fun _ h => h) hm dX8_mayJoin_65 (Nat.le_of_ble_eq_true rfl) (fun q3 hm => ?_)
  refine zuM (u2 := (M_put_pile (q3.2) u)) rfl ?_
  refine z_iadd hC dX8_mayJoin_68 ?_
  refine z_icmp_gt (tgt := 76) hC hm dX8_mayJoin_69 (by decide) (fun hm => ?_) (fun hm => ?_)
  · refine z_iconst hC dX8_mayJoin_76 kI_0 ?_
    exact riM (fin := fun z => M_put_pile z u) hC hr rfl dX8_mayJoin_77 hm rfl
  · refine z_iconst hC dX8_mayJoin_72 kI_1 ?_
    refine z_goto (tgt := 77) hC dX8_mayJoin_73 (by decide) ?_
    exact riM (fin := fun z => M_put_pile z u) hC hr rfl dX8_mayJoin_77 hm rfl
def mM_mayJoin (x1 : Int32) (x2 : Int32) (x3 : Int32) (x4 : Int32) (u : SM) : Option (Int32 × (Nat → Int32)) :=
  if (mM_isSaid x3 u) = 0 then (some ((0 : Int32), ((M_pile u)))) else (zgi x1 10 (if ((M_kind u) (x1).toNatClampNeg) = (4 : Int32) then (zgi x1 10 (if ((M_v u) (x1).toNatClampNeg) ≤ 0 then (mM_mayJoin_J40 x1 x2 x3 x4 u) else (zgi x1 10 (zgz ((M_v u) (x1).toNatClampNeg) (if (x3 - x3 / ((M_v u) (x1).toNatClampNeg) * ((M_v u) (x1).toNatClampNeg)) = 0 then (some ((0 : Int32), ((M_pile u)))) else (mM_mayJoin_J40 x1 x2 x3 x4 u)))))) else (mM_mayJoin_J40 x1 x2 x3 x4 u)))
set_option maxRecDepth 100000 in
set_option maxHeartbeats 4000000 in
theorem cM_mayJoin {l : Launch} {D : va_G} {cA : Nat → ClassId} {ad : Nat → Nat} {E : zEt} (hI : zInj ad 23) (x1 : Int32) (x2 : Int32) (x3 : Int32) (x4 : Int32) (u : SM) {r : Int32} {w' : (Nat → Int32)} (hm : mM_mayJoin x1 x2 x3 x4 u = some (r, w')) : Met l yX8_mayJoin (zWs yX8_mayJoin cX8_mayJoin 5 (some .boolean)) (zRm 5) (va_Pc [.ref (ad 0), .int x1, .int x2, .int x3, .int x4] (zPre D (zTy cA) E (zAd ad 23) (wM cA ad u))) (zQi r (zBw D (wM cA ad (M_put_pile w' u))) (zAd ad 23)) 0 0 (zAd ad 23) := by
  refine z_met (lv := [(0, .ref (ad 0)), (1, .int x1), (2, .int x2), (3, .int x3), (4, .int x4)]) plX8 rfl rfl (Nat.le_of_ble_eq_true rfl) rfl ?_
  intro p e s m below meth c hC hr hin
  unfold mM_mayJoin at hm
  refine z_aload_n hC dX8_mayJoin_0 rfl 0 rfl ?_
  refine z_iload_n hC dX8_mayJoin_1 rfl 3 rfl ?_
  refine xM_X8_236 hI hC (Nat.le_of_ble_eq_true rfl) dX8_mayJoin_2 (Nat.le_of_ble_eq_true rfl) ?_
  refine z_if_eq (tgt := 38) hC hm dX8_mayJoin_5 (by decide) (fun hm => ?_) (fun hm => ?_)
  · refine z_iconst hC dX8_mayJoin_38 kI_0 ?_
    exact riM (fin := fun z => M_put_pile z u) hC hr rfl dX8_mayJoin_39 hm rfl
  · refine z_aload_n hC dX8_mayJoin_8 rfl 0 rfl ?_
    refine gM_X8_96_o hC dX8_mayJoin_9 ?_
    refine z_iload_n hC dX8_mayJoin_12 rfl 1 rfl ?_
    refine aM_kind hC hm dX8_mayJoin_13 (fun hm => ?_)
    refine z_iconst hC dX8_mayJoin_14 kI_4 ?_
    refine z_icmp_ne (tgt := 40) hC hm dX8_mayJoin_15 (by decide) (fun hm => ?_) (fun hm => ?_)
    · refine z_aload_n hC dX8_mayJoin_18 rfl 0 rfl ?_
      refine gM_X8_99_o hC dX8_mayJoin_19 ?_
      refine z_iload_n hC dX8_mayJoin_22 rfl 1 rfl ?_
      refine aM_v hC hm dX8_mayJoin_23 (fun hm => ?_)
      refine z_if_le (tgt := 40) hC hm dX8_mayJoin_24 (by decide) (fun hm => ?_) (fun hm => ?_)
      · refine z_lv hC [0, 1, 2, 3, 4] rfl ?_
        exact jM_mayJoin_40 hI hC hr hm
      · refine z_iload_n hC dX8_mayJoin_27 rfl 3 rfl ?_
        refine z_aload_n hC dX8_mayJoin_28 rfl 0 rfl ?_
        refine gM_X8_99_o hC dX8_mayJoin_29 ?_
        refine z_iload_n hC dX8_mayJoin_32 rfl 1 rfl ?_
        refine aM_v hC hm dX8_mayJoin_33 (fun hm => ?_)
        refine z_g (zgz_some hm) (fun hne hm => ?_)
        refine z_irem hC dX8_mayJoin_34 hne ?_
        refine z_if_ne (tgt := 40) hC hm dX8_mayJoin_35 (by decide) (fun hm => ?_) (fun hm => ?_)
        · refine z_iconst hC dX8_mayJoin_38 kI_0 ?_
          exact riM (fin := fun z => M_put_pile z u) hC hr rfl dX8_mayJoin_39 hm rfl
        · refine z_lv hC [0, 1, 2, 3, 4] rfl ?_
          exact jM_mayJoin_40 hI hC hr hm
    · refine z_lv hC [0, 1, 2, 3, 4] rfl ?_
      exact jM_mayJoin_40 hI hC hr hm
theorem xM_X8_259 {p : Program} {l : Launch} {e : Env} {s : State} {m : MethodId} {args : Array Value} {below : List Frame} {meth : Method} {c : Code} {Q : State → Prop} {D : va_G} {A : Nat → Prop} {cc : ByteArray} {nL : Nat} {lv : List (Nat × Value)} {pc : Nat} {st : List Value} {cA : Nat → ClassId} {ad : Nat → Nat} {E : zEt} {d : Nat} {x1 : Int32} {x2 : Int32} {x3 : Int32} {x4 : Int32} {u : SM} (hI : zInj ad 23) (C : zC p s m args meth c cc nL RX8 zTS D (zTy cA) A E) (hdm : 5 + 1 ≤ d) (hA : ∀ q, zAd ad 23 q → A q) {β : Type} {f : (Int32 × (Nat → Int32)) → Option β} {o : β} (hm : (mM_mayJoin x1 x2 x3 x4 u).bind f = some o) (hd : decode cc pc = .ok (.invokevirtual 259, 3)) (h8 : (st.map fun v => v.category).sum ≤ 8) (g : ∀ q, f q = some o → zG p l e (zRm d) s m args below meth c nL D A Q (wM cA ad (M_put_pile q.2 u)) lv (pc + 3) (.int q.1 :: st)) : zG p l e (zRm d) s m args below meth c nL D A Q (wM cA ad u) lv pc (.int x4 :: .int x3 :: .int x2 :: .int x1 :: .ref (ad 0) :: st) := by
  obtain ⟨q, h1, h2⟩ := zb_some hm
  exact z_calliV C (cM_mayJoin hI x1 x2 x3 x4 u h1) (cwX8_259 C.1.2.2.2.2 rfl rfl ⟨hdm, by have := hdm; simp only [zRm]; omega⟩) hd rfl rfl h8 ⟨_, rfl, rfl⟩ (List.mem_of_getElem? (heM_o cA ad u)) (fun _ h => h) hA zJ_same (g q h2)
theorem xM_X8_262 {p : Program} {l : Launch} {e : Env} {s : State} {m : MethodId} {args : Array Value} {below : List Frame} {meth : Method} {c : Code} {Q : State → Prop} {D : va_G} {A : Nat → Prop} {cc : ByteArray} {nL : Nat} {lv : List (Nat × Value)} {pc : Nat} {st : List Value} {cA : Nat → ClassId} {ad : Nat → Nat} {E : zEt} {d : Nat} {x1 : Int32} {x2 : Int32} {x3 : Int32} {u : SM} (hI : zInj ad 23) (C : zC p s m args meth c cc nL RX8 zTS D (zTy cA) A E) (hdm : 3 + 1 ≤ d) {β : Type} {f : Int32 → Option β} {o : β} (hm : (mM_movesBy x1 x2 x3 u).bind f = some o) (hd : decode cc pc = .ok (.invokevirtual 262, 3)) (h8 : (st.map fun v => v.category).sum ≤ 8) (g : ∀ q, f q = some o → zG p l e (zRm d) s m args below meth c nL D A Q (wM cA ad u) lv (pc + 3) (.int q :: st)) : zG p l e (zRm d) s m args below meth c nL D A Q (wM cA ad u) lv pc (.int x3 :: .int x2 :: .int x1 :: .ref (ad 0) :: st) := by
  obtain ⟨q, h1, h2⟩ := zb_some hm
  exact z_calliV C (cM_movesBy hI x1 x2 x3 u h1) (cwX8_262 C.1.2.2.2.2 rfl rfl ⟨hdm, by have := hdm; simp only [zRm]; omega⟩) hd rfl rfl h8 ⟨_, rfl, rfl⟩ (List.mem_of_getElem? (heM_o cA ad u)) (fun _ h => h) (fun _ h => h.elim) zJ_ro (g q h2)
def mM_joined (x1 : Int32) (x2 : Int32) (x3 : Int32) (x4 : Int32) (x5 : Int32) (u : SM) : Option (Int32 × (Nat → Int32)) :=
  (mM_mayJoin x1 x2 x3 x4 u).bind fun q1 => (if q1.1 = 0 then (some ((0 : Int32), (q1.2))) else ((mM_movesBy x1 x3 x5 (M_put_pile (q1.2) u)).bind fun q2 => (if q2 ≤ 0 then (some ((0 : Int32), (q1.2))) else (some ((1 : Int32), (q1.2))))))
set_option maxRecDepth 100000 in
set_option maxHeartbeats 4000000 in
theorem cM_joined {l : Launch} {D : va_G} {cA : Nat → ClassId} {ad : Nat → Nat} {E : zEt} (hI : zInj ad 23) (x1 : Int32) (x2 : Int32) (x3 : Int32) (x4 : Int32) (x5 : Int32) (u : SM) {r : Int32} {w' : (Nat → Int32)} (hm : mM_joined x1 x2 x3 x4 x5 u = some (r, w')) : Met l yX8_joined (zWs yX8_joined cX8_joined 6 (some .boolean)) (zRm 6) (va_Pc [.ref (ad 0), .int x1, .int x2, .int x3, .int x4, .int x5] (zPre D (zTy cA) E (zAd ad 23) (wM cA ad u))) (zQi r (zBw D (wM cA ad (M_put_pile w' u))) (zAd ad 23)) 0 0 (zAd ad 23) := by
  refine z_met (lv := [(0, .ref (ad 0)), (1, .int x1), (2, .int x2), (3, .int x3), (4, .int x4), (5, .int x5)]) plX8 rfl rfl (Nat.le_of_ble_eq_true rfl) rfl ?_
  intro p e s m below meth c hC hr hin
  unfold mM_joined at hm
  refine z_aload_n hC dX8_joined_0 rfl 0 rfl ?_
  refine z_iload_n hC dX8_joined_1 rfl 1 rfl ?_
  refine z_iload_n hC dX8_joined_2 rfl 2 rfl ?_
  refine z_iload_n hC dX8_joined_3 rfl 3 rfl ?_
  refine z_iload hC dX8_joined_4 4 rfl ?_
  refine xM_X8_259 hI hC (Nat.le_of_ble_eq_true rfl) (fun _ h => h) hm dX8_joined_6 (Nat.le_of_ble_eq_true rfl) (fun q1 hm => ?_)
  refine zuM (u2 := (M_put_pile (q1.2) u)) rfl ?_
  refine z_if_eq (tgt := 27) hC hm dX8_joined_9 (by decide) (fun hm => ?_) (fun hm => ?_)
  · refine z_iconst hC dX8_joined_27 kI_0 ?_
    exact riM (fin := fun z => M_put_pile z u) hC hr rfl dX8_joined_28 hm rfl
  · refine z_aload_n hC dX8_joined_12 rfl 0 rfl ?_
    refine z_iload_n hC dX8_joined_13 rfl 1 rfl ?_
    refine z_iload_n hC dX8_joined_14 rfl 3 rfl ?_
    refine z_iload hC dX8_joined_15 5 rfl ?_
    refine xM_X8_262 hI hC (Nat.le_of_ble_eq_true rfl) hm dX8_joined_17 (Nat.le_of_ble_eq_true rfl) (fun q2 hm => ?_)
    refine z_if_le (tgt := 27) hC hm dX8_joined_20 (by decide) (fun hm => ?_) (fun hm => ?_)
    · refine z_iconst hC dX8_joined_27 kI_0 ?_
      exact riM (fin := fun z => M_put_pile z u) hC hr rfl dX8_joined_28 hm rfl
    · refine z_iconst hC dX8_joined_23 kI_1 ?_
      refine z_goto (tgt := 28) hC dX8_joined_24 (by decide) ?_
      exact riM (fin := fun z => M_put_pile z u) hC hr rfl dX8_joined_28 hm rfl
theorem xM_X8_265 {p : Program} {l : Launch} {e : Env} {s : State} {m : MethodId} {args : Array Value} {below : List Frame} {meth : Method} {c : Code} {Q : State → Prop} {D : va_G} {A : Nat → Prop} {cc : ByteArray} {nL : Nat} {lv : List (Nat × Value)} {pc : Nat} {st : List Value} {cA : Nat → ClassId} {ad : Nat → Nat} {E : zEt} {d : Nat} {x1 : Int32} {x2 : Int32} {x3 : Int32} {x4 : Int32} {x5 : Int32} {u : SM} (hI : zInj ad 23) (C : zC p s m args meth c cc nL RX8 zTS D (zTy cA) A E) (hdm : 6 + 1 ≤ d) (hA : ∀ q, zAd ad 23 q → A q) {β : Type} {f : (Int32 × (Nat → Int32)) → Option β} {o : β} (hm : (mM_joined x1 x2 x3 x4 x5 u).bind f = some o) (hd : decode cc pc = .ok (.invokevirtual 265, 3)) (h8 : (st.map fun v => v.category).sum ≤ 8) (g : ∀ q, f q = some o → zG p l e (zRm d) s m args below meth c nL D A Q (wM cA ad (M_put_pile q.2 u)) lv (pc + 3) (.int q.1 :: st)) : zG p l e (zRm d) s m args below meth c nL D A Q (wM cA ad u) lv pc (.int x5 :: .int x4 :: .int x3 :: .int x2 :: .int x1 :: .ref (ad 0) :: st) := by
  obtain ⟨q, h1, h2⟩ := zb_some hm
  exact z_calliV C (cM_joined hI x1 x2 x3 x4 x5 u h1) (cwX8_265 C.1.2.2.2.2 rfl rfl ⟨hdm, by have := hdm; simp only [zRm]; omega⟩) hd rfl rfl h8 ⟨_, rfl, rfl⟩ (List.mem_of_getElem? (heM_o cA ad u)) (fun _ h => h) hA zJ_same (g q h2)
def mM_heldOf (x1 : Int32) (x2 : Int32) (x3 : Int32) (u : SM) : Option (Int32 × (Nat → Int32)) :=
  (mM_soundsOf x1 (M_jaw u) u).bind fun q1 => ((mM_joined x1 x2 x3 (M_jaw u) (0 : Int32) u).bind fun q2 => (if q2.1 = 0 then (some (q1, (q2.2))) else ((mM_earOf x1 x2 x3 (M_put_pile (q2.2) u)).bind fun q3 => ((mM_unsure (1 : Int32) x1 x2 x3 (M_put_pile (q3.2) u)).bind fun q4 => (zgz (q3.1 + q4.1) (some ((((q1 * q4.1) + ((M_jaw u) * q3.1)) / (q3.1 + q4.1)), (q4.2))))))))
set_option maxRecDepth 100000 in
set_option maxHeartbeats 4000000 in
theorem cM_heldOf {l : Launch} {D : va_G} {cA : Nat → ClassId} {ad : Nat → Nat} {E : zEt} (hI : zInj ad 23) (x1 : Int32) (x2 : Int32) (x3 : Int32) (u : SM) {r : Int32} {w' : (Nat → Int32)} (hm : mM_heldOf x1 x2 x3 u = some (r, w')) : Met l yX8_heldOf (zWs yX8_heldOf cX8_heldOf 7 (some .int)) (zRm 7) (va_Pc [.ref (ad 0), .int x1, .int x2, .int x3] (zPre D (zTy cA) E (zAd ad 23) (wM cA ad u))) (zQi r (zBw D (wM cA ad (M_put_pile w' u))) (zAd ad 23)) 0 0 (zAd ad 23) := by
  refine z_met (lv := [(0, .ref (ad 0)), (1, .int x1), (2, .int x2), (3, .int x3)]) plX8 rfl rfl (Nat.le_of_ble_eq_true rfl) rfl ?_
  intro p e s m below meth c hC hr hin
  unfold mM_heldOf at hm
  refine z_aload_n hC dX8_heldOf_0 rfl 0 rfl ?_
  refine z_iload_n hC dX8_heldOf_1 rfl 1 rfl ?_
  refine z_aload_n hC dX8_heldOf_2 rfl 0 rfl ?_
  refine gM_X8_13_o (v := (M_jaw u)) hC dX8_heldOf_3 rfl ?_
  refine xM_X8_253 hI hC (Nat.le_of_ble_eq_true rfl) hm dX8_heldOf_6 (Nat.le_of_ble_eq_true rfl) (fun q1 hm => ?_)
  refine z_istore (lv' := [(4, .int q1), (0, .ref (ad 0)), (1, .int x1), (2, .int x2), (3, .int x3)]) hC dX8_heldOf_9 (by decide) rfl ?_
  refine z_aload_n hC dX8_heldOf_11 rfl 1 rfl ?_
  refine z_iload_n hC dX8_heldOf_12 rfl 2 rfl ?_
  refine z_iload_n hC dX8_heldOf_13 rfl 3 rfl ?_
  refine z_iload_n hC dX8_heldOf_14 rfl 4 rfl ?_
  refine z_aload_n hC dX8_heldOf_15 rfl 1 rfl ?_
  refine gM_X8_13_o (v := (M_jaw u)) hC dX8_heldOf_16 rfl ?_
  refine z_iconst hC dX8_heldOf_19 kI_0 ?_
  refine xM_X8_265 hI hC (Nat.le_of_ble_eq_true rfl) (fun _ h => h) hm dX8_heldOf_20 (Nat.le_of_ble_eq_true rfl) (fun q2 hm => ?_)
  refine zuM (u2 := (M_put_pile (q2.2) u)) rfl ?_
  refine z_if_ne (tgt := 29) hC hm dX8_heldOf_23 (by decide) (fun hm => ?_) (fun hm => ?_)
  · refine z_iload hC dX8_heldOf_26 0 rfl ?_
    exact riM (fin := fun z => M_put_pile z u) hC hr rfl dX8_heldOf_28 hm rfl
  · refine z_aload_n hC dX8_heldOf_29 rfl 1 rfl ?_
    refine z_iload_n hC dX8_heldOf_30 rfl 2 rfl ?_
    refine z_iload_n hC dX8_heldOf_31 rfl 3 rfl ?_
    refine z_iload_n hC dX8_heldOf_32 rfl 4 rfl ?_
    refine xM_X8_256 hI hC (Nat.le_of_ble_eq_true rfl) (fun _ h => h) hm dX8_heldOf_33 (Nat.le_of_ble_eq_true rfl) (fun q3 hm => ?_)
    refine zuM (u2 := (M_put_pile (q3.2) u)) rfl ?_
    refine z_istore (lv' := [(5, .int q3.1), (4, .int q1), (0, .ref (ad 0)), (1, .int x1), (2, .int x2), (3, .int x3)]) hC dX8_heldOf_36 (by decide) rfl ?_
    refine z_aload_n hC dX8_heldOf_38 rfl 2 rfl ?_
    refine z_iconst hC dX8_heldOf_39 kI_1 ?_
    refine z_iload_n hC dX8_heldOf_40 rfl 3 rfl ?_
    refine z_iload_n hC dX8_heldOf_41 rfl 4 rfl ?_
    refine z_iload_n hC dX8_heldOf_42 rfl 5 rfl ?_
    refine xM_X8_250 hI hC (Nat.le_of_ble_eq_true rfl) (fun _ h => h) hm dX8_heldOf_43 (Nat.le_of_ble_eq_true rfl) (fun q4 hm => ?_)
    refine zuM (u2 := (M_put_pile (q4.2) u)) rfl ?_
    refine z_istore (lv' := [(6, .int q4.1), (5, .int q3.1), (4, .int q1), (0, .ref (ad 0)), (1, .int x1), (2, .int x2), (3, .int x3)]) hC dX8_heldOf_46 (by decide) rfl ?_
    refine z_iload hC dX8_heldOf_48 2 rfl ?_
    refine z_iload hC dX8_heldOf_50 0 rfl ?_
    refine z_imul hC dX8_heldOf_52 ?_
    refine z_aload_n hC dX8_heldOf_53 rfl 3 rfl ?_
    refine gM_X8_13_o (v := (M_jaw u)) hC dX8_heldOf_54 rfl ?_
    refine z_iload hC dX8_heldOf_57 1 rfl ?_
    refine z_imul hC dX8_heldOf_59 ?_
    refine z_iadd hC dX8_heldOf_60 ?_
    refine z_iload hC dX8_heldOf_61 1 rfl ?_
    refine z_iload hC dX8_heldOf_63 0 rfl ?_
    refine z_iadd hC dX8_heldOf_65 ?_
    refine z_g (zgz_some hm) (fun hne hm => ?_)
    refine z_idiv hC dX8_heldOf_66 hne ?_
    exact riM (fin := fun z => M_put_pile z u) hC hr rfl dX8_heldOf_67 hm rfl
theorem xM_X8_269 {p : Program} {l : Launch} {e : Env} {s : State} {m : MethodId} {args : Array Value} {below : List Frame} {meth : Method} {c : Code} {Q : State → Prop} {D : va_G} {A : Nat → Prop} {cc : ByteArray} {nL : Nat} {lv : List (Nat × Value)} {pc : Nat} {st : List Value} {cA : Nat → ClassId} {ad : Nat → Nat} {E : zEt} {d : Nat} {x1 : Int32} {x2 : Int32} {x3 : Int32} {u : SM} (hI : zInj ad 23) (C : zC p s m args meth c cc nL RX8 zTS D (zTy cA) A E) (hdm : 7 + 1 ≤ d) (hA : ∀ q, zAd ad 23 q → A q) {β : Type} {f : (Int32 × (Nat → Int32)) → Option β} {o : β} (hm : (mM_heldOf x1 x2 x3 u).bind f = some o) (hd : decode cc pc = .ok (.invokevirtual 269, 3)) (h8 : (st.map fun v => v.category).sum ≤ 8) (g : ∀ q, f q = some o → zG p l e (zRm d) s m args below meth c nL D A Q (wM cA ad (M_put_pile q.2 u)) lv (pc + 3) (.int q.1 :: st)) : zG p l e (zRm d) s m args below meth c nL D A Q (wM cA ad u) lv pc (.int x3 :: .int x2 :: .int x1 :: .ref (ad 0) :: st) := by
  obtain ⟨q, h1, h2⟩ := zb_some hm
  exact z_calliV C (cM_heldOf hI x1 x2 x3 u h1) (cwX8_269 C.1.2.2.2.2 rfl rfl ⟨hdm, by have := hdm; simp only [zRm]; omega⟩) hd rfl rfl h8 ⟨_, rfl, rfl⟩ (List.mem_of_getElem? (heM_o cA ad u)) (fun _ h => h) hA zJ_same (g q h2)
def mM_isCaught (x1 : Int32) (x2 : Int32) (x3 : Int32) (u : SM) : Option (Int32 × (Nat → Int32)) :=
  (mM_heldOf x1 x2 x3 u).bind fun q1 => (if (mM_apart q1.1 (M_mouth u)) ≤ (mM_apart q1.1 (M_jaw u)) then (some ((0 : Int32), (q1.2))) else (some ((1 : Int32), (q1.2))))
set_option maxRecDepth 100000 in
set_option maxHeartbeats 4000000 in
theorem cM_isCaught {l : Launch} {D : va_G} {cA : Nat → ClassId} {ad : Nat → Nat} {E : zEt} (hI : zInj ad 23) (x1 : Int32) (x2 : Int32) (x3 : Int32) (u : SM) {r : Int32} {w' : (Nat → Int32)} (hm : mM_isCaught x1 x2 x3 u = some (r, w')) : Met l yX8_isCaught (zWs yX8_isCaught cX8_isCaught 5 (some .boolean)) (zRm 8) (va_Pc [.ref (ad 0), .int x1, .int x2, .int x3] (zPre D (zTy cA) E (zAd ad 23) (wM cA ad u))) (zQi r (zBw D (wM cA ad (M_put_pile w' u))) (zAd ad 23)) 0 0 (zAd ad 23) := by
  refine z_met (lv := [(0, .ref (ad 0)), (1, .int x1), (2, .int x2), (3, .int x3)]) plX8 rfl rfl (Nat.le_of_ble_eq_true rfl) rfl ?_
  intro p e s m below meth c hC hr hin
  unfold mM_isCaught at hm
  refine z_aload_n hC dX8_isCaught_0 rfl 0 rfl ?_
  refine z_iload_n hC dX8_isCaught_1 rfl 1 rfl ?_
  refine z_iload_n hC dX8_isCaught_2 rfl 2 rfl ?_
  refine z_iload_n hC dX8_isCaught_3 rfl 3 rfl ?_
  refine xM_X8_269 hI hC (Nat.le_of_ble_eq_true rfl) (fun _ h => h) hm dX8_isCaught_4 (Nat.le_of_ble_eq_true rfl) (fun q1 hm => ?_)
  refine zuM (u2 := (M_put_pile (q1.2) u)) rfl ?_
  refine z_istore (lv' := [(4, .int q1.1), (0, .ref (ad 0)), (1, .int x1), (2, .int x2), (3, .int x3)]) hC dX8_isCaught_7 (by decide) rfl ?_
  refine z_aload_n hC dX8_isCaught_9 rfl 1 rfl ?_
  refine z_iload hC dX8_isCaught_10 0 rfl ?_
  refine z_aload_n hC dX8_isCaught_12 rfl 1 rfl ?_
  refine gM_X8_13_o (v := (M_jaw u)) hC dX8_isCaught_13 rfl ?_
  refine xM_X8_233 hI hC (Nat.le_of_ble_eq_true rfl) dX8_isCaught_16 (Nat.le_of_ble_eq_true rfl) ?_
  refine z_aload_n hC dX8_isCaught_19 rfl 1 rfl ?_
  refine z_iload hC dX8_isCaught_20 0 rfl ?_
  refine z_aload_n hC dX8_isCaught_22 rfl 1 rfl ?_
  refine gM_X8_7_o (v := (M_mouth u)) hC dX8_isCaught_23 rfl ?_
  refine xM_X8_233 hI hC (Nat.le_of_ble_eq_true rfl) dX8_isCaught_26 (Nat.le_of_ble_eq_true rfl) ?_
  refine z_icmp_ge (tgt := 36) hC hm dX8_isCaught_29 (by decide) (fun hm => ?_) (fun hm => ?_)
  · refine z_iconst hC dX8_isCaught_36 kI_0 ?_
    exact riM (fin := fun z => M_put_pile z u) hC hr rfl dX8_isCaught_37 hm rfl
  · refine z_iconst hC dX8_isCaught_32 kI_1 ?_
    refine z_goto (tgt := 37) hC dX8_isCaught_33 (by decide) ?_
    exact riM (fin := fun z => M_put_pile z u) hC hr rfl dX8_isCaught_37 hm rfl
theorem xM_X8_272 {p : Program} {l : Launch} {e : Env} {s : State} {m : MethodId} {args : Array Value} {below : List Frame} {meth : Method} {c : Code} {Q : State → Prop} {D : va_G} {A : Nat → Prop} {cc : ByteArray} {nL : Nat} {lv : List (Nat × Value)} {pc : Nat} {st : List Value} {cA : Nat → ClassId} {ad : Nat → Nat} {E : zEt} {d : Nat} {x1 : Int32} {u : SM} (hI : zInj ad 23) (C : zC p s m args meth c cc nL RX8 zTS D (zTy cA) A E) (hdm : 1 + 1 ≤ d) (hd : decode cc pc = .ok (.invokevirtual 272, 3)) (h8 : (st.map fun v => v.category).sum ≤ 8) (g : zG p l e (zRm d) s m args below meth c nL D A Q (wM cA ad u) lv (pc + 3) (.int (mM_isVoice x1 u) :: st)) : zG p l e (zRm d) s m args below meth c nL D A Q (wM cA ad u) lv pc (.int x1 :: .ref (ad 0) :: st) :=
  z_calliV C (cM_isVoice hI x1 u rfl) (cwX8_272 C.1.2.2.2.2 rfl rfl ⟨hdm, by have := hdm; simp only [zRm]; omega⟩) hd rfl rfl h8 ⟨_, rfl, rfl⟩ (List.mem_of_getElem? (heM_o cA ad u)) (fun _ h => h) (fun _ h => h.elim) zJ_ro g
theorem xM_X8_275 {p : Program} {l : Launch} {e : Env} {s : State} {m : MethodId} {args : Array Value} {below : List Frame} {meth : Method} {c : Code} {Q : State → Prop} {D : va_G} {A : Nat → Prop} {cc : ByteArray} {nL : Nat} {lv : List (Nat × Value)} {pc : Nat} {st : List Value} {cA : Nat → ClassId} {ad : Nat → Nat} {E : zEt} {d : Nat} {x1 : Int32} {x2 : Int32} {x3 : Int32} {u : SM} (hI : zInj ad 23) (C : zC p s m args meth c cc nL RX8 zTS D (zTy cA) A E) (hdm : 8 + 1 ≤ d) (hA : ∀ q, zAd ad 23 q → A q) {β : Type} {f : (Int32 × (Nat → Int32)) → Option β} {o : β} (hm : (mM_isCaught x1 x2 x3 u).bind f = some o) (hd : decode cc pc = .ok (.invokevirtual 275, 3)) (h8 : (st.map fun v => v.category).sum ≤ 8) (g : ∀ q, f q = some o → zG p l e (zRm d) s m args below meth c nL D A Q (wM cA ad (M_put_pile q.2 u)) lv (pc + 3) (.int q.1 :: st)) : zG p l e (zRm d) s m args below meth c nL D A Q (wM cA ad u) lv pc (.int x3 :: .int x2 :: .int x1 :: .ref (ad 0) :: st) := by
  obtain ⟨q, h1, h2⟩ := zb_some hm
  exact z_calliV C (cM_isCaught hI x1 x2 x3 u h1) (cwX8_275 C.1.2.2.2.2 rfl rfl ⟨hdm, by have := hdm; simp only [zRm]; omega⟩) hd rfl rfl h8 ⟨_, rfl, rfl⟩ (List.mem_of_getElem? (heM_o cA ad u)) (fun _ h => h) hA zJ_same (g q h2)
def mM_held (x1 : Int32) (x2 : Int32) (x3 : Int32) (x4 : Int32) (u : SM) : Option (Int32 × (Nat → Int32)) :=
  if (mM_isVoice x1 u) = 0 then (some ((-1 : Int32), ((M_pile u)))) else (if (mM_isSeat x2 u) = 0 then (some ((-1 : Int32), ((M_pile u)))) else (if (mM_in x3 (0 : Int32) (39 : Int32)) = 0 then (some ((-1 : Int32), ((M_pile u)))) else (if x4 = (0 : Int32) then ((mM_earOf x1 x2 x3 u).bind fun q1 => (some (q1.1, (q1.2)))) else (if x4 = (1 : Int32) then ((mM_unsure (1 : Int32) x1 x2 x3 u).bind fun q2 => (some (q2.1, (q2.2)))) else (if x4 = (2 : Int32) then ((mM_soundsOf x1 (M_jaw u) u).bind fun q3 => (some (q3, ((M_pile u))))) else (if x4 = (3 : Int32) then ((mM_joined x1 x2 x3 (M_jaw u) (0 : Int32) u).bind fun q4 => (if q4.1 = 0 then (some ((0 : Int32), (q4.2))) else (some ((1 : Int32), (q4.2))))) else (if x4 = (4 : Int32) then ((mM_heldOf x1 x2 x3 u).bind fun q5 => (some (q5.1, (q5.2)))) else (if x4 = (5 : Int32) then ((mM_isCaught x1 x2 x3 u).bind fun q6 => (if q6.1 = 0 then (some ((0 : Int32), (q6.2))) else (some ((1 : Int32), (q6.2))))) else (some ((-1 : Int32), ((M_pile u))))))))))))
set_option maxRecDepth 100000 in
set_option maxHeartbeats 4000000 in
theorem cM_held {l : Launch} {D : va_G} {cA : Nat → ClassId} {ad : Nat → Nat} {E : zEt} (hI : zInj ad 23) (x1 : Int32) (x2 : Int32) (x3 : Int32) (x4 : Int32) (u : SM) {r : Int32} {w' : (Nat → Int32)} (hm : mM_held x1 x2 x3 x4 u = some (r, w')) : Met l yX8_held (zWs yX8_held cX8_held 5 (some .int)) (zRm 9) (va_Pc [.ref (ad 0), .int x1, .int x2, .int x3, .int x4] (zPre D (zTy cA) E (zAd ad 23) (wM cA ad u))) (zQi r (zBw D (wM cA ad (M_put_pile w' u))) (zAd ad 23)) 0 0 (zAd ad 23) := by
  refine z_met (lv := [(0, .ref (ad 0)), (1, .int x1), (2, .int x2), (3, .int x3), (4, .int x4)]) plX8 rfl rfl (Nat.le_of_ble_eq_true rfl) rfl ?_
  intro p e s m below meth c hC hr hin
  unfold mM_held at hm
  refine z_aload_n hC dX8_held_0 rfl 0 rfl ?_
  refine z_iload_n hC dX8_held_1 rfl 1 rfl ?_
  refine xM_X8_272 hI hC (Nat.le_of_ble_eq_true rfl) dX8_held_2 (Nat.le_of_ble_eq_true rfl) ?_
  refine z_if_eq (tgt := 27) hC hm dX8_held_5 (by decide) (fun hm => ?_) (fun hm => ?_)
  · refine z_iconst hC dX8_held_27 kI_m1 ?_
    exact riM (fin := fun z => M_put_pile z u) hC hr rfl dX8_held_28 hm rfl
  · refine z_aload_n hC dX8_held_8 rfl 0 rfl ?_
    refine z_iload_n hC dX8_held_9 rfl 2 rfl ?_
    refine xM_X8_160 hI hC (Nat.le_of_ble_eq_true rfl) dX8_held_10 (Nat.le_of_ble_eq_true rfl) ?_
    refine z_if_eq (tgt := 27) hC hm dX8_held_13 (by decide) (fun hm => ?_) (fun hm => ?_)
    · refine z_iconst hC dX8_held_27 kI_m1 ?_
      exact riM (fin := fun z => M_put_pile z u) hC hr rfl dX8_held_28 hm rfl
    · refine z_aload_n hC dX8_held_16 rfl 0 rfl ?_
      refine z_iload_n hC dX8_held_17 rfl 3 rfl ?_
      refine z_iconst hC dX8_held_18 kI_0 ?_
      refine z_bipush hC dX8_held_19 kB_39 ?_
      refine xM_X8_150 hI hC (Nat.le_of_ble_eq_true rfl) dX8_held_21 (Nat.le_of_ble_eq_true rfl) ?_
      refine z_if_ne (tgt := 29) hC hm dX8_held_24 (by decide) (fun hm => ?_) (fun hm => ?_)
      · refine z_iconst hC dX8_held_27 kI_m1 ?_
        exact riM (fin := fun z => M_put_pile z u) hC hr rfl dX8_held_28 hm rfl
      · refine z_iload hC dX8_held_29 4 rfl ?_
        refine z_ite hm (fun h31_0 hm => ?_) (fun h31_0 hm => ?_)
        · refine z_tin hC dX8_held_31 h31_0 kc_0 (by decide) (by decide) (off := 37) rfl (tgt := 68) (by decide) ?_
          refine z_aload_n hC dX8_held_68 rfl 0 rfl ?_
          refine z_iload_n hC dX8_held_69 rfl 1 rfl ?_
          refine z_iload_n hC dX8_held_70 rfl 2 rfl ?_
          refine z_iload_n hC dX8_held_71 rfl 3 rfl ?_
          refine xM_X8_256 hI hC (Nat.le_of_ble_eq_true rfl) (fun _ h => h) hm dX8_held_72 (Nat.le_of_ble_eq_true rfl) (fun q1 hm => ?_)
          refine zuM (u2 := (M_put_pile (q1.2) u)) rfl ?_
          exact riM (fin := fun z => M_put_pile z u) hC hr rfl dX8_held_75 hm rfl
        · refine z_ite hm (fun h31_1 hm => ?_) (fun h31_1 hm => ?_)
          · refine z_tin hC dX8_held_31 h31_1 kc_1 (by decide) (by decide) (off := 45) rfl (tgt := 76) (by decide) ?_
            refine z_aload_n hC dX8_held_76 rfl 0 rfl ?_
            refine z_iconst hC dX8_held_77 kI_1 ?_
            refine z_iload_n hC dX8_held_78 rfl 1 rfl ?_
            refine z_iload_n hC dX8_held_79 rfl 2 rfl ?_
            refine z_iload_n hC dX8_held_80 rfl 3 rfl ?_
            refine xM_X8_250 hI hC (Nat.le_of_ble_eq_true rfl) (fun _ h => h) hm dX8_held_81 (Nat.le_of_ble_eq_true rfl) (fun q2 hm => ?_)
            refine zuM (u2 := (M_put_pile (q2.2) u)) rfl ?_
            exact riM (fin := fun z => M_put_pile z u) hC hr rfl dX8_held_84 hm rfl
          · refine z_ite hm (fun h31_2 hm => ?_) (fun h31_2 hm => ?_)
            · refine z_tin hC dX8_held_31 h31_2 kc_2 (by decide) (by decide) (off := 54) rfl (tgt := 85) (by decide) ?_
              refine z_aload_n hC dX8_held_85 rfl 0 rfl ?_
              refine z_iload_n hC dX8_held_86 rfl 1 rfl ?_
              refine z_aload_n hC dX8_held_87 rfl 0 rfl ?_
              refine gM_X8_13_o (v := (M_jaw u)) hC dX8_held_88 rfl ?_
              refine xM_X8_253 hI hC (Nat.le_of_ble_eq_true rfl) hm dX8_held_91 (Nat.le_of_ble_eq_true rfl) (fun q3 hm => ?_)
              exact riM (fin := fun z => M_put_pile z u) hC hr rfl dX8_held_94 hm rfl
            · refine z_ite hm (fun h31_3 hm => ?_) (fun h31_3 hm => ?_)
              · refine z_tin hC dX8_held_31 h31_3 kc_3 (by decide) (by decide) (off := 64) rfl (tgt := 95) (by decide) ?_
                refine z_aload_n hC dX8_held_95 rfl 0 rfl ?_
                refine z_iload_n hC dX8_held_96 rfl 1 rfl ?_
                refine z_iload_n hC dX8_held_97 rfl 2 rfl ?_
                refine z_iload_n hC dX8_held_98 rfl 3 rfl ?_
                refine z_aload_n hC dX8_held_99 rfl 0 rfl ?_
                refine gM_X8_13_o (v := (M_jaw u)) hC dX8_held_100 rfl ?_
                refine z_iconst hC dX8_held_103 kI_0 ?_
                refine xM_X8_265 hI hC (Nat.le_of_ble_eq_true rfl) (fun _ h => h) hm dX8_held_104 (Nat.le_of_ble_eq_true rfl) (fun q4 hm => ?_)
                refine zuM (u2 := (M_put_pile (q4.2) u)) rfl ?_
                refine z_if_eq (tgt := 114) hC hm dX8_held_107 (by decide) (fun hm => ?_) (fun hm => ?_)
                · refine z_iconst hC dX8_held_114 kI_0 ?_
                  exact riM (fin := fun z => M_put_pile z u) hC hr rfl dX8_held_115 hm rfl
                · refine z_iconst hC dX8_held_110 kI_1 ?_
                  refine z_goto (tgt := 115) hC dX8_held_111 (by decide) ?_
                  exact riM (fin := fun z => M_put_pile z u) hC hr rfl dX8_held_115 hm rfl
              · refine z_ite hm (fun h31_4 hm => ?_) (fun h31_4 hm => ?_)
                · refine z_tin hC dX8_held_31 h31_4 kc_4 (by decide) (by decide) (off := 85) rfl (tgt := 116) (by decide) ?_
                  refine z_aload_n hC dX8_held_116 rfl 0 rfl ?_
                  refine z_iload_n hC dX8_held_117 rfl 1 rfl ?_
                  refine z_iload_n hC dX8_held_118 rfl 2 rfl ?_
                  refine z_iload_n hC dX8_held_119 rfl 3 rfl ?_
                  refine xM_X8_269 hI hC (Nat.le_of_ble_eq_true rfl) (fun _ h => h) hm dX8_held_120 (Nat.le_of_ble_eq_true rfl) (fun q5 hm => ?_)
                  refine zuM (u2 := (M_put_pile (q5.2) u)) rfl ?_
                  exact riM (fin := fun z => M_put_pile z u) hC hr rfl dX8_held_123 hm rfl
                · refine z_ite hm (fun h31_5 hm => ?_) (fun h31_5 hm => ?_)
                  · refine z_tin hC dX8_held_31 h31_5 kc_5 (by decide) (by decide) (off := 93) rfl (tgt := 124) (by decide) ?_
                    refine z_aload_n hC dX8_held_124 rfl 0 rfl ?_
                    refine z_iload_n hC dX8_held_125 rfl 1 rfl ?_
                    refine z_iload_n hC dX8_held_126 rfl 2 rfl ?_
                    refine z_iload_n hC dX8_held_127 rfl 3 rfl ?_
                    refine xM_X8_275 hI hC (Nat.le_of_ble_eq_true rfl) (fun _ h => h) hm dX8_held_128 (Nat.le_of_ble_eq_true rfl) (fun q6 hm => ?_)
                    refine zuM (u2 := (M_put_pile (q6.2) u)) rfl ?_
                    refine z_if_eq (tgt := 138) hC hm dX8_held_131 (by decide) (fun hm => ?_) (fun hm => ?_)
                    · refine z_iconst hC dX8_held_138 kI_0 ?_
                      exact riM (fin := fun z => M_put_pile z u) hC hr rfl dX8_held_139 hm rfl
                    · refine z_iconst hC dX8_held_134 kI_1 ?_
                      refine z_goto (tgt := 139) hC dX8_held_135 (by decide) ?_
                      exact riM (fin := fun z => M_put_pile z u) hC hr rfl dX8_held_139 hm rfl
                  · refine z_tout (n := 6) hC dX8_held_31 (z_allc (z_tneq kc_0 h31_0) (z_allc (z_tneq kc_1 h31_1) (z_allc (z_tneq kc_2 h31_2) (z_allc (z_tneq kc_3 h31_3) (z_allc (z_tneq kc_4 h31_4) (z_allc (z_tneq kc_5 h31_5) z_all0)))))) (by decide) (tgt := 140) (by decide) ?_
                    refine z_iconst hC dX8_held_140 kI_m1 ?_
                    exact riM (fin := fun z => M_put_pile z u) hC hr rfl dX8_held_141 hm rfl
def mM_saidOf (x1 : Int32) (x2 : Int32) (u : SM) : Option Int32 :=
  zgi x1 10 (if ((M_kind u) (x1).toNatClampNeg) = (5 : Int32) then (zgi x2 20 (zgi x2 20 ((mM_last (4 : Int32) ((16 : Int32) * ((M_letter u) (x2).toNatClampNeg)) ((M_letter u) (x2).toNatClampNeg) u).bind fun q1 => (some q1)))) else (zgi x2 20 (some ((M_letter u) (x2).toNatClampNeg))))
set_option maxRecDepth 100000 in
set_option maxHeartbeats 4000000 in
theorem cM_saidOf {l : Launch} {D : va_G} {cA : Nat → ClassId} {ad : Nat → Nat} {E : zEt} (hI : zInj ad 23) (x1 : Int32) (x2 : Int32) (u : SM) {r : Int32} (hm : mM_saidOf x1 x2 u = some r) : Met l yX8_saidOf (zWs yX8_saidOf cX8_saidOf 3 (some .int)) (zRm 2) (va_Pc [.ref (ad 0), .int x1, .int x2] (zPre D (zTy cA) E zA0 (wM cA ad u))) (zQi r zB0 zA0) 0 0 zA0 := by
  refine z_met (lv := [(0, .ref (ad 0)), (1, .int x1), (2, .int x2)]) plX8 rfl rfl (Nat.le_of_ble_eq_true rfl) rfl ?_
  intro p e s m below meth c hC hr hin
  unfold mM_saidOf at hm
  refine z_aload_n hC dX8_saidOf_0 rfl 0 rfl ?_
  refine gM_X8_96_o hC dX8_saidOf_1 ?_
  refine z_iload_n hC dX8_saidOf_4 rfl 1 rfl ?_
  refine aM_kind hC hm dX8_saidOf_5 (fun hm => ?_)
  refine z_iconst hC dX8_saidOf_6 kI_5 ?_
  refine z_icmp_ne (tgt := 33) hC hm dX8_saidOf_7 (by decide) (fun hm => ?_) (fun hm => ?_)
  · refine z_aload_n hC dX8_saidOf_10 rfl 0 rfl ?_
    refine z_iconst hC dX8_saidOf_11 kI_4 ?_
    refine z_bipush hC dX8_saidOf_12 kB_16 ?_
    refine z_aload_n hC dX8_saidOf_14 rfl 0 rfl ?_
    refine gM_X8_36_o hC dX8_saidOf_15 ?_
    refine z_iload_n hC dX8_saidOf_18 rfl 2 rfl ?_
    refine aM_letter hC hm dX8_saidOf_19 (fun hm => ?_)
    refine z_imul hC dX8_saidOf_20 ?_
    refine z_aload_n hC dX8_saidOf_21 rfl 0 rfl ?_
    refine gM_X8_36_o hC dX8_saidOf_22 ?_
    refine z_iload_n hC dX8_saidOf_25 rfl 2 rfl ?_
    refine aM_letter hC hm dX8_saidOf_26 (fun hm => ?_)
    refine xM_X8_222 hI hC (Nat.le_of_ble_eq_true rfl) hm dX8_saidOf_27 (Nat.le_of_ble_eq_true rfl) (fun q1 hm => ?_)
    refine z_goto (tgt := 39) hC dX8_saidOf_30 (by decide) ?_
    exact z_iret hC hr rfl dX8_saidOf_39 (fun _ _ => trivial) (Option.some.inj hm)
  · refine z_aload_n hC dX8_saidOf_33 rfl 0 rfl ?_
    refine gM_X8_36_o hC dX8_saidOf_34 ?_
    refine z_iload_n hC dX8_saidOf_37 rfl 2 rfl ?_
    refine aM_letter hC hm dX8_saidOf_38 (fun hm => ?_)
    exact z_iret hC hr rfl dX8_saidOf_39 (fun _ _ => trivial) (Option.some.inj hm)
def mM_heardOf (x1 : Int32) (x2 : Int32) (x3 : Int32) (x4 : Int32) (u : SM) : Option (Int32 × (Nat → Int32)) :=
  (mM_joined x1 x2 ((2 : Int32) * x3) (M_jaw u) (0 : Int32) u).bind fun q1 => (if q1.1 = 0 then (zgi x2 8 (if (20 : Int32) < ((M_far u) (x2).toNatClampNeg) then (some (x4, (q1.2))) else (if (3 : Int32) ≤ x4 then ((mM_hears x4 (0 : Int32) (M_put_pile (q1.2) u)).bind fun q2 => (some (q2, (q1.2)))) else ((mM_hears x4 (1 : Int32) (M_put_pile (q1.2) u)).bind fun q3 => (some (q3, (q1.2))))))) else ((mM_hears x4 (0 : Int32) (M_put_pile (q1.2) u)).bind fun q4 => (some (q4, (q1.2)))))
set_option maxRecDepth 100000 in
set_option maxHeartbeats 4000000 in
theorem cM_heardOf {l : Launch} {D : va_G} {cA : Nat → ClassId} {ad : Nat → Nat} {E : zEt} (hI : zInj ad 23) (x1 : Int32) (x2 : Int32) (x3 : Int32) (x4 : Int32) (u : SM) {r : Int32} {w' : (Nat → Int32)} (hm : mM_heardOf x1 x2 x3 x4 u = some (r, w')) : Met l yX8_heardOf (zWs yX8_heardOf cX8_heardOf 5 (some .int)) (zRm 7) (va_Pc [.ref (ad 0), .int x1, .int x2, .int x3, .int x4] (zPre D (zTy cA) E (zAd ad 23) (wM cA ad u))) (zQi r (zBw D (wM cA ad (M_put_pile w' u))) (zAd ad 23)) 0 0 (zAd ad 23) := by
  refine z_met (lv := [(0, .ref (ad 0)), (1, .int x1), (2, .int x2), (3, .int x3), (4, .int x4)]) plX8 rfl rfl (Nat.le_of_ble_eq_true rfl) rfl ?_
  intro p e s m below meth c hC hr hin
  unfold mM_heardOf at hm
  refine z_aload_n hC dX8_heardOf_0 rfl 0 rfl ?_
  refine z_iload_n hC dX8_heardOf_1 rfl 1 rfl ?_
  refine z_iload_n hC dX8_heardOf_2 rfl 2 rfl ?_
  refine z_iconst hC dX8_heardOf_3 kI_2 ?_
  refine z_iload_n hC dX8_heardOf_4 rfl 3 rfl ?_
  refine z_imul hC dX8_heardOf_5 ?_
  refine z_aload_n hC dX8_heardOf_6 rfl 0 rfl ?_
  refine gM_X8_13_o (v := (M_jaw u)) hC dX8_heardOf_7 rfl ?_
  refine z_iconst hC dX8_heardOf_10 kI_0 ?_
  refine xM_X8_265 hI hC (Nat.le_of_ble_eq_true rfl) (fun _ h => h) hm dX8_heardOf_11 (Nat.le_of_ble_eq_true rfl) (fun q1 hm => ?_)
  refine zuM (u2 := (M_put_pile (q1.2) u)) rfl ?_
  refine z_if_eq (tgt := 25) hC hm dX8_heardOf_14 (by decide) (fun hm => ?_) (fun hm => ?_)
  · refine z_aload_n hC dX8_heardOf_25 rfl 0 rfl ?_
    refine gM_X8_29_o hC dX8_heardOf_26 ?_
    refine z_iload_n hC dX8_heardOf_29 rfl 2 rfl ?_
    refine aM_far hC hm dX8_heardOf_30 (fun hm => ?_)
    refine z_bipush hC dX8_heardOf_31 kB_20 ?_
    refine z_icmp_gt (tgt := 56) hC hm dX8_heardOf_33 (by decide) (fun hm => ?_) (fun hm => ?_)
    · refine z_iload hC dX8_heardOf_56 4 rfl ?_
      exact riM (fin := fun z => M_put_pile z u) hC hr rfl dX8_heardOf_58 hm rfl
    · refine z_aload_n hC dX8_heardOf_36 rfl 0 rfl ?_
      refine z_iload hC dX8_heardOf_37 4 rfl ?_
      refine z_iload hC dX8_heardOf_39 4 rfl ?_
      refine z_iconst hC dX8_heardOf_41 kI_3 ?_
      refine z_icmp_ge (tgt := 49) hC hm dX8_heardOf_42 (by decide) (fun hm => ?_) (fun hm => ?_)
      · refine z_iconst hC dX8_heardOf_49 kI_0 ?_
        refine xM_X8_226 hI hC (Nat.le_of_ble_eq_true rfl) hm dX8_heardOf_50 (Nat.le_of_ble_eq_true rfl) (fun q2 hm => ?_)
        refine z_goto (tgt := 58) hC dX8_heardOf_53 (by decide) ?_
        exact riM (fin := fun z => M_put_pile z u) hC hr rfl dX8_heardOf_58 hm rfl
      · refine z_iconst hC dX8_heardOf_45 kI_1 ?_
        refine z_goto (tgt := 50) hC dX8_heardOf_46 (by decide) ?_
        refine xM_X8_226 hI hC (Nat.le_of_ble_eq_true rfl) hm dX8_heardOf_50 (Nat.le_of_ble_eq_true rfl) (fun q3 hm => ?_)
        refine z_goto (tgt := 58) hC dX8_heardOf_53 (by decide) ?_
        exact riM (fin := fun z => M_put_pile z u) hC hr rfl dX8_heardOf_58 hm rfl
  · refine z_aload_n hC dX8_heardOf_17 rfl 0 rfl ?_
    refine z_iload hC dX8_heardOf_18 4 rfl ?_
    refine z_iconst hC dX8_heardOf_20 kI_0 ?_
    refine xM_X8_226 hI hC (Nat.le_of_ble_eq_true rfl) hm dX8_heardOf_21 (Nat.le_of_ble_eq_true rfl) (fun q4 hm => ?_)
    exact riM (fin := fun z => M_put_pile z u) hC hr rfl dX8_heardOf_24 hm rfl
theorem xM_X8_278 {p : Program} {l : Launch} {e : Env} {s : State} {m : MethodId} {args : Array Value} {below : List Frame} {meth : Method} {c : Code} {Q : State → Prop} {D : va_G} {A : Nat → Prop} {cc : ByteArray} {nL : Nat} {lv : List (Nat × Value)} {pc : Nat} {st : List Value} {cA : Nat → ClassId} {ad : Nat → Nat} {E : zEt} {d : Nat} {x1 : Int32} {x2 : Int32} {u : SM} (hI : zInj ad 23) (C : zC p s m args meth c cc nL RX8 zTS D (zTy cA) A E) (hdm : 2 + 1 ≤ d) {β : Type} {f : Int32 → Option β} {o : β} (hm : (mM_saidOf x1 x2 u).bind f = some o) (hd : decode cc pc = .ok (.invokevirtual 278, 3)) (h8 : (st.map fun v => v.category).sum ≤ 8) (g : ∀ q, f q = some o → zG p l e (zRm d) s m args below meth c nL D A Q (wM cA ad u) lv (pc + 3) (.int q :: st)) : zG p l e (zRm d) s m args below meth c nL D A Q (wM cA ad u) lv pc (.int x2 :: .int x1 :: .ref (ad 0) :: st) := by
  obtain ⟨q, h1, h2⟩ := zb_some hm
  exact z_calliV C (cM_saidOf hI x1 x2 u h1) (cwX8_278 C.1.2.2.2.2 rfl rfl ⟨hdm, by have := hdm; simp only [zRm]; omega⟩) hd rfl rfl h8 ⟨_, rfl, rfl⟩ (List.mem_of_getElem? (heM_o cA ad u)) (fun _ h => h) (fun _ h => h.elim) zJ_ro (g q h2)
theorem xM_X8_281 {p : Program} {l : Launch} {e : Env} {s : State} {m : MethodId} {args : Array Value} {below : List Frame} {meth : Method} {c : Code} {Q : State → Prop} {D : va_G} {A : Nat → Prop} {cc : ByteArray} {nL : Nat} {lv : List (Nat × Value)} {pc : Nat} {st : List Value} {cA : Nat → ClassId} {ad : Nat → Nat} {E : zEt} {d : Nat} {x1 : Int32} {x2 : Int32} {x3 : Int32} {x4 : Int32} {u : SM} (hI : zInj ad 23) (C : zC p s m args meth c cc nL RX8 zTS D (zTy cA) A E) (hdm : 7 + 1 ≤ d) (hA : ∀ q, zAd ad 23 q → A q) {β : Type} {f : (Int32 × (Nat → Int32)) → Option β} {o : β} (hm : (mM_heardOf x1 x2 x3 x4 u).bind f = some o) (hd : decode cc pc = .ok (.invokevirtual 281, 3)) (h8 : (st.map fun v => v.category).sum ≤ 8) (g : ∀ q, f q = some o → zG p l e (zRm d) s m args below meth c nL D A Q (wM cA ad (M_put_pile q.2 u)) lv (pc + 3) (.int q.1 :: st)) : zG p l e (zRm d) s m args below meth c nL D A Q (wM cA ad u) lv pc (.int x4 :: .int x3 :: .int x2 :: .int x1 :: .ref (ad 0) :: st) := by
  obtain ⟨q, h1, h2⟩ := zb_some hm
  exact z_calliV C (cM_heardOf hI x1 x2 x3 x4 u h1) (cwX8_281 C.1.2.2.2.2 rfl rfl ⟨hdm, by have := hdm; simp only [zRm]; omega⟩) hd rfl rfl h8 ⟨_, rfl, rfl⟩ (List.mem_of_getElem? (heM_o cA ad u)) (fun _ h => h) hA zJ_same (g q h2)
def mM_isRight (x1 : Int32) (x2 : Int32) (x3 : Int32) (u : SM) : Option (Int32 × (Nat → Int32)) :=
  (mM_saidOf x1 x3 u).bind fun q1 => ((mM_heardOf x1 x2 x3 q1 u).bind fun q2 => (zgi x3 20 (if q2.1 = ((M_letter u) (x3).toNatClampNeg) then (some ((1 : Int32), (q2.2))) else (some ((0 : Int32), (q2.2))))))
set_option maxRecDepth 100000 in
set_option maxHeartbeats 4000000 in
theorem cM_isRight {l : Launch} {D : va_G} {cA : Nat → ClassId} {ad : Nat → Nat} {E : zEt} (hI : zInj ad 23) (x1 : Int32) (x2 : Int32) (x3 : Int32) (u : SM) {r : Int32} {w' : (Nat → Int32)} (hm : mM_isRight x1 x2 x3 u = some (r, w')) : Met l yX8_isRight (zWs yX8_isRight cX8_isRight 4 (some .boolean)) (zRm 8) (va_Pc [.ref (ad 0), .int x1, .int x2, .int x3] (zPre D (zTy cA) E (zAd ad 23) (wM cA ad u))) (zQi r (zBw D (wM cA ad (M_put_pile w' u))) (zAd ad 23)) 0 0 (zAd ad 23) := by
  refine z_met (lv := [(0, .ref (ad 0)), (1, .int x1), (2, .int x2), (3, .int x3)]) plX8 rfl rfl (Nat.le_of_ble_eq_true rfl) rfl ?_
  intro p e s m below meth c hC hr hin
  unfold mM_isRight at hm
  refine z_aload_n hC dX8_isRight_0 rfl 0 rfl ?_
  refine z_iload_n hC dX8_isRight_1 rfl 1 rfl ?_
  refine z_iload_n hC dX8_isRight_2 rfl 2 rfl ?_
  refine z_iload_n hC dX8_isRight_3 rfl 3 rfl ?_
  refine z_aload_n hC dX8_isRight_4 rfl 0 rfl ?_
  refine z_iload_n hC dX8_isRight_5 rfl 1 rfl ?_
  refine z_iload_n hC dX8_isRight_6 rfl 3 rfl ?_
  refine xM_X8_278 hI hC (Nat.le_of_ble_eq_true rfl) hm dX8_isRight_7 (Nat.le_of_ble_eq_true rfl) (fun q1 hm => ?_)
  refine xM_X8_281 hI hC (Nat.le_of_ble_eq_true rfl) (fun _ h => h) hm dX8_isRight_10 (Nat.le_of_ble_eq_true rfl) (fun q2 hm => ?_)
  refine zuM (u2 := (M_put_pile (q2.2) u)) rfl ?_
  refine z_aload_n hC dX8_isRight_13 rfl 0 rfl ?_
  refine gM_X8_36_o hC dX8_isRight_14 ?_
  refine z_iload_n hC dX8_isRight_17 rfl 3 rfl ?_
  refine aM_letter hC hm dX8_isRight_18 (fun hm => ?_)
  refine z_icmp_ne (tgt := 26) hC hm dX8_isRight_19 (by decide) (fun hm => ?_) (fun hm => ?_)
  · refine z_iconst hC dX8_isRight_22 kI_1 ?_
    refine z_goto (tgt := 27) hC dX8_isRight_23 (by decide) ?_
    exact riM (fin := fun z => M_put_pile z u) hC hr rfl dX8_isRight_27 hm rfl
  · refine z_iconst hC dX8_isRight_26 kI_0 ?_
    exact riM (fin := fun z => M_put_pile z u) hC hr rfl dX8_isRight_27 hm rfl
theorem xM_X8_284 {p : Program} {l : Launch} {e : Env} {s : State} {m : MethodId} {args : Array Value} {below : List Frame} {meth : Method} {c : Code} {Q : State → Prop} {D : va_G} {A : Nat → Prop} {cc : ByteArray} {nL : Nat} {lv : List (Nat × Value)} {pc : Nat} {st : List Value} {cA : Nat → ClassId} {ad : Nat → Nat} {E : zEt} {d : Nat} {x1 : Int32} {x2 : Int32} {x3 : Int32} {u : SM} (hI : zInj ad 23) (C : zC p s m args meth c cc nL RX8 zTS D (zTy cA) A E) (hdm : 8 + 1 ≤ d) (hA : ∀ q, zAd ad 23 q → A q) {β : Type} {f : (Int32 × (Nat → Int32)) → Option β} {o : β} (hm : (mM_isRight x1 x2 x3 u).bind f = some o) (hd : decode cc pc = .ok (.invokevirtual 284, 3)) (h8 : (st.map fun v => v.category).sum ≤ 8) (g : ∀ q, f q = some o → zG p l e (zRm d) s m args below meth c nL D A Q (wM cA ad (M_put_pile q.2 u)) lv (pc + 3) (.int q.1 :: st)) : zG p l e (zRm d) s m args below meth c nL D A Q (wM cA ad u) lv pc (.int x3 :: .int x2 :: .int x1 :: .ref (ad 0) :: st) := by
  obtain ⟨q, h1, h2⟩ := zb_some hm
  exact z_calliV C (cM_isRight hI x1 x2 x3 u h1) (cwX8_284 C.1.2.2.2.2 rfl rfl ⟨hdm, by have := hdm; simp only [zRm]; omega⟩) hd rfl rfl h8 ⟨_, rfl, rfl⟩ (List.mem_of_getElem? (heM_o cA ad u)) (fun _ h => h) hA zJ_same (g q h2)
def mM_heard (x1 : Int32) (x2 : Int32) (x3 : Int32) (x4 : Int32) (u : SM) : Option (Int32 × (Nat → Int32)) :=
  if (mM_isVoice x1 u) = 0 then (some ((-1 : Int32), ((M_pile u)))) else (if (mM_isSeat x2 u) = 0 then (some ((-1 : Int32), ((M_pile u)))) else (if (mM_in x3 (0 : Int32) ((M_letters u) - (1 : Int32))) = 0 then (some ((-1 : Int32), ((M_pile u)))) else (if x4 = (0 : Int32) then ((mM_saidOf x1 x3 u).bind fun q1 => (some (q1, ((M_pile u))))) else (if x4 = (1 : Int32) then ((mM_saidOf x1 x3 u).bind fun q2 => ((mM_heardOf x1 x2 x3 q2 u).bind fun q3 => (some (q3.1, (q3.2))))) else (if x4 = (2 : Int32) then ((mM_isRight x1 x2 x3 u).bind fun q4 => (if q4.1 = 0 then (some ((0 : Int32), (q4.2))) else (some ((1 : Int32), (q4.2))))) else (some ((-1 : Int32), ((M_pile u)))))))))
set_option maxRecDepth 100000 in
set_option maxHeartbeats 4000000 in
theorem cM_heard {l : Launch} {D : va_G} {cA : Nat → ClassId} {ad : Nat → Nat} {E : zEt} (hI : zInj ad 23) (x1 : Int32) (x2 : Int32) (x3 : Int32) (x4 : Int32) (u : SM) {r : Int32} {w' : (Nat → Int32)} (hm : mM_heard x1 x2 x3 x4 u = some (r, w')) : Met l yX8_heard (zWs yX8_heard cX8_heard 5 (some .int)) (zRm 9) (va_Pc [.ref (ad 0), .int x1, .int x2, .int x3, .int x4] (zPre D (zTy cA) E (zAd ad 23) (wM cA ad u))) (zQi r (zBw D (wM cA ad (M_put_pile w' u))) (zAd ad 23)) 0 0 (zAd ad 23) := by
  refine z_met (lv := [(0, .ref (ad 0)), (1, .int x1), (2, .int x2), (3, .int x3), (4, .int x4)]) plX8 rfl rfl (Nat.le_of_ble_eq_true rfl) rfl ?_
  intro p e s m below meth c hC hr hin
  unfold mM_heard at hm
  refine z_aload_n hC dX8_heard_0 rfl 0 rfl ?_
  refine z_iload_n hC dX8_heard_1 rfl 1 rfl ?_
  refine xM_X8_272 hI hC (Nat.le_of_ble_eq_true rfl) dX8_heard_2 (Nat.le_of_ble_eq_true rfl) ?_
  refine z_if_eq (tgt := 31) hC hm dX8_heard_5 (by decide) (fun hm => ?_) (fun hm => ?_)
  · refine z_iconst hC dX8_heard_31 kI_m1 ?_
    exact riM (fin := fun z => M_put_pile z u) hC hr rfl dX8_heard_32 hm rfl
  · refine z_aload_n hC dX8_heard_8 rfl 0 rfl ?_
    refine z_iload_n hC dX8_heard_9 rfl 2 rfl ?_
    refine xM_X8_160 hI hC (Nat.le_of_ble_eq_true rfl) dX8_heard_10 (Nat.le_of_ble_eq_true rfl) ?_
    refine z_if_eq (tgt := 31) hC hm dX8_heard_13 (by decide) (fun hm => ?_) (fun hm => ?_)
    · refine z_iconst hC dX8_heard_31 kI_m1 ?_
      exact riM (fin := fun z => M_put_pile z u) hC hr rfl dX8_heard_32 hm rfl
    · refine z_aload_n hC dX8_heard_16 rfl 0 rfl ?_
      refine z_iload_n hC dX8_heard_17 rfl 3 rfl ?_
      refine z_iconst hC dX8_heard_18 kI_0 ?_
      refine z_aload_n hC dX8_heard_19 rfl 0 rfl ?_
      refine gM_X8_19_o (v := (M_letters u)) hC dX8_heard_20 rfl ?_
      refine z_iconst hC dX8_heard_23 kI_1 ?_
      refine z_isub hC dX8_heard_24 ?_
      refine xM_X8_150 hI hC (Nat.le_of_ble_eq_true rfl) dX8_heard_25 (Nat.le_of_ble_eq_true rfl) ?_
      refine z_if_ne (tgt := 33) hC hm dX8_heard_28 (by decide) (fun hm => ?_) (fun hm => ?_)
      · refine z_iconst hC dX8_heard_31 kI_m1 ?_
        exact riM (fin := fun z => M_put_pile z u) hC hr rfl dX8_heard_32 hm rfl
      · refine z_iload hC dX8_heard_33 4 rfl ?_
        refine z_ite hm (fun h35_0 hm => ?_) (fun h35_0 hm => ?_)
        · refine z_tin hC dX8_heard_35 h35_0 kc_0 (by decide) (by decide) (off := 25) rfl (tgt := 60) (by decide) ?_
          refine z_aload_n hC dX8_heard_60 rfl 0 rfl ?_
          refine z_iload_n hC dX8_heard_61 rfl 1 rfl ?_
          refine z_iload_n hC dX8_heard_62 rfl 3 rfl ?_
          refine xM_X8_278 hI hC (Nat.le_of_ble_eq_true rfl) hm dX8_heard_63 (Nat.le_of_ble_eq_true rfl) (fun q1 hm => ?_)
          exact riM (fin := fun z => M_put_pile z u) hC hr rfl dX8_heard_66 hm rfl
        · refine z_ite hm (fun h35_1 hm => ?_) (fun h35_1 hm => ?_)
          · refine z_tin hC dX8_heard_35 h35_1 kc_1 (by decide) (by decide) (off := 32) rfl (tgt := 67) (by decide) ?_
            refine z_aload_n hC dX8_heard_67 rfl 0 rfl ?_
            refine z_iload_n hC dX8_heard_68 rfl 1 rfl ?_
            refine z_iload_n hC dX8_heard_69 rfl 2 rfl ?_
            refine z_iload_n hC dX8_heard_70 rfl 3 rfl ?_
            refine z_aload_n hC dX8_heard_71 rfl 0 rfl ?_
            refine z_iload_n hC dX8_heard_72 rfl 1 rfl ?_
            refine z_iload_n hC dX8_heard_73 rfl 3 rfl ?_
            refine xM_X8_278 hI hC (Nat.le_of_ble_eq_true rfl) hm dX8_heard_74 (Nat.le_of_ble_eq_true rfl) (fun q2 hm => ?_)
            refine xM_X8_281 hI hC (Nat.le_of_ble_eq_true rfl) (fun _ h => h) hm dX8_heard_77 (Nat.le_of_ble_eq_true rfl) (fun q3 hm => ?_)
            refine zuM (u2 := (M_put_pile (q3.2) u)) rfl ?_
            exact riM (fin := fun z => M_put_pile z u) hC hr rfl dX8_heard_80 hm rfl
          · refine z_ite hm (fun h35_2 hm => ?_) (fun h35_2 hm => ?_)
            · refine z_tin hC dX8_heard_35 h35_2 kc_2 (by decide) (by decide) (off := 46) rfl (tgt := 81) (by decide) ?_
              refine z_aload_n hC dX8_heard_81 rfl 0 rfl ?_
              refine z_iload_n hC dX8_heard_82 rfl 1 rfl ?_
              refine z_iload_n hC dX8_heard_83 rfl 2 rfl ?_
              refine z_iload_n hC dX8_heard_84 rfl 3 rfl ?_
              refine xM_X8_284 hI hC (Nat.le_of_ble_eq_true rfl) (fun _ h => h) hm dX8_heard_85 (Nat.le_of_ble_eq_true rfl) (fun q4 hm => ?_)
              refine zuM (u2 := (M_put_pile (q4.2) u)) rfl ?_
              refine z_if_eq (tgt := 95) hC hm dX8_heard_88 (by decide) (fun hm => ?_) (fun hm => ?_)
              · refine z_iconst hC dX8_heard_95 kI_0 ?_
                exact riM (fin := fun z => M_put_pile z u) hC hr rfl dX8_heard_96 hm rfl
              · refine z_iconst hC dX8_heard_91 kI_1 ?_
                refine z_goto (tgt := 96) hC dX8_heard_92 (by decide) ?_
                exact riM (fin := fun z => M_put_pile z u) hC hr rfl dX8_heard_96 hm rfl
            · refine z_tout (n := 3) hC dX8_heard_35 (z_allc (z_tneq kc_0 h35_0) (z_allc (z_tneq kc_1 h35_1) (z_allc (z_tneq kc_2 h35_2) z_all0))) (by decide) (tgt := 97) (by decide) ?_
              refine z_iconst hC dX8_heard_97 kI_m1 ?_
              exact riM (fin := fun z => M_put_pile z u) hC hr rfl dX8_heard_98 hm rfl
def mM_houseful_J92 (K26 : Int32 → Int32 → SM → Option (Int32 × (Nat → Int32))) (x1 : Int32) (x2 : Int32) (x3 : Int32) (x4 : Int32) (x5 : Int32) (u : SM) : Option (Int32 × (Nat → Int32)) :=
  if x5 = 0 then (K26 (x3 ||| (0 : Int32)) (x4 + (1 : Int32)) u) else (K26 (x3 ||| ((1 : Int32) <<< (x4 &&& 31))) (x4 + (1 : Int32)) u)
set_option maxRecDepth 100000 in
set_option maxHeartbeats 4000000 in
theorem jM_houseful_92 {l : Launch} {D : va_G} {cA : Nat → ClassId} {ad : Nat → Nat} {p : Program} {e : Env} {s : State} {m : MethodId} {args : Array Value} {below : List Frame} {meth : Method} {c : Code} {E : zEt} {r : Int32} {w' : (Nat → Int32)}  {K26 : Int32 → Int32 → SM → Option (Int32 × (Nat → Int32))} {x1 : Int32} {x2 : Int32} {x3 : Int32} {x4 : Int32} {x5 : Int32} {u : SM} (hI : zInj ad 23) (hC : zC p s m args meth c cX8_houseful 7 RX8 zTS D (zTy cA) (zAd ad 23) E) (hr : meth.sig.returnType = (some .int)) (hK26 : ∀ (x3 : Int32) (x4 : Int32) (u : SM), K26 x3 x4 u = some (r, w') → zG p l e (zRm 9) s m args below meth c 7 D (zAd ad 23) (MQ below (zQi r (zBw D (wM cA ad (M_put_pile w' u))) (zAd ad 23)) args s 0 0 (zAd ad 23)) (wM cA ad u) [(0, .ref (ad 0)), (1, .int x1), (2, .int x2), (3, .int x3), (4, .int x4)] 26 []) (hm : mM_houseful_J92 K26 x1 x2 x3 x4 x5 u = some (r, w')) : zG p l e (zRm 9) s m args below meth c 7 D (zAd ad 23) (MQ below (zQi r (zBw D (wM cA ad (M_put_pile w' u))) (zAd ad 23)) args s 0 0 (zAd ad 23)) (wM cA ad u) [(0, .ref (ad 0)), (1, .int x1), (2, .int x2), (3, .int x3), (4, .int x4), (5, .int x5)] 92 [] := by
  unfold mM_houseful_J92 at hm
  refine z_iload_n hC dX8_houseful_92 rfl 3 rfl ?_
  refine z_iload hC dX8_houseful_93 5 rfl ?_
  refine z_if_eq (tgt := 105) hC hm dX8_houseful_95 (by decide) (fun hm => ?_) (fun hm => ?_)
  · refine z_iconst hC dX8_houseful_105 kI_0 ?_
    refine z_ior hC dX8_houseful_106 ?_
    refine z_istore_n (lv' := [(3, .int (x3 ||| (0 : Int32))), (0, .ref (ad 0)), (1, .int x1), (2, .int x2), (4, .int x4), (5, .int x5)]) hC dX8_houseful_107 rfl (by decide) rfl ?_
    refine z_iinc (lv' := [(4, .int (x4 + (1 : Int32))), (3, .int (x3 ||| (0 : Int32))), (0, .ref (ad 0)), (1, .int x1), (2, .int x2), (5, .int x5)]) (k := 4) (v := (x4 + (1 : Int32))) hC dX8_houseful_108 rfl rfl (by decide) rfl ?_
    refine z_goto (tgt := 26) hC dX8_houseful_111 (by decide) ?_
    refine z_lv hC [2, 3, 4, 1, 0] rfl ?_
    exact hK26 _ _ _ hm
  · refine z_iconst hC dX8_houseful_98 kI_1 ?_
    refine z_iload hC dX8_houseful_99 4 rfl ?_
    refine z_ishl hC dX8_houseful_101 ?_
    refine z_goto (tgt := 106) hC dX8_houseful_102 (by decide) ?_
    refine z_ior hC dX8_houseful_106 ?_
    refine z_istore_n (lv' := [(3, .int (x3 ||| ((1 : Int32) <<< (x4 &&& 31)))), (0, .ref (ad 0)), (1, .int x1), (2, .int x2), (4, .int x4), (5, .int x5)]) hC dX8_houseful_107 rfl (by decide) rfl ?_
    refine z_iinc (lv' := [(4, .int (x4 + (1 : Int32))), (3, .int (x3 ||| ((1 : Int32) <<< (x4 &&& 31)))), (0, .ref (ad 0)), (1, .int x1), (2, .int x2), (5, .int x5)]) (k := 4) (v := (x4 + (1 : Int32))) hC dX8_houseful_108 rfl rfl (by decide) rfl ?_
    refine z_goto (tgt := 26) hC dX8_houseful_111 (by decide) ?_
    refine z_lv hC [2, 3, 4, 1, 0] rfl ?_
    exact hK26 _ _ _ hm
def mM_houseful_J67 (K26 : Int32 → Int32 → SM → Option (Int32 × (Nat → Int32))) (K49 : Int32 → Int32 → SM → Option (Int32 × (Nat → Int32))) (x1 : Int32) (x2 : Int32) (x3 : Int32) (x4 : Int32) (x5 : Int32) (x6 : Int32) (s0 : Int32) (s1 : Int32) (u : SM) : Option (Int32 × (Nat → Int32)) :=
  if s1 ≤ s0 then (mM_houseful_J92 (K26) x1 x2 x3 x4 x5 u) else (if x5 = 0 then (mM_houseful_J92 (K26) x1 x2 x3 x4 x5 u) else ((mM_isCaught x1 x4 x6 u).bind fun q1 => (K49 q1.1 (x6 + (1 : Int32)) (M_put_pile (q1.2) u))))
set_option maxRecDepth 100000 in
set_option maxHeartbeats 4000000 in
theorem jM_houseful_67 {l : Launch} {D : va_G} {cA : Nat → ClassId} {ad : Nat → Nat} {p : Program} {e : Env} {s : State} {m : MethodId} {args : Array Value} {below : List Frame} {meth : Method} {c : Code} {E : zEt} {r : Int32} {w' : (Nat → Int32)}  {K26 : Int32 → Int32 → SM → Option (Int32 × (Nat → Int32))} {K49 : Int32 → Int32 → SM → Option (Int32 × (Nat → Int32))} {x1 : Int32} {x2 : Int32} {x3 : Int32} {x4 : Int32} {x5 : Int32} {x6 : Int32} {s0 : Int32} {s1 : Int32} {u : SM} (hI : zInj ad 23) (hC : zC p s m args meth c cX8_houseful 7 RX8 zTS D (zTy cA) (zAd ad 23) E) (hr : meth.sig.returnType = (some .int)) (hK26 : ∀ (x3 : Int32) (x4 : Int32) (u : SM), K26 x3 x4 u = some (r, w') → zG p l e (zRm 9) s m args below meth c 7 D (zAd ad 23) (MQ below (zQi r (zBw D (wM cA ad (M_put_pile w' u))) (zAd ad 23)) args s 0 0 (zAd ad 23)) (wM cA ad u) [(0, .ref (ad 0)), (1, .int x1), (2, .int x2), (3, .int x3), (4, .int x4)] 26 []) (hK49 : ∀ (x5 : Int32) (x6 : Int32) (u : SM), K49 x5 x6 u = some (r, w') → zG p l e (zRm 9) s m args below meth c 7 D (zAd ad 23) (MQ below (zQi r (zBw D (wM cA ad (M_put_pile w' u))) (zAd ad 23)) args s 0 0 (zAd ad 23)) (wM cA ad u) [(0, .ref (ad 0)), (1, .int x1), (2, .int x2), (3, .int x3), (4, .int x4), (5, .int x5), (6, .int x6)] 49 []) (hm : mM_houseful_J67 K26 K49 x1 x2 x3 x4 x5 x6 s0 s1 u = some (r, w')) : zG p l e (zRm 9) s m args below meth c 7 D (zAd ad 23) (MQ below (zQi r (zBw D (wM cA ad (M_put_pile w' u))) (zAd ad 23)) args s 0 0 (zAd ad 23)) (wM cA ad u) [(0, .ref (ad 0)), (1, .int x1), (2, .int x2), (3, .int x3), (4, .int x4), (5, .int x5), (6, .int x6)] 67 [.int s1, .int s0] := by
  unfold mM_houseful_J67 at hm
  refine z_icmp_ge (tgt := 92) hC hm dX8_houseful_67 (by decide) (fun hm => ?_) (fun hm => ?_)
  · refine z_lv hC [0, 1, 2, 3, 4, 5] rfl ?_
    exact jM_houseful_92 hI hC hr (hK26) hm
  · refine z_iload hC dX8_houseful_70 5 rfl ?_
    refine z_if_eq (tgt := 92) hC hm dX8_houseful_72 (by decide) (fun hm => ?_) (fun hm => ?_)
    · refine z_lv hC [0, 1, 2, 3, 4, 5] rfl ?_
      exact jM_houseful_92 hI hC hr (hK26) hm
    · refine z_aload_n hC dX8_houseful_75 rfl 0 rfl ?_
      refine z_iload_n hC dX8_houseful_76 rfl 1 rfl ?_
      refine z_iload hC dX8_houseful_77 4 rfl ?_
      refine z_iload hC dX8_houseful_79 6 rfl ?_
      refine xM_X8_275 hI hC (Nat.le_of_ble_eq_true rfl) (fun _ h => h) hm dX8_houseful_81 (Nat.le_of_ble_eq_true rfl) (fun q1 hm => ?_)
      refine zuM (u2 := (M_put_pile (q1.2) u)) rfl ?_
      refine z_istore (lv' := [(5, .int q1.1), (0, .ref (ad 0)), (1, .int x1), (2, .int x2), (3, .int x3), (4, .int x4), (6, .int x6)]) hC dX8_houseful_84 (by decide) rfl ?_
      refine z_iinc (lv' := [(6, .int (x6 + (1 : Int32))), (5, .int q1.1), (0, .ref (ad 0)), (1, .int x1), (2, .int x2), (3, .int x3), (4, .int x4)]) (k := 6) (v := (x6 + (1 : Int32))) hC dX8_houseful_86 rfl rfl (by decide) rfl ?_
      refine z_goto (tgt := 49) hC dX8_houseful_89 (by decide) ?_
      refine z_lv hC [2, 3, 4, 5, 6, 1, 0] rfl ?_
      exact hK49 _ _ _ hm
def mM_houseful_L49 (K26 : Int32 → Int32 → SM → Option (Int32 × (Nat → Int32))) (x1 : Int32) (x2 : Int32) (x3 : Int32) (x4 : Int32) : Nat → Int32 → Int32 → SM → Option (Int32 × (Nat → Int32))
  | 0, _, _, _ => none
  | n + 1, x5, x6, u => if 0 ≤ x2 then (mM_houseful_J67 (K26) (mM_houseful_L49 K26 x1 x2 x3 x4 n) x1 x2 x3 x4 x5 x6 x6 (x2 + (1 : Int32)) u) else (mM_houseful_J67 (K26) (mM_houseful_L49 K26 x1 x2 x3 x4 n) x1 x2 x3 x4 x5 x6 x6 ((2 : Int32) * (M_letters u)) u)
set_option maxRecDepth 100000 in
set_option maxHeartbeats 4000000 in
theorem lM_houseful_49 {l : Launch} {D : va_G} {cA : Nat → ClassId} {ad : Nat → Nat} {p : Program} {e : Env} {s : State} {m : MethodId} {args : Array Value} {below : List Frame} {meth : Method} {c : Code} {E : zEt} {r : Int32} {w' : (Nat → Int32)}  {K26 : Int32 → Int32 → SM → Option (Int32 × (Nat → Int32))} {x1 : Int32} {x2 : Int32} {x3 : Int32} {x4 : Int32} (hI : zInj ad 23) (hC : zC p s m args meth c cX8_houseful 7 RX8 zTS D (zTy cA) (zAd ad 23) E) (hr : meth.sig.returnType = (some .int)) (hK26 : ∀ (x3 : Int32) (x4 : Int32) (u : SM), K26 x3 x4 u = some (r, w') → zG p l e (zRm 9) s m args below meth c 7 D (zAd ad 23) (MQ below (zQi r (zBw D (wM cA ad (M_put_pile w' u))) (zAd ad 23)) args s 0 0 (zAd ad 23)) (wM cA ad u) [(0, .ref (ad 0)), (1, .int x1), (2, .int x2), (3, .int x3), (4, .int x4)] 26 []) : ∀ (n : Nat) (x5 : Int32) (x6 : Int32) (u : SM), mM_houseful_L49 K26 x1 x2 x3 x4 n x5 x6 u = some (r, w') → zG p l e (zRm 9) s m args below meth c 7 D (zAd ad 23) (MQ below (zQi r (zBw D (wM cA ad (M_put_pile w' u))) (zAd ad 23)) args s 0 0 (zAd ad 23)) (wM cA ad u) [(0, .ref (ad 0)), (1, .int x1), (2, .int x2), (3, .int x3), (4, .int x4), (5, .int x5), (6, .int x6)] 49 [] := by
  intro n
  induction n with
  | zero => intro x5 x6 u hm; exact z_none hm
  | succ n ih =>
    intro x5 x6 u hm
    rw [mM_houseful_L49] at hm
    refine z_iload hC dX8_houseful_49 6 rfl ?_
    refine z_iload_n hC dX8_houseful_51 rfl 2 rfl ?_
    refine z_if_ge (tgt := 64) hC hm dX8_houseful_52 (by decide) (fun hm => ?_) (fun hm => ?_)
    · refine z_iload_n hC dX8_houseful_64 rfl 2 rfl ?_
      refine z_iconst hC dX8_houseful_65 kI_1 ?_
      refine z_iadd hC dX8_houseful_66 ?_
      refine z_lv hC [0, 1, 2, 3, 4, 5, 6] rfl ?_
      exact jM_houseful_67 hI hC hr (hK26) (ih) hm
    · refine z_iconst hC dX8_houseful_55 kI_2 ?_
      refine z_aload_n hC dX8_houseful_56 rfl 0 rfl ?_
      refine gM_X8_19_o (v := (M_letters u)) hC dX8_houseful_57 rfl ?_
      refine z_imul hC dX8_houseful_60 ?_
      refine z_goto (tgt := 67) hC dX8_houseful_61 (by decide) ?_
      refine z_lv hC [0, 1, 2, 3, 4, 5, 6] rfl ?_
      exact jM_houseful_67 hI hC hr (hK26) (ih) hm
def mM_houseful_L26 (x1 : Int32) (x2 : Int32) : Nat → Int32 → Int32 → SM → Option (Int32 × (Nat → Int32))
  | 0, _, _, _ => none
  | n + 1, x3, x4, u => if (M_seats u) ≤ x4 then (some (x3, ((M_pile u)))) else (if 0 ≤ x2 then (mM_houseful_L49 (mM_houseful_L26 x1 x2 n) x1 x2 x3 x4 256 (1 : Int32) x2 u) else (mM_houseful_L49 (mM_houseful_L26 x1 x2 n) x1 x2 x3 x4 256 (1 : Int32) (0 : Int32) u))
set_option maxRecDepth 100000 in
set_option maxHeartbeats 4000000 in
theorem lM_houseful_26 {l : Launch} {D : va_G} {cA : Nat → ClassId} {ad : Nat → Nat} {p : Program} {e : Env} {s : State} {m : MethodId} {args : Array Value} {below : List Frame} {meth : Method} {c : Code} {E : zEt} {r : Int32} {w' : (Nat → Int32)}  {x1 : Int32} {x2 : Int32} (hI : zInj ad 23) (hC : zC p s m args meth c cX8_houseful 7 RX8 zTS D (zTy cA) (zAd ad 23) E) (hr : meth.sig.returnType = (some .int)) : ∀ (n : Nat) (x3 : Int32) (x4 : Int32) (u : SM), mM_houseful_L26 x1 x2 n x3 x4 u = some (r, w') → zG p l e (zRm 9) s m args below meth c 7 D (zAd ad 23) (MQ below (zQi r (zBw D (wM cA ad (M_put_pile w' u))) (zAd ad 23)) args s 0 0 (zAd ad 23)) (wM cA ad u) [(0, .ref (ad 0)), (1, .int x1), (2, .int x2), (3, .int x3), (4, .int x4)] 26 [] := by
  intro n
  induction n with
  | zero => intro x3 x4 u hm; exact z_none hm
  | succ n ih =>
    intro x3 x4 u hm
    rw [mM_houseful_L26] at hm
    refine z_iload hC dX8_houseful_26 4 rfl ?_
    refine z_aload_n hC dX8_houseful_28 rfl 0 rfl ?_
    refine gM_X8_16_o (v := (M_seats u)) hC dX8_houseful_29 rfl ?_
    refine z_icmp_ge (tgt := 114) hC hm dX8_houseful_32 (by decide) (fun hm => ?_) (fun hm => ?_)
    · refine z_iload_n hC dX8_houseful_114 rfl 3 rfl ?_
      exact riM (fin := fun z => M_put_pile z u) hC hr rfl dX8_houseful_115 hm rfl
    · refine z_iconst hC dX8_houseful_35 kI_1 ?_
      refine z_istore (lv' := [(5, .int (1 : Int32)), (0, .ref (ad 0)), (1, .int x1), (2, .int x2), (3, .int x3), (4, .int x4)]) hC dX8_houseful_36 (by decide) rfl ?_
      refine z_iload_n hC dX8_houseful_38 rfl 3 rfl ?_
      refine z_if_ge (tgt := 46) hC hm dX8_houseful_39 (by decide) (fun hm => ?_) (fun hm => ?_)
      · refine z_iload_n hC dX8_houseful_46 rfl 3 rfl ?_
        refine z_istore (lv' := [(6, .int x2), (5, .int (1 : Int32)), (0, .ref (ad 0)), (1, .int x1), (2, .int x2), (3, .int x3), (4, .int x4)]) hC dX8_houseful_47 (by decide) rfl ?_
        refine z_lv hC [2, 3, 4, 5, 6, 1, 0] rfl ?_
        exact lM_houseful_49 hI hC hr (ih) _ _ _ _ hm
      · refine z_iconst hC dX8_houseful_42 kI_0 ?_
        refine z_goto (tgt := 47) hC dX8_houseful_43 (by decide) ?_
        refine z_istore (lv' := [(6, .int (0 : Int32)), (5, .int (1 : Int32)), (0, .ref (ad 0)), (1, .int x1), (2, .int x2), (3, .int x3), (4, .int x4)]) hC dX8_houseful_47 (by decide) rfl ?_
        refine z_lv hC [2, 3, 4, 5, 6, 1, 0] rfl ?_
        exact lM_houseful_49 hI hC hr (ih) _ _ _ _ hm
def mM_houseful (x1 : Int32) (x2 : Int32) (u : SM) : Option (Int32 × (Nat → Int32)) :=
  if (mM_isVoice x1 u) = 0 then (some ((-1 : Int32), ((M_pile u)))) else (if (mM_in x2 (-1 : Int32) (39 : Int32)) = 0 then (some ((-1 : Int32), ((M_pile u)))) else (mM_houseful_L26 x1 x2 256 (0 : Int32) (0 : Int32) u))
set_option maxRecDepth 100000 in
set_option maxHeartbeats 4000000 in
theorem cM_houseful {l : Launch} {D : va_G} {cA : Nat → ClassId} {ad : Nat → Nat} {E : zEt} (hI : zInj ad 23) (x1 : Int32) (x2 : Int32) (u : SM) {r : Int32} {w' : (Nat → Int32)} (hm : mM_houseful x1 x2 u = some (r, w')) : Met l yX8_houseful (zWs yX8_houseful cX8_houseful 7 (some .int)) (zRm 9) (va_Pc [.ref (ad 0), .int x1, .int x2] (zPre D (zTy cA) E (zAd ad 23) (wM cA ad u))) (zQi r (zBw D (wM cA ad (M_put_pile w' u))) (zAd ad 23)) 0 0 (zAd ad 23) := by
  refine z_met (lv := [(0, .ref (ad 0)), (1, .int x1), (2, .int x2)]) plX8 rfl rfl (Nat.le_of_ble_eq_true rfl) rfl ?_
  intro p e s m below meth c hC hr hin
  unfold mM_houseful at hm
  refine z_aload_n hC dX8_houseful_0 rfl 0 rfl ?_
  refine z_iload_n hC dX8_houseful_1 rfl 1 rfl ?_
  refine xM_X8_272 hI hC (Nat.le_of_ble_eq_true rfl) dX8_houseful_2 (Nat.le_of_ble_eq_true rfl) ?_
  refine z_if_eq (tgt := 19) hC hm dX8_houseful_5 (by decide) (fun hm => ?_) (fun hm => ?_)
  · refine z_iconst hC dX8_houseful_19 kI_m1 ?_
    exact riM (fin := fun z => M_put_pile z u) hC hr rfl dX8_houseful_20 hm rfl
  · refine z_aload_n hC dX8_houseful_8 rfl 0 rfl ?_
    refine z_iload_n hC dX8_houseful_9 rfl 2 rfl ?_
    refine z_iconst hC dX8_houseful_10 kI_m1 ?_
    refine z_bipush hC dX8_houseful_11 kB_39 ?_
    refine xM_X8_150 hI hC (Nat.le_of_ble_eq_true rfl) dX8_houseful_13 (Nat.le_of_ble_eq_true rfl) ?_
    refine z_if_ne (tgt := 21) hC hm dX8_houseful_16 (by decide) (fun hm => ?_) (fun hm => ?_)
    · refine z_iconst hC dX8_houseful_19 kI_m1 ?_
      exact riM (fin := fun z => M_put_pile z u) hC hr rfl dX8_houseful_20 hm rfl
    · refine z_iconst hC dX8_houseful_21 kI_0 ?_
      refine z_istore_n (lv' := [(3, .int (0 : Int32)), (0, .ref (ad 0)), (1, .int x1), (2, .int x2)]) hC dX8_houseful_22 rfl (by decide) rfl ?_
      refine z_iconst hC dX8_houseful_23 kI_0 ?_
      refine z_istore (lv' := [(4, .int (0 : Int32)), (3, .int (0 : Int32)), (0, .ref (ad 0)), (1, .int x1), (2, .int x2)]) hC dX8_houseful_24 (by decide) rfl ?_
      refine z_lv hC [2, 3, 4, 1, 0] rfl ?_
      exact lM_houseful_26 hI hC hr _ _ _ _ hm
def mM_drawn_L36 (x1 : Int32) (x2 : Int32) (x3 : Int32) : Nat → Int32 → Int32 → SM → Option (Int32 × (Nat → Int32))
  | 0, _, _, _ => none
  | n + 1, x4, x5, u => if (41 : Int32) ≤ ((M_mouth u) + x5) then (some (x4, ((M_pile u)))) else ((mM_joined x1 x2 x3 ((M_mouth u) + x5) (0 : Int32) u).bind fun q1 => (if q1.1 = 0 then (mM_drawn_L36 x1 x2 x3 n x4 (x5 + (1 : Int32)) (M_put_pile (q1.2) u)) else (mM_drawn_L36 x1 x2 x3 n x5 (x5 + (1 : Int32)) (M_put_pile (q1.2) u))))
set_option maxRecDepth 100000 in
set_option maxHeartbeats 4000000 in
theorem lM_drawn_36 {l : Launch} {D : va_G} {cA : Nat → ClassId} {ad : Nat → Nat} {p : Program} {e : Env} {s : State} {m : MethodId} {args : Array Value} {below : List Frame} {meth : Method} {c : Code} {E : zEt} {r : Int32} {w' : (Nat → Int32)}  {x1 : Int32} {x2 : Int32} {x3 : Int32} (hI : zInj ad 23) (hC : zC p s m args meth c cX8_drawn 6 RX8 zTS D (zTy cA) (zAd ad 23) E) (hr : meth.sig.returnType = (some .int)) : ∀ (n : Nat) (x4 : Int32) (x5 : Int32) (u : SM), mM_drawn_L36 x1 x2 x3 n x4 x5 u = some (r, w') → zG p l e (zRm 7) s m args below meth c 6 D (zAd ad 23) (MQ below (zQi r (zBw D (wM cA ad (M_put_pile w' u))) (zAd ad 23)) args s 0 0 (zAd ad 23)) (wM cA ad u) [(0, .ref (ad 0)), (1, .int x1), (2, .int x2), (3, .int x3), (4, .int x4), (5, .int x5)] 36 [] := by
  intro n
  induction n with
  | zero => intro x4 x5 u hm; exact z_none hm
  | succ n ih =>
    intro x4 x5 u hm
    rw [mM_drawn_L36] at hm
    refine z_aload_n hC dX8_drawn_36 rfl 0 rfl ?_
    refine gM_X8_7_o (v := (M_mouth u)) hC dX8_drawn_37 rfl ?_
    refine z_iload hC dX8_drawn_40 5 rfl ?_
    refine z_iadd hC dX8_drawn_42 ?_
    refine z_bipush hC dX8_drawn_43 kB_41 ?_
    refine z_icmp_ge (tgt := 81) hC hm dX8_drawn_45 (by decide) (fun hm => ?_) (fun hm => ?_)
    · refine z_iload hC dX8_drawn_81 4 rfl ?_
      exact riM (fin := fun z => M_put_pile z u) hC hr rfl dX8_drawn_83 hm rfl
    · refine z_aload_n hC dX8_drawn_48 rfl 0 rfl ?_
      refine z_iload_n hC dX8_drawn_49 rfl 1 rfl ?_
      refine z_iload_n hC dX8_drawn_50 rfl 2 rfl ?_
      refine z_iload_n hC dX8_drawn_51 rfl 3 rfl ?_
      refine z_aload_n hC dX8_drawn_52 rfl 0 rfl ?_
      refine gM_X8_7_o (v := (M_mouth u)) hC dX8_drawn_53 rfl ?_
      refine z_iload hC dX8_drawn_56 5 rfl ?_
      refine z_iadd hC dX8_drawn_58 ?_
      refine z_iconst hC dX8_drawn_59 kI_0 ?_
      refine xM_X8_265 hI hC (Nat.le_of_ble_eq_true rfl) (fun _ h => h) hm dX8_drawn_60 (Nat.le_of_ble_eq_true rfl) (fun q1 hm => ?_)
      refine zuM (u2 := (M_put_pile (q1.2) u)) rfl ?_
      refine z_if_eq (tgt := 71) hC hm dX8_drawn_63 (by decide) (fun hm => ?_) (fun hm => ?_)
      · refine z_iload hC dX8_drawn_71 4 rfl ?_
        refine z_istore (lv' := [(4, .int x4), (0, .ref (ad 0)), (1, .int x1), (2, .int x2), (3, .int x3), (5, .int x5)]) hC dX8_drawn_73 (by decide) rfl ?_
        refine z_iinc (lv' := [(5, .int (x5 + (1 : Int32))), (4, .int x4), (0, .ref (ad 0)), (1, .int x1), (2, .int x2), (3, .int x3)]) (k := 5) (v := (x5 + (1 : Int32))) hC dX8_drawn_75 rfl rfl (by decide) rfl ?_
        refine z_goto (tgt := 36) hC dX8_drawn_78 (by decide) ?_
        refine z_lv hC [2, 3, 4, 5, 1, 0] rfl ?_
        exact ih _ _ _ hm
      · refine z_iload hC dX8_drawn_66 5 rfl ?_
        refine z_goto (tgt := 73) hC dX8_drawn_68 (by decide) ?_
        refine z_istore (lv' := [(4, .int x5), (0, .ref (ad 0)), (1, .int x1), (2, .int x2), (3, .int x3), (5, .int x5)]) hC dX8_drawn_73 (by decide) rfl ?_
        refine z_iinc (lv' := [(5, .int (x5 + (1 : Int32))), (4, .int x5), (0, .ref (ad 0)), (1, .int x1), (2, .int x2), (3, .int x3)]) (k := 5) (v := (x5 + (1 : Int32))) hC dX8_drawn_75 rfl rfl (by decide) rfl ?_
        refine z_goto (tgt := 36) hC dX8_drawn_78 (by decide) ?_
        refine z_lv hC [2, 3, 4, 5, 1, 0] rfl ?_
        exact ih _ _ _ hm
def mM_drawn (x1 : Int32) (x2 : Int32) (x3 : Int32) (u : SM) : Option (Int32 × (Nat → Int32)) :=
  if (mM_isVoice x1 u) = 0 then (some ((-1 : Int32), ((M_pile u)))) else (if (mM_isSeat x2 u) = 0 then (some ((-1 : Int32), ((M_pile u)))) else (if (mM_in x3 (0 : Int32) (39 : Int32)) = 0 then (some ((-1 : Int32), ((M_pile u)))) else (mM_drawn_L36 x1 x2 x3 256 (-5 : Int32) (0 : Int32) u)))
set_option maxRecDepth 100000 in
set_option maxHeartbeats 4000000 in
theorem cM_drawn {l : Launch} {D : va_G} {cA : Nat → ClassId} {ad : Nat → Nat} {E : zEt} (hI : zInj ad 23) (x1 : Int32) (x2 : Int32) (x3 : Int32) (u : SM) {r : Int32} {w' : (Nat → Int32)} (hm : mM_drawn x1 x2 x3 u = some (r, w')) : Met l yX8_drawn (zWs yX8_drawn cX8_drawn 6 (some .int)) (zRm 7) (va_Pc [.ref (ad 0), .int x1, .int x2, .int x3] (zPre D (zTy cA) E (zAd ad 23) (wM cA ad u))) (zQi r (zBw D (wM cA ad (M_put_pile w' u))) (zAd ad 23)) 0 0 (zAd ad 23) := by
  refine z_met (lv := [(0, .ref (ad 0)), (1, .int x1), (2, .int x2), (3, .int x3)]) plX8 rfl rfl (Nat.le_of_ble_eq_true rfl) rfl ?_
  intro p e s m below meth c hC hr hin
  unfold mM_drawn at hm
  refine z_aload_n hC dX8_drawn_0 rfl 0 rfl ?_
  refine z_iload_n hC dX8_drawn_1 rfl 1 rfl ?_
  refine xM_X8_272 hI hC (Nat.le_of_ble_eq_true rfl) dX8_drawn_2 (Nat.le_of_ble_eq_true rfl) ?_
  refine z_if_eq (tgt := 27) hC hm dX8_drawn_5 (by decide) (fun hm => ?_) (fun hm => ?_)
  · refine z_iconst hC dX8_drawn_27 kI_m1 ?_
    exact riM (fin := fun z => M_put_pile z u) hC hr rfl dX8_drawn_28 hm rfl
  · refine z_aload_n hC dX8_drawn_8 rfl 0 rfl ?_
    refine z_iload_n hC dX8_drawn_9 rfl 2 rfl ?_
    refine xM_X8_160 hI hC (Nat.le_of_ble_eq_true rfl) dX8_drawn_10 (Nat.le_of_ble_eq_true rfl) ?_
    refine z_if_eq (tgt := 27) hC hm dX8_drawn_13 (by decide) (fun hm => ?_) (fun hm => ?_)
    · refine z_iconst hC dX8_drawn_27 kI_m1 ?_
      exact riM (fin := fun z => M_put_pile z u) hC hr rfl dX8_drawn_28 hm rfl
    · refine z_aload_n hC dX8_drawn_16 rfl 0 rfl ?_
      refine z_iload_n hC dX8_drawn_17 rfl 3 rfl ?_
      refine z_iconst hC dX8_drawn_18 kI_0 ?_
      refine z_bipush hC dX8_drawn_19 kB_39 ?_
      refine xM_X8_150 hI hC (Nat.le_of_ble_eq_true rfl) dX8_drawn_21 (Nat.le_of_ble_eq_true rfl) ?_
      refine z_if_ne (tgt := 29) hC hm dX8_drawn_24 (by decide) (fun hm => ?_) (fun hm => ?_)
      · refine z_iconst hC dX8_drawn_27 kI_m1 ?_
        exact riM (fin := fun z => M_put_pile z u) hC hr rfl dX8_drawn_28 hm rfl
      · refine z_bipush hC dX8_drawn_29 kB_m5 ?_
        refine z_istore (lv' := [(4, .int (-5 : Int32)), (0, .ref (ad 0)), (1, .int x1), (2, .int x2), (3, .int x3)]) hC dX8_drawn_31 (by decide) rfl ?_
        refine z_iconst hC dX8_drawn_33 kI_0 ?_
        refine z_istore (lv' := [(5, .int (0 : Int32)), (4, .int (-5 : Int32)), (0, .ref (ad 0)), (1, .int x1), (2, .int x2), (3, .int x3)]) hC dX8_drawn_34 (by decide) rfl ?_
        refine z_lv hC [2, 3, 4, 5, 1, 0] rfl ?_
        exact lM_drawn_36 hI hC hr _ _ _ _ hm
