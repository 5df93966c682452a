def mM_takesFigure (x1 : Int32) (u : SM) : Option (Int32 × Int32 × Int32) :=
  (mM_next u).bind fun q1 => (if (mM_in q1 (48 : Int32) ((48 : Int32) + x1)) = 0 then (some ((0 : Int32), ((M_at u), (M_digits u)))) else ((mM_next u).bind fun q2 => (some ((1 : Int32), (((M_at u) + (1 : Int32)), (q2 - (48 : Int32)))))))
set_option maxRecDepth 100000 in
set_option maxHeartbeats 4000000 in
theorem cM_takesFigure {l : Launch} {D : va_G} {cA : Nat → ClassId} {ad : Nat → Nat} {E : zEt} (hI : zInj ad 23) (x1 : Int32) (u : SM) {r : Int32} {w' : Int32 × Int32} (hm : mM_takesFigure x1 u = some (r, w')) : Met l yX8_takesFigure (zWs yX8_takesFigure cX8_takesFigure 2 (some .boolean)) (zRm 1) (va_Pc [.ref (ad 0), .int x1] (zPre D (zTy cA) E (zAd ad 23) (wM cA ad u))) (zQi r (zBw D (wM cA ad (M_put_at_digits w' u))) (zAd ad 23)) 0 0 (zAd ad 23) := by
  refine z_met (lv := [(0, .ref (ad 0)), (1, .int x1)]) plX8 rfl rfl (Nat.le_of_ble_eq_true rfl) rfl ?_
  intro p e s m below meth c hC hr hin
  unfold mM_takesFigure at hm
  refine z_aload_n hC dX8_takesFigure_0 rfl 0 rfl ?_
  refine z_aload_n hC dX8_takesFigure_1 rfl 0 rfl ?_
  refine xM_X8_163 hI hC (Nat.le_of_ble_eq_true rfl) hm dX8_takesFigure_2 (Nat.le_of_ble_eq_true rfl) (fun q1 hm => ?_)
  refine z_bipush hC dX8_takesFigure_5 kB_48 ?_
  refine z_bipush hC dX8_takesFigure_7 kB_48 ?_
  refine z_iload_n hC dX8_takesFigure_9 rfl 1 rfl ?_
  refine z_iadd hC dX8_takesFigure_10 ?_
  refine xM_X8_150 hI hC (Nat.le_of_ble_eq_true rfl) dX8_takesFigure_11 (Nat.le_of_ble_eq_true rfl) ?_
  refine z_if_ne (tgt := 19) hC hm dX8_takesFigure_14 (by decide) (fun hm => ?_) (fun hm => ?_)
  · refine z_iconst hC dX8_takesFigure_17 kI_0 ?_
    exact riM (fin := fun z => M_put_at_digits z u) hC hr rfl dX8_takesFigure_18 hm rfl
  · refine z_aload_n hC dX8_takesFigure_19 rfl 0 rfl ?_
    refine z_aload_n hC dX8_takesFigure_20 rfl 0 rfl ?_
    refine xM_X8_163 hI hC (Nat.le_of_ble_eq_true rfl) hm dX8_takesFigure_21 (Nat.le_of_ble_eq_true rfl) (fun q2 hm => ?_)
    refine z_bipush hC dX8_takesFigure_24 kB_48 ?_
    refine z_isub hC dX8_takesFigure_26 ?_
    refine pM_X8_51_o hC hI (fun _ h => h) dX8_takesFigure_27 ?_
    refine zuM (u2 := (M_put_at_digits ((M_at u), (q2 - (48 : Int32))) u)) rfl ?_
    refine z_aload_n hC dX8_takesFigure_30 rfl 0 rfl ?_
    refine z_dup hC dX8_takesFigure_31 rfl ?_
    refine gM_X8_48_o (v := (M_at u)) hC dX8_takesFigure_32 rfl ?_
    refine z_iconst hC dX8_takesFigure_35 kI_1 ?_
    refine z_iadd hC dX8_takesFigure_36 ?_
    refine pM_X8_48_o hC hI (fun _ h => h) dX8_takesFigure_37 ?_
    refine zuM (u2 := (M_put_at_digits (((M_at u) + (1 : Int32)), (q2 - (48 : Int32))) u)) rfl ?_
    refine z_iconst hC dX8_takesFigure_40 kI_1 ?_
    exact riM (fin := fun z => M_put_at_digits z u) hC hr rfl dX8_takesFigure_41 hm rfl
theorem xM_X8_194 {p : Program} {l : Launch} {e : Env} {s : State} {m : MethodId} {args : Array Value} {below : List Frame} {meth : Method} {c : Code} {Q : State → Prop} {D : va_G} {A : Nat → Prop} {cc : ByteArray} {nL : Nat} {lv : List (Nat × Value)} {pc : Nat} {st : List Value} {cA : Nat → ClassId} {ad : Nat → Nat} {E : zEt} {d : Nat} {u : SM} (hI : zInj ad 23) (C : zC p s m args meth c cc nL RX8 zTS D (zTy cA) A E) (hdm : 0 + 1 ≤ d) {β : Type} {f : Int32 → Option β} {o : β} (hm : (mM_second u).bind f = some o) (hd : decode cc pc = .ok (.invokevirtual 194, 3)) (h8 : (st.map fun v => v.category).sum ≤ 8) (g : ∀ q, f q = some o → zG p l e (zRm d) s m args below meth c nL D A Q (wM cA ad u) lv (pc + 3) (.int q :: st)) : zG p l e (zRm d) s m args below meth c nL D A Q (wM cA ad u) lv pc (.ref (ad 0) :: st) := by
  obtain ⟨q, h1, h2⟩ := zb_some hm
  exact z_calliV C (cM_second hI  u h1) (cwX8_194 C.1.2.2.2.2 rfl rfl ⟨hdm, by have := hdm; simp only [zRm]; omega⟩) hd rfl rfl h8 ⟨_, rfl, rfl⟩ (List.mem_of_getElem? (heM_o cA ad u)) (fun _ h => h) (fun _ h => h.elim) zJ_ro (g q h2)
theorem gM_X8_60_o {p : Program} {l : Launch} {e : Env} {R : Room} {s : State} {m : MethodId} {args : Array Value} {below : List Frame} {meth : Method} {c : Code} {Q : State → Prop} {D : va_G} {A : Nat → Prop} {cc : ByteArray} {nL : Nat} {lv : List (Nat × Value)} {pc : Nat} {st : List Value} {cA : Nat → ClassId} {ad : Nat → Nat} {E : zEt} {u : SM} (C : zC p s m args meth c cc nL RX8 zTS D (zTy cA) A E) (hd : decode cc pc = .ok (.getfield 60, 3)) (g : zG p l e R s m args below meth c nL D A Q (wM cA ad u) lv (pc + 3) (.ref (ad 6) :: st)) : zG p l e R s m args below meth c nL D A Q (wM cA ad u) lv pc (.ref (ad 0) :: st) := by
  exact fun H locs ls hP hS hL => va_get (D := D) (ci := 8) (C := RX8) (T := TX8) (N := 45) C.1.1 C.1.2.1 C.1.2.2.2.2 inlX8 C.1.2.2.2.1 C.2.1 hP 0 (heM_o cA ad u) rfl 16 (by decide) (C.1.2.2.2.2 _ mfX8_60) (fun _ h9 => h9) (v := .ref (ad 6)) rfl hd (g H locs ls hP hS hL)
theorem sM_word {p : Program} {l : Launch} {e : Env} {R : Room} {s : State} {m : MethodId} {args : Array Value} {below : List Frame} {meth : Method} {c : Code} {Q : State → Prop} {D : va_G} {A : Nat → Prop} {cc : ByteArray} {nL : Nat} {lv : List (Nat × Value)} {pc : Nat} {st : List Value} {cA : Nat → ClassId} {ad : Nat → Nat} {E : zEt} {own : String} {u : SM} {i : Int32} {x : Int32} {β : Type} {k : Option β} {r : β} (C : zC p s m args meth c cc nL own zTS D (zTy cA) A E) (hI : zInj ad 23) (hA : ∀ q, zAd ad 23 q → A q) (hm : zgi i 50 k = some r) (hd : decode cc pc = .ok (.iastore, 1)) (g : k = some r → zG p l e R s m args below meth c nL D A Q (wM cA ad (M_set_word (upd (M_word u) i.toNatClampNeg x) u)) lv (pc + 1) st) : zG p l e R s m args below meth c nL D A Q (wM cA ad u) lv pc (.int x :: .int i :: .ref (ad 6) :: st) := fun H locs ls hP hS hL => va_iast C.1.1 C.1.2.1 C.2.1 hP (zD_mono (wM_D hI cA u) hA) hS 6 0 (heM_word cA ad u) rfl (zgi_some hm).1 hd (fun H1 locs1 hP1 _ hS1 => g (zgi_some hm).2 H1 locs1 ls hP1 hS1 hL)
def M_put_at_word (p : Int32 × (Nat → Int32)) (u : SM) : SM := (((u.1.1.1, (u.1.1.2.1, (u.1.1.2.2.1, (p.1, u.1.1.2.2.2.2)))), u.1.2), ((u.2.1.1, ((u.2.1.2.1.1, (p.2, u.2.1.2.1.2.2)), u.2.1.2.2)), u.2.2))
theorem xM_X8_197 {p : Program} {l : Launch} {e : Env} {s : State} {m : MethodId} {args : Array Value} {below : List Frame} {meth : Method} {c : Code} {Q : State → Prop} {D : va_G} {A : Nat → Prop} {cc : ByteArray} {nL : Nat} {lv : List (Nat × Value)} {pc : Nat} {st : List Value} {cA : Nat → ClassId} {ad : Nat → Nat} {E : zEt} {d : Nat} {x1 : Int32} {x2 : Int32} {u : SM} (hI : zInj ad 23) (C : zC p s m args meth c cc nL RX8 zTS D (zTy cA) A E) (hdm : 2 + 1 ≤ d) (hA : ∀ q, zAd ad 23 q → A q) {β : Type} {f : (Int32 × Int32) → Option β} {o : β} (hm : (mM_takesWord x1 x2 u).bind f = some o) (hd : decode cc pc = .ok (.invokevirtual 197, 3)) (h8 : (st.map fun v => v.category).sum ≤ 8) (g : ∀ q, f q = some o → zG p l e (zRm d) s m args below meth c nL D A Q (wM cA ad (M_put_at q.2 u)) lv (pc + 3) (.int q.1 :: st)) : zG p l e (zRm d) s m args below meth c nL D A Q (wM cA ad u) lv pc (.int x2 :: .int x1 :: .ref (ad 0) :: st) := by
  obtain ⟨q, h1, h2⟩ := zb_some hm
  exact z_calliV C (cM_takesWord hI x1 x2 u h1) (cwX8_197 C.1.2.2.2.2 rfl rfl ⟨hdm, by have := hdm; simp only [zRm]; omega⟩) hd rfl rfl h8 ⟨_, rfl, rfl⟩ (List.mem_of_getElem? (heM_o cA ad u)) (fun _ h => h) hA zJ_same (g q h2)
def mM_takesHead_J60 (x2 : Int32) (s1 : Int32) (s2 : Int32) (u : SM) : Option (Int32 × Int32 × (Nat → Int32)) :=
  zgi s1 50 (if x2 = (121 : Int32) then ((mM_takesWord (0 : Int32) (3 : Int32) (M_put_at_word ((M_at u), (upd (M_word u) (s1).toNatClampNeg s2)) u)).bind fun q3 => (zgb q3.1 (some (q3.1, (q3.2, (upd (M_word u) (s1).toNatClampNeg s2)))))) else ((mM_takesWord (3 : Int32) (3 : Int32) (M_put_at_word ((M_at u), (upd (M_word u) (s1).toNatClampNeg s2)) u)).bind fun q4 => (zgb q4.1 (some (q4.1, (q4.2, (upd (M_word u) (s1).toNatClampNeg s2)))))))
set_option maxRecDepth 100000 in
set_option maxHeartbeats 4000000 in
theorem jM_takesHead_60 {l : Launch} {D : va_G} {cA : Nat → ClassId} {ad : Nat → Nat} {p : Program} {e : Env} {s : State} {m : MethodId} {args : Array Value} {below : List Frame} {meth : Method} {c : Code} {E : zEt} {r : Int32} {w' : Int32 × (Nat → Int32)}  {x2 : Int32} {s1 : Int32} {s2 : Int32} {u : SM} (hI : zInj ad 23) (hC : zC p s m args meth c cX8_takesHead 3 RX8 zTS D (zTy cA) (zAd ad 23) E) (hr : meth.sig.returnType = (some .boolean)) (hm : mM_takesHead_J60 x2 s1 s2 u = some (r, w')) : zG p l e (zRm 3) s m args below meth c 3 D (zAd ad 23) (MQ below (zQi r (zBw D (wM cA ad (M_put_at_word w' u))) (zAd ad 23)) args s 0 0 (zAd ad 23)) (wM cA ad u) [(0, .ref (ad 0)), (2, .int x2)] 60 [.int s2, .int s1, .ref (ad 6)] := by
  unfold mM_takesHead_J60 at hm
  refine sM_word hC hI (fun _ h => h) hm dX8_takesHead_60 (fun hm => ?_)
  refine zuM (u2 := (M_put_at_word ((M_at u), (upd (M_word u) (s1).toNatClampNeg s2)) u)) rfl ?_
  refine z_iload_n hC dX8_takesHead_61 rfl 1 rfl ?_
  refine z_bipush hC dX8_takesHead_62 kB_121 ?_
  refine z_icmp_ne (tgt := 76) hC hm dX8_takesHead_64 (by decide) (fun hm => ?_) (fun hm => ?_)
  · refine z_aload_n hC dX8_takesHead_67 rfl 0 rfl ?_
    refine z_iconst hC dX8_takesHead_68 kI_0 ?_
    refine z_iconst hC dX8_takesHead_69 kI_3 ?_
    refine xM_X8_197 hI hC (Nat.le_of_ble_eq_true rfl) (fun _ h => h) hm dX8_takesHead_70 (Nat.le_of_ble_eq_true rfl) (fun q3 hm => ?_)
    refine zuM (u2 := (M_put_at_word (q3.2, (upd (M_word u) (s1).toNatClampNeg s2)) u)) rfl ?_
    refine z_goto (tgt := 82) hC dX8_takesHead_73 (by decide) ?_
    refine z_g (zgb_some hm) (fun hb hm => ?_)
    exact riM (fin := fun z => M_put_at_word z u) hC hr (zb_nar hb) dX8_takesHead_82 hm rfl
  · refine z_aload_n hC dX8_takesHead_76 rfl 0 rfl ?_
    refine z_iconst hC dX8_takesHead_77 kI_3 ?_
    refine z_iconst hC dX8_takesHead_78 kI_3 ?_
    refine xM_X8_197 hI hC (Nat.le_of_ble_eq_true rfl) (fun _ h => h) hm dX8_takesHead_79 (Nat.le_of_ble_eq_true rfl) (fun q4 hm => ?_)
    refine zuM (u2 := (M_put_at_word (q4.2, (upd (M_word u) (s1).toNatClampNeg s2)) u)) rfl ?_
    refine z_g (zgb_some hm) (fun hb hm => ?_)
    exact riM (fin := fun z => M_put_at_word z u) hC hr (zb_nar hb) dX8_takesHead_82 hm rfl
def mM_takesHead (x1 : Int32) (u : SM) : Option (Int32 × Int32 × (Nat → Int32)) :=
  (mM_second u).bind fun q1 => ((mM_next u).bind fun q2 => (if q2 = (101 : Int32) then (if q1 = (121 : Int32) then (mM_takesHead_J60 q1 x1 (1 : Int32) u) else (mM_takesHead_J60 q1 x1 (0 : Int32) u)) else (if q2 = (104 : Int32) then (zgi x1 50 ((mM_takesWord (10 : Int32) (5 : Int32) (M_put_at_word ((M_at u), (upd (M_word u) (x1).toNatClampNeg (3 : Int32))) u)).bind fun q5 => (zgb q5.1 (some (q5.1, (q5.2, (upd (M_word u) (x1).toNatClampNeg (3 : Int32)))))))) else (if q2 = (108 : Int32) then (zgi x1 50 ((mM_takesWord (6 : Int32) (4 : Int32) (M_put_at_word ((M_at u), (upd (M_word u) (x1).toNatClampNeg (2 : Int32))) u)).bind fun q6 => (zgb q6.1 (some (q6.1, (q6.2, (upd (M_word u) (x1).toNatClampNeg (2 : Int32)))))))) else (zgi x1 50 ((mM_takesWord (15 : Int32) (4 : Int32) (M_put_at_word ((M_at u), (upd (M_word u) (x1).toNatClampNeg (4 : Int32))) u)).bind fun q7 => (zgb q7.1 (some (q7.1, (q7.2, (upd (M_word u) (x1).toNatClampNeg (4 : Int32))))))))))))
set_option maxRecDepth 100000 in
set_option maxHeartbeats 4000000 in
theorem cM_takesHead {l : Launch} {D : va_G} {cA : Nat → ClassId} {ad : Nat → Nat} {E : zEt} (hI : zInj ad 23) (x1 : Int32) (u : SM) {r : Int32} {w' : Int32 × (Nat → Int32)} (hm : mM_takesHead x1 u = some (r, w')) : Met l yX8_takesHead (zWs yX8_takesHead cX8_takesHead 3 (some .boolean)) (zRm 3) (va_Pc [.ref (ad 0), .int x1] (zPre D (zTy cA) E (zAd ad 23) (wM cA ad u))) (zQi r (zBw D (wM cA ad (M_put_at_word w' u))) (zAd ad 23)) 0 0 (zAd ad 23) := by
  refine z_met (lv := [(0, .ref (ad 0)), (1, .int x1)]) plX8 rfl rfl (Nat.le_of_ble_eq_true rfl) rfl ?_
  intro p e s m below meth c hC hr hin
  unfold mM_takesHead at hm
  refine z_aload_n hC dX8_takesHead_0 rfl 0 rfl ?_
  refine xM_X8_194 hI hC (Nat.le_of_ble_eq_true rfl) hm dX8_takesHead_1 (Nat.le_of_ble_eq_true rfl) (fun q1 hm => ?_)
  refine z_istore_n (lv' := [(2, .int q1), (0, .ref (ad 0)), (1, .int x1)]) hC dX8_takesHead_4 rfl (by decide) rfl ?_
  refine z_aload_n hC dX8_takesHead_5 rfl 1 rfl ?_
  refine xM_X8_163 hI hC (Nat.le_of_ble_eq_true rfl) hm dX8_takesHead_6 (Nat.le_of_ble_eq_true rfl) (fun q2 hm => ?_)
  refine z_ite hm (fun h9_0 hm => ?_) (fun h9_0 hm => ?_)
  · refine z_lin hC dX8_takesHead_9 h9_0 kc_101 rfl (off := 35) rfl (tgt := 44) (by decide) ?_
    refine z_aload_n hC dX8_takesHead_44 rfl 1 rfl ?_
    refine gM_X8_60_o hC dX8_takesHead_45 ?_
    refine z_iload_n hC dX8_takesHead_48 rfl 2 rfl ?_
    refine z_iload_n hC dX8_takesHead_49 rfl 0 rfl ?_
    refine z_bipush hC dX8_takesHead_50 kB_121 ?_
    refine z_icmp_ne (tgt := 59) hC hm dX8_takesHead_52 (by decide) (fun hm => ?_) (fun hm => ?_)
    · refine z_iconst hC dX8_takesHead_55 kI_1 ?_
      refine z_goto (tgt := 60) hC dX8_takesHead_56 (by decide) ?_
      refine z_lv hC [1, 0] rfl ?_
      exact jM_takesHead_60 hI hC hr hm
    · refine z_iconst hC dX8_takesHead_59 kI_0 ?_
      refine z_lv hC [1, 0] rfl ?_
      exact jM_takesHead_60 hI hC hr hm
  · refine z_ite hm (fun h9_1 hm => ?_) (fun h9_1 hm => ?_)
    · refine z_lin hC dX8_takesHead_9 h9_1 kc_104 rfl (off := 89) rfl (tgt := 98) (by decide) ?_
      refine z_aload_n hC dX8_takesHead_98 rfl 1 rfl ?_
      refine gM_X8_60_o hC dX8_takesHead_99 ?_
      refine z_iload_n hC dX8_takesHead_102 rfl 2 rfl ?_
      refine z_iconst hC dX8_takesHead_103 kI_3 ?_
      refine sM_word hC hI (fun _ h => h) hm dX8_takesHead_104 (fun hm => ?_)
      refine zuM (u2 := (M_put_at_word ((M_at u), (upd (M_word u) (x1).toNatClampNeg (3 : Int32))) u)) rfl ?_
      refine z_aload_n hC dX8_takesHead_105 rfl 1 rfl ?_
      refine z_bipush hC dX8_takesHead_106 kB_10 ?_
      refine z_iconst hC dX8_takesHead_108 kI_5 ?_
      refine xM_X8_197 hI hC (Nat.le_of_ble_eq_true rfl) (fun _ h => h) hm dX8_takesHead_109 (Nat.le_of_ble_eq_true rfl) (fun q5 hm => ?_)
      refine zuM (u2 := (M_put_at_word (q5.2, (upd (M_word u) (x1).toNatClampNeg (3 : Int32))) u)) rfl ?_
      refine z_g (zgb_some hm) (fun hb hm => ?_)
      exact riM (fin := fun z => M_put_at_word z u) hC hr (zb_nar hb) dX8_takesHead_112 hm rfl
    · refine z_ite hm (fun h9_2 hm => ?_) (fun h9_2 hm => ?_)
      · refine z_lin hC dX8_takesHead_9 h9_2 kc_108 rfl (off := 74) rfl (tgt := 83) (by decide) ?_
        refine z_aload_n hC dX8_takesHead_83 rfl 1 rfl ?_
        refine gM_X8_60_o hC dX8_takesHead_84 ?_
        refine z_iload_n hC dX8_takesHead_87 rfl 2 rfl ?_
        refine z_iconst hC dX8_takesHead_88 kI_2 ?_
        refine sM_word hC hI (fun _ h => h) hm dX8_takesHead_89 (fun hm => ?_)
        refine zuM (u2 := (M_put_at_word ((M_at u), (upd (M_word u) (x1).toNatClampNeg (2 : Int32))) u)) rfl ?_
        refine z_aload_n hC dX8_takesHead_90 rfl 1 rfl ?_
        refine z_bipush hC dX8_takesHead_91 kB_6 ?_
        refine z_iconst hC dX8_takesHead_93 kI_4 ?_
        refine xM_X8_197 hI hC (Nat.le_of_ble_eq_true rfl) (fun _ h => h) hm dX8_takesHead_94 (Nat.le_of_ble_eq_true rfl) (fun q6 hm => ?_)
        refine zuM (u2 := (M_put_at_word (q6.2, (upd (M_word u) (x1).toNatClampNeg (2 : Int32))) u)) rfl ?_
        refine z_g (zgb_some hm) (fun hb hm => ?_)
        exact riM (fin := fun z => M_put_at_word z u) hC hr (zb_nar hb) dX8_takesHead_97 hm rfl
      · refine z_lookup (off := 104) (tgt := 113) hC dX8_takesHead_9 rfl ((lv_osw h9_0 kc_101).trans ((lv_osw h9_1 kc_104).trans ((lv_osw h9_2 kc_108).trans rfl))) (by decide) ?_
        refine z_aload_n hC dX8_takesHead_113 rfl 1 rfl ?_
        refine gM_X8_60_o hC dX8_takesHead_114 ?_
        refine z_iload_n hC dX8_takesHead_117 rfl 2 rfl ?_
        refine z_iconst hC dX8_takesHead_118 kI_4 ?_
        refine sM_word hC hI (fun _ h => h) hm dX8_takesHead_119 (fun hm => ?_)
        refine zuM (u2 := (M_put_at_word ((M_at u), (upd (M_word u) (x1).toNatClampNeg (4 : Int32))) u)) rfl ?_
        refine z_aload_n hC dX8_takesHead_120 rfl 1 rfl ?_
        refine z_bipush hC dX8_takesHead_121 kB_15 ?_
        refine z_iconst hC dX8_takesHead_123 kI_4 ?_
        refine xM_X8_197 hI hC (Nat.le_of_ble_eq_true rfl) (fun _ h => h) hm dX8_takesHead_124 (Nat.le_of_ble_eq_true rfl) (fun q7 hm => ?_)
        refine zuM (u2 := (M_put_at_word (q7.2, (upd (M_word u) (x1).toNatClampNeg (4 : Int32))) u)) rfl ?_
        refine z_g (zgb_some hm) (fun hb hm => ?_)
        exact riM (fin := fun z => M_put_at_word z u) hC hr (zb_nar hb) dX8_takesHead_127 hm rfl
theorem xM_X8_201 {p : Program} {l : Launch} {e : Env} {s : State} {m : MethodId} {args : Array Value} {below : List Frame} {meth : Method} {c : Code} {Q : State → Prop} {D : va_G} {A : Nat → Prop} {cc : ByteArray} {nL : Nat} {lv : List (Nat × Value)} {pc : Nat} {st : List Value} {cA : Nat → ClassId} {ad : Nat → Nat} {E : zEt} {d : Nat} {x1 : Int32} {u : SM} (hI : zInj ad 23) (C : zC p s m args meth c cc nL RX8 zTS D (zTy cA) A E) (hdm : 3 + 1 ≤ d) (hA : ∀ q, zAd ad 23 q → A q) {β : Type} {f : (Int32 × Int32 × (Nat → Int32)) → Option β} {o : β} (hm : (mM_takesHead x1 u).bind f = some o) (hd : decode cc pc = .ok (.invokevirtual 201, 3)) (h8 : (st.map fun v => v.category).sum ≤ 8) (g : ∀ q, f q = some o → zG p l e (zRm d) s m args below meth c nL D A Q (wM cA ad (M_put_at_word q.2 u)) lv (pc + 3) (.int q.1 :: st)) : zG p l e (zRm d) s m args below meth c nL D A Q (wM cA ad u) lv pc (.int x1 :: .ref (ad 0) :: st) := by
  obtain ⟨q, h1, h2⟩ := zb_some hm
  exact z_calliV C (cM_takesHead hI x1 u h1) (cwX8_201 C.1.2.2.2.2 rfl rfl ⟨hdm, by have := hdm; simp only [zRm]; omega⟩) hd rfl rfl h8 ⟨_, rfl, rfl⟩ (List.mem_of_getElem? (heM_o cA ad u)) (fun _ h => h) hA zJ_same (g q h2)
def M_putm_takesClause (p : Int32 × Int32 × Int32 × Int32 × Int32 × (Nat → Int32) × (Nat → Int32) × (Nat → Int32) × (Nat → Int32) × (Nat → Int32) × (Nat → Int32) × (Nat → Int32)) (u : SM) : SM := (((u.1.1.1, (u.1.1.2.1, (u.1.1.2.2.1, (p.1, p.2.1)))), (((p.2.2.1, p.2.2.2.1), (p.2.2.2.2.1, u.1.2.1.2.2)), u.1.2.2)), ((u.2.1.1, ((u.2.1.2.1.1, (p.2.2.2.2.2.1, p.2.2.2.2.2.2.1)), (p.2.2.2.2.2.2.2.1, (p.2.2.2.2.2.2.2.2.1, p.2.2.2.2.2.2.2.2.2.1)))), (((p.2.2.2.2.2.2.2.2.2.2.1, (p.2.2.2.2.2.2.2.2.2.2.2, u.2.2.1.1.2.2)), u.2.2.1.2), u.2.2.2)))
theorem gM_X8_63_o {p : Program} {l : Launch} {e : Env} {R : Room} {s : State} {m : MethodId} {args : Array Value} {below : List Frame} {meth : Method} {c : Code} {Q : State → Prop} {D : va_G} {A : Nat → Prop} {cc : ByteArray} {nL : Nat} {lv : List (Nat × Value)} {pc : Nat} {st : List Value} {cA : Nat → ClassId} {ad : Nat → Nat} {E : zEt} {u : SM} (C : zC p s m args meth c cc nL RX8 zTS D (zTy cA) A E) (hd : decode cc pc = .ok (.getfield 63, 3)) (g : zG p l e R s m args below meth c nL D A Q (wM cA ad u) lv (pc + 3) (.ref (ad 7) :: st)) : zG p l e R s m args below meth c nL D A Q (wM cA ad u) lv pc (.ref (ad 0) :: st) := by
  exact fun H locs ls hP hS hL => va_get (D := D) (ci := 8) (C := RX8) (T := TX8) (N := 45) C.1.1 C.1.2.1 C.1.2.2.2.2 inlX8 C.1.2.2.2.1 C.2.1 hP 0 (heM_o cA ad u) rfl 17 (by decide) (C.1.2.2.2.2 _ mfX8_63) (fun _ h9 => h9) (v := .ref (ad 7)) rfl hd (g H locs ls hP hS hL)
theorem sM_spot {p : Program} {l : Launch} {e : Env} {R : Room} {s : State} {m : MethodId} {args : Array Value} {below : List Frame} {meth : Method} {c : Code} {Q : State → Prop} {D : va_G} {A : Nat → Prop} {cc : ByteArray} {nL : Nat} {lv : List (Nat × Value)} {pc : Nat} {st : List Value} {cA : Nat → ClassId} {ad : Nat → Nat} {E : zEt} {own : String} {u : SM} {i : Int32} {x : Int32} {β : Type} {k : Option β} {r : β} (C : zC p s m args meth c cc nL own zTS D (zTy cA) A E) (hI : zInj ad 23) (hA : ∀ q, zAd ad 23 q → A q) (hm : zgi i 50 k = some r) (hd : decode cc pc = .ok (.iastore, 1)) (g : k = some r → zG p l e R s m args below meth c nL D A Q (wM cA ad (M_set_spot (upd (M_spot u) i.toNatClampNeg x) u)) lv (pc + 1) st) : zG p l e R s m args below meth c nL D A Q (wM cA ad u) lv pc (.int x :: .int i :: .ref (ad 7) :: st) := fun H locs ls hP hS hL => va_iast C.1.1 C.1.2.1 C.2.1 hP (zD_mono (wM_D hI cA u) hA) hS 7 0 (heM_spot cA ad u) rfl (zgi_some hm).1 hd (fun H1 locs1 hP1 _ hS1 => g (zgi_some hm).2 H1 locs1 ls hP1 hS1 hL)
theorem aM_word {p : Program} {l : Launch} {e : Env} {R : Room} {s : State} {m : MethodId} {args : Array Value} {below : List Frame} {meth : Method} {c : Code} {Q : State → Prop} {D : va_G} {A : Nat → Prop} {cc : ByteArray} {nL : Nat} {lv : List (Nat × Value)} {pc : Nat} {st : List Value} {cA : Nat → ClassId} {ad : Nat → Nat} {E : zEt} {own : String} {u : SM} {i : Int32} {β : Type} {k : Option β} {r : β} (C : zC p s m args meth c cc nL own zTS D (zTy cA) A E) (hm : zgi i 50 k = some r) (hd : decode cc pc = .ok (.iaload, 1)) (g : k = some r → zG p l e R s m args below meth c nL D A Q (wM cA ad u) lv (pc + 1) (.int (M_word u i.toNatClampNeg) :: st)) : zG p l e R s m args below meth c nL D A Q (wM cA ad u) lv pc (.int i :: .ref (ad 6) :: st) := fun H locs ls hP hS hL => va_iald C.1.1 C.1.2.1 C.2.1 hP 6 0 (heM_word cA ad u) rfl (zgi_some hm).1 hd (g (zgi_some hm).2 H locs ls hP hS hL)
theorem gM_X8_66_o {p : Program} {l : Launch} {e : Env} {R : Room} {s : State} {m : MethodId} {args : Array Value} {below : List Frame} {meth : Method} {c : Code} {Q : State → Prop} {D : va_G} {A : Nat → Prop} {cc : ByteArray} {nL : Nat} {lv : List (Nat × Value)} {pc : Nat} {st : List Value} {cA : Nat → ClassId} {ad : Nat → Nat} {E : zEt} {u : SM} (C : zC p s m args meth c cc nL RX8 zTS D (zTy cA) A E) (hd : decode cc pc = .ok (.getfield 66, 3)) (g : zG p l e R s m args below meth c nL D A Q (wM cA ad u) lv (pc + 3) (.ref (ad 8) :: st)) : zG p l e R s m args below meth c nL D A Q (wM cA ad u) lv pc (.ref (ad 0) :: st) := by
  exact fun H locs ls hP hS hL => va_get (D := D) (ci := 8) (C := RX8) (T := TX8) (N := 45) C.1.1 C.1.2.1 C.1.2.2.2.2 inlX8 C.1.2.2.2.1 C.2.1 hP 0 (heM_o cA ad u) rfl 18 (by decide) (C.1.2.2.2.2 _ mfX8_66) (fun _ h9 => h9) (v := .ref (ad 8)) rfl hd (g H locs ls hP hS hL)
theorem sM_number {p : Program} {l : Launch} {e : Env} {R : Room} {s : State} {m : MethodId} {args : Array Value} {below : List Frame} {meth : Method} {c : Code} {Q : State → Prop} {D : va_G} {A : Nat → Prop} {cc : ByteArray} {nL : Nat} {lv : List (Nat × Value)} {pc : Nat} {st : List Value} {cA : Nat → ClassId} {ad : Nat → Nat} {E : zEt} {own : String} {u : SM} {i : Int32} {x : Int32} {β : Type} {k : Option β} {r : β} (C : zC p s m args meth c cc nL own zTS D (zTy cA) A E) (hI : zInj ad 23) (hA : ∀ q, zAd ad 23 q → A q) (hm : zgi i 50 k = some r) (hd : decode cc pc = .ok (.iastore, 1)) (g : k = some r → zG p l e R s m args below meth c nL D A Q (wM cA ad (M_set_number (upd (M_number u) i.toNatClampNeg x) u)) lv (pc + 1) st) : zG p l e R s m args below meth c nL D A Q (wM cA ad u) lv pc (.int x :: .int i :: .ref (ad 8) :: st) := fun H locs ls hP hS hL => va_iast C.1.1 C.1.2.1 C.2.1 hP (zD_mono (wM_D hI cA u) hA) hS 8 0 (heM_number cA ad u) rfl (zgi_some hm).1 hd (fun H1 locs1 hP1 _ hS1 => g (zgi_some hm).2 H1 locs1 ls hP1 hS1 hL)
theorem xM_X8_207 {p : Program} {l : Launch} {e : Env} {s : State} {m : MethodId} {args : Array Value} {below : List Frame} {meth : Method} {c : Code} {Q : State → Prop} {D : va_G} {A : Nat → Prop} {cc : ByteArray} {nL : Nat} {lv : List (Nat × Value)} {pc : Nat} {st : List Value} {cA : Nat → ClassId} {ad : Nat → Nat} {E : zEt} {d : Nat} {x1 : Int32} {u : SM} (hI : zInj ad 23) (C : zC p s m args meth c cc nL RX8 zTS D (zTy cA) A E) (hdm : 4 + 1 ≤ d) (hA : ∀ q, zAd ad 23 q → A q) {β : Type} {f : (Int32 × Int32 × Int32 × Int32 × Int32 × Int32 × (Nat → Int32) × (Nat → Int32) × (Nat → Int32) × (Nat → Int32)) → Option β} {o : β} (hm : (mM_takesE x1 u).bind f = some o) (hd : decode cc pc = .ok (.invokevirtual 207, 3)) (h8 : (st.map fun v => v.category).sum ≤ 8) (g : ∀ q, f q = some o → zG p l e (zRm d) s m args below meth c nL D A Q (wM cA ad (M_put_at_digits_signs_waiting_open_from_to_sign_waits q.2 u)) lv (pc + 3) (.int q.1 :: st)) : zG p l e (zRm d) s m args below meth c nL D A Q (wM cA ad u) lv pc (.int x1 :: .ref (ad 0) :: st) := by
  obtain ⟨q, h1, h2⟩ := zb_some hm
  exact z_calliV C (cM_takesE hI x1 u h1) (cwX8_207 C.1.2.2.2.2 rfl rfl ⟨hdm, by have := hdm; simp only [zRm]; omega⟩) hd rfl rfl h8 ⟨_, rfl, rfl⟩ (List.mem_of_getElem? (heM_o cA ad u)) (fun _ h => h) hA zJ_same (g q h2)
theorem xM_X8_204 {p : Program} {l : Launch} {e : Env} {s : State} {m : MethodId} {args : Array Value} {below : List Frame} {meth : Method} {c : Code} {Q : State → Prop} {D : va_G} {A : Nat → Prop} {cc : ByteArray} {nL : Nat} {lv : List (Nat × Value)} {pc : Nat} {st : List Value} {cA : Nat → ClassId} {ad : Nat → Nat} {E : zEt} {d : Nat} {x1 : Int32} {u : SM} (hI : zInj ad 23) (C : zC p s m args meth c cc nL RX8 zTS D (zTy cA) A E) (hdm : 1 + 1 ≤ d) (hA : ∀ q, zAd ad 23 q → A q) {β : Type} {f : (Int32 × Int32 × Int32) → Option β} {o : β} (hm : (mM_takesFigure x1 u).bind f = some o) (hd : decode cc pc = .ok (.invokevirtual 204, 3)) (h8 : (st.map fun v => v.category).sum ≤ 8) (g : ∀ q, f q = some o → zG p l e (zRm d) s m args below meth c nL D A Q (wM cA ad (M_put_at_digits q.2 u)) lv (pc + 3) (.int q.1 :: st)) : zG p l e (zRm d) s m args below meth c nL D A Q (wM cA ad u) lv pc (.int x1 :: .ref (ad 0) :: st) := by
  obtain ⟨q, h1, h2⟩ := zb_some hm
  exact z_calliV C (cM_takesFigure hI x1 u h1) (cwX8_204 C.1.2.2.2.2 rfl rfl ⟨hdm, by have := hdm; simp only [zRm]; omega⟩) hd rfl rfl h8 ⟨_, rfl, rfl⟩ (List.mem_of_getElem? (heM_o cA ad u)) (fun _ h => h) hA zJ_same (g q h2)
theorem aM_spot {p : Program} {l : Launch} {e : Env} {R : Room} {s : State} {m : MethodId} {args : Array Value} {below : List Frame} {meth : Method} {c : Code} {Q : State → Prop} {D : va_G} {A : Nat → Prop} {cc : ByteArray} {nL : Nat} {lv : List (Nat × Value)} {pc : Nat} {st : List Value} {cA : Nat → ClassId} {ad : Nat → Nat} {E : zEt} {own : String} {u : SM} {i : Int32} {β : Type} {k : Option β} {r : β} (C : zC p s m args meth c cc nL own zTS D (zTy cA) A E) (hm : zgi i 50 k = some r) (hd : decode cc pc = .ok (.iaload, 1)) (g : k = some r → zG p l e R s m args below meth c nL D A Q (wM cA ad u) lv (pc + 1) (.int (M_spot u i.toNatClampNeg) :: st)) : zG p l e R s m args below meth c nL D A Q (wM cA ad u) lv pc (.int i :: .ref (ad 7) :: st) := fun H locs ls hP hS hL => va_iald C.1.1 C.1.2.1 C.2.1 hP 7 0 (heM_spot cA ad u) rfl (zgi_some hm).1 hd (g (zgi_some hm).2 H locs ls hP hS hL)
def mM_takesClause_J106 (x1 : Int32) (u : SM) : Option (Int32 × Int32 × Int32 × Int32 × Int32 × Int32 × (Nat → Int32) × (Nat → Int32) × (Nat → Int32) × (Nat → Int32) × (Nat → Int32) × (Nat → Int32) × (Nat → Int32)) :=
  (mM_takesFigure (9 : Int32) u).bind fun q9 => (if q9.1 = 0 then (some ((0 : Int32), (q9.2.1, q9.2.2, (M_signs u), (M_waiting u), (M_open u), (M_word u), (M_spot u), (M_number u), (M_from u), (M_to u), (M_sign u), (M_waits u)))) else (zgi x1 50 (some ((1 : Int32), (q9.2.1, q9.2.2, (M_signs u), (M_waiting u), (M_open u), (M_word u), (M_spot u), (upd (M_number u) (x1).toNatClampNeg q9.2.2), (M_from u), (M_to u), (M_sign u), (M_waits u))))))
set_option maxRecDepth 100000 in
set_option maxHeartbeats 4000000 in
theorem jM_takesClause_106 {l : Launch} {D : va_G} {cA : Nat → ClassId} {ad : Nat → Nat} {p : Program} {e : Env} {s : State} {m : MethodId} {args : Array Value} {below : List Frame} {meth : Method} {c : Code} {E : zEt} {r : Int32} {w' : Int32 × Int32 × Int32 × Int32 × Int32 × (Nat → Int32) × (Nat → Int32) × (Nat → Int32) × (Nat → Int32) × (Nat → Int32) × (Nat → Int32) × (Nat → Int32)}  {x1 : Int32} {u : SM} (hI : zInj ad 23) (hC : zC p s m args meth c cX8_takesClause 2 RX8 zTS D (zTy cA) (zAd ad 23) E) (hr : meth.sig.returnType = (some .boolean)) (hm : mM_takesClause_J106 x1 u = some (r, w')) : zG p l e (zRm 5) s m args below meth c 2 D (zAd ad 23) (MQ below (zQi r (zBw D (wM cA ad (M_putm_takesClause w' u))) (zAd ad 23)) args s 0 0 (zAd ad 23)) (wM cA ad u) [(0, .ref (ad 0)), (1, .int x1)] 106 [] := by
  unfold mM_takesClause_J106 at hm
  refine z_aload_n hC dX8_takesClause_106 rfl 0 rfl ?_
  refine z_bipush hC dX8_takesClause_107 kB_9 ?_
  refine xM_X8_204 hI hC (Nat.le_of_ble_eq_true rfl) (fun _ h => h) hm dX8_takesClause_109 (Nat.le_of_ble_eq_true rfl) (fun q9 hm => ?_)
  refine zuM (u2 := (M_putm_takesClause (q9.2.1, q9.2.2, (M_signs u), (M_waiting u), (M_open u), (M_word u), (M_spot u), (M_number u), (M_from u), (M_to u), (M_sign u), (M_waits u)) u)) rfl ?_
  refine z_if_ne (tgt := 117) hC hm dX8_takesClause_112 (by decide) (fun hm => ?_) (fun hm => ?_)
  · refine z_iconst hC dX8_takesClause_115 kI_0 ?_
    exact riM (fin := fun z => M_putm_takesClause z u) hC hr rfl dX8_takesClause_116 hm rfl
  · refine z_aload_n hC dX8_takesClause_117 rfl 0 rfl ?_
    refine gM_X8_66_o hC dX8_takesClause_118 ?_
    refine z_iload_n hC dX8_takesClause_121 rfl 1 rfl ?_
    refine z_aload_n hC dX8_takesClause_122 rfl 0 rfl ?_
    refine gM_X8_51_o (v := q9.2.2) hC dX8_takesClause_123 rfl ?_
    refine sM_number hC hI (fun _ h => h) hm dX8_takesClause_126 (fun hm => ?_)
    refine zuM (u2 := (M_putm_takesClause (q9.2.1, q9.2.2, (M_signs u), (M_waiting u), (M_open u), (M_word u), (M_spot u), (upd (M_number u) (x1).toNatClampNeg q9.2.2), (M_from u), (M_to u), (M_sign u), (M_waits u)) u)) rfl ?_
    refine z_iconst hC dX8_takesClause_127 kI_1 ?_
    exact riM (fin := fun z => M_putm_takesClause z u) hC hr rfl dX8_takesClause_128 hm rfl
def mM_takesClause (x1 : Int32) (u : SM) : Option (Int32 × Int32 × Int32 × Int32 × Int32 × Int32 × (Nat → Int32) × (Nat → Int32) × (Nat → Int32) × (Nat → Int32) × (Nat → Int32) × (Nat → Int32) × (Nat → Int32)) :=
  (mM_takesHead x1 u).bind fun q1 => (if q1.1 = 0 then (some ((0 : Int32), (q1.2.1, (M_digits u), (M_signs u), (M_waiting u), (M_open u), q1.2.2, (M_spot u), (M_number u), (M_from u), (M_to u), (M_sign u), (M_waits u)))) else (zgi x1 50 (zgi x1 50 (if (q1.2.2 (x1).toNatClampNeg) < (3 : Int32) then ((mM_takesNumber (M_putm_takesClause (q1.2.1, (M_digits u), (M_signs u), (M_waiting u), (M_open u), q1.2.2, (upd (M_spot u) (x1).toNatClampNeg (0 : Int32)), (M_number u), (M_from u), (M_to u), (M_sign u), (M_waits u)) u)).bind fun q2 => (if q2.1 = 0 then (some ((0 : Int32), (q2.2.1, q2.2.2, (M_signs u), (M_waiting u), (M_open u), q1.2.2, (upd (M_spot u) (x1).toNatClampNeg (0 : Int32)), (M_number u), (M_from u), (M_to u), (M_sign u), (M_waits u)))) else (zgi x1 50 (zgi x1 50 (if (q1.2.2 (x1).toNatClampNeg) = (2 : Int32) then (some ((1 : Int32), (q2.2.1, q2.2.2, (M_signs u), (M_waiting u), (M_open u), q1.2.2, (upd (M_spot u) (x1).toNatClampNeg (0 : Int32)), (upd (M_number u) (x1).toNatClampNeg q2.2.2), (M_from u), (M_to u), (M_sign u), (M_waits u)))) else ((mM_takesSign (32 : Int32) (M_putm_takesClause (q2.2.1, q2.2.2, (M_signs u), (M_waiting u), (M_open u), q1.2.2, (upd (M_spot u) (x1).toNatClampNeg (0 : Int32)), (upd (M_number u) (x1).toNatClampNeg q2.2.2), (M_from u), (M_to u), (M_sign u), (M_waits u)) u)).bind fun q3 => (if q3.1 = 0 then (some ((0 : Int32), (q3.2, q2.2.2, (M_signs u), (M_waiting u), (M_open u), q1.2.2, (upd (M_spot u) (x1).toNatClampNeg (0 : Int32)), (upd (M_number u) (x1).toNatClampNeg q2.2.2), (M_from u), (M_to u), (M_sign u), (M_waits u)))) else ((mM_takesE x1 (M_putm_takesClause (q3.2, q2.2.2, (M_signs u), (M_waiting u), (M_open u), q1.2.2, (upd (M_spot u) (x1).toNatClampNeg (0 : Int32)), (upd (M_number u) (x1).toNatClampNeg q2.2.2), (M_from u), (M_to u), (M_sign u), (M_waits u)) u)).bind fun q4 => (if q4.1 = 0 then (some ((0 : Int32), (q4.2.1, q4.2.2.1, q4.2.2.2.1, q4.2.2.2.2.1, q4.2.2.2.2.2.1, q1.2.2, (upd (M_spot u) (x1).toNatClampNeg (0 : Int32)), (upd (M_number u) (x1).toNatClampNeg q2.2.2), q4.2.2.2.2.2.2.1, q4.2.2.2.2.2.2.2.1, q4.2.2.2.2.2.2.2.2.1, q4.2.2.2.2.2.2.2.2.2))) else (some ((1 : Int32), (q4.2.1, q4.2.2.1, q4.2.2.2.1, q4.2.2.2.2.1, q4.2.2.2.2.2.1, q1.2.2, (upd (M_spot u) (x1).toNatClampNeg (0 : Int32)), (upd (M_number u) (x1).toNatClampNeg q2.2.2), q4.2.2.2.2.2.2.1, q4.2.2.2.2.2.2.2.1, q4.2.2.2.2.2.2.2.2.1, q4.2.2.2.2.2.2.2.2.2)))))))))))) else ((mM_takesFigure (9 : Int32) (M_putm_takesClause (q1.2.1, (M_digits u), (M_signs u), (M_waiting u), (M_open u), q1.2.2, (upd (M_spot u) (x1).toNatClampNeg (0 : Int32)), (M_number u), (M_from u), (M_to u), (M_sign u), (M_waits u)) u)).bind fun q5 => (if q5.1 = 0 then (some ((0 : Int32), (q5.2.1, q5.2.2, (M_signs u), (M_waiting u), (M_open u), q1.2.2, (upd (M_spot u) (x1).toNatClampNeg (0 : Int32)), (M_number u), (M_from u), (M_to u), (M_sign u), (M_waits u)))) else (zgi x1 50 ((mM_takesSign (32 : Int32) (M_putm_takesClause (q5.2.1, q5.2.2, (M_signs u), (M_waiting u), (M_open u), q1.2.2, (upd (upd (M_spot u) (x1).toNatClampNeg (0 : Int32)) (x1).toNatClampNeg ((16 : Int32) * q5.2.2)), (M_number u), (M_from u), (M_to u), (M_sign u), (M_waits u)) u)).bind fun q6 => (if q6.1 = 0 then (some ((0 : Int32), (q6.2, q5.2.2, (M_signs u), (M_waiting u), (M_open u), q1.2.2, (upd (upd (M_spot u) (x1).toNatClampNeg (0 : Int32)) (x1).toNatClampNeg ((16 : Int32) * q5.2.2)), (M_number u), (M_from u), (M_to u), (M_sign u), (M_waits u)))) else (zgi x1 50 (if (q1.2.2 (x1).toNatClampNeg) = (3 : Int32) then ((mM_takesFigure (1 : Int32) (M_putm_takesClause (q6.2, q5.2.2, (M_signs u), (M_waiting u), (M_open u), q1.2.2, (upd (upd (M_spot u) (x1).toNatClampNeg (0 : Int32)) (x1).toNatClampNeg ((16 : Int32) * q5.2.2)), (M_number u), (M_from u), (M_to u), (M_sign u), (M_waits u)) u)).bind fun q7 => (if q7.1 = 0 then (some ((0 : Int32), (q7.2.1, q7.2.2, (M_signs u), (M_waiting u), (M_open u), q1.2.2, (upd (upd (M_spot u) (x1).toNatClampNeg (0 : Int32)) (x1).toNatClampNeg ((16 : Int32) * q5.2.2)), (M_number u), (M_from u), (M_to u), (M_sign u), (M_waits u)))) else (zgi x1 50 (zgi x1 50 ((mM_takesSign (32 : Int32) (M_putm_takesClause (q7.2.1, q7.2.2, (M_signs u), (M_waiting u), (M_open u), q1.2.2, (upd (upd (upd (M_spot u) (x1).toNatClampNeg (0 : Int32)) (x1).toNatClampNeg ((16 : Int32) * q5.2.2)) (x1).toNatClampNeg (((upd (upd (M_spot u) (x1).toNatClampNeg (0 : Int32)) (x1).toNatClampNeg ((16 : Int32) * q5.2.2)) (x1).toNatClampNeg) + q7.2.2)), (M_number u), (M_from u), (M_to u), (M_sign u), (M_waits u)) u)).bind fun q8 => (if q8.1 = 0 then (some ((0 : Int32), (q8.2, q7.2.2, (M_signs u), (M_waiting u), (M_open u), q1.2.2, (upd (upd (upd (M_spot u) (x1).toNatClampNeg (0 : Int32)) (x1).toNatClampNeg ((16 : Int32) * q5.2.2)) (x1).toNatClampNeg (((upd (upd (M_spot u) (x1).toNatClampNeg (0 : Int32)) (x1).toNatClampNeg ((16 : Int32) * q5.2.2)) (x1).toNatClampNeg) + q7.2.2)), (M_number u), (M_from u), (M_to u), (M_sign u), (M_waits u)))) else (mM_takesClause_J106 x1 (M_putm_takesClause (q8.2, q7.2.2, (M_signs u), (M_waiting u), (M_open u), q1.2.2, (upd (upd (upd (M_spot u) (x1).toNatClampNeg (0 : Int32)) (x1).toNatClampNeg ((16 : Int32) * q5.2.2)) (x1).toNatClampNeg (((upd (upd (M_spot u) (x1).toNatClampNeg (0 : Int32)) (x1).toNatClampNeg ((16 : Int32) * q5.2.2)) (x1).toNatClampNeg) + q7.2.2)), (M_number u), (M_from u), (M_to u), (M_sign u), (M_waits u)) u)))))))) else (mM_takesClause_J106 x1 (M_putm_takesClause (q6.2, q5.2.2, (M_signs u), (M_waiting u), (M_open u), q1.2.2, (upd (upd (M_spot u) (x1).toNatClampNeg (0 : Int32)) (x1).toNatClampNeg ((16 : Int32) * q5.2.2)), (M_number u), (M_from u), (M_to u), (M_sign u), (M_waits u)) u)))))))))))))
set_option maxRecDepth 100000 in
set_option maxHeartbeats 4000000 in
theorem cM_takesClause {l : Launch} {D : va_G} {cA : Nat → ClassId} {ad : Nat → Nat} {E : zEt} (hI : zInj ad 23) (x1 : Int32) (u : SM) {r : Int32} {w' : Int32 × Int32 × Int32 × Int32 × Int32 × (Nat → Int32) × (Nat → Int32) × (Nat → Int32) × (Nat → Int32) × (Nat → Int32) × (Nat → Int32) × (Nat → Int32)} (hm : mM_takesClause x1 u = some (r, w')) : Met l yX8_takesClause (zWs yX8_takesClause cX8_takesClause 2 (some .boolean)) (zRm 5) (va_Pc [.ref (ad 0), .int x1] (zPre D (zTy cA) E (zAd ad 23) (wM cA ad u))) (zQi r (zBw D (wM cA ad (M_putm_takesClause w' u))) (zAd ad 23)) 0 0 (zAd ad 23) := by
  refine z_met (lv := [(0, .ref (ad 0)), (1, .int x1)]) plX8 rfl rfl (Nat.le_of_ble_eq_true rfl) rfl ?_
  intro p e s m below meth c hC hr hin
  unfold mM_takesClause at hm
  refine z_aload_n hC dX8_takesClause_0 rfl 0 rfl ?_
  refine z_iload_n hC dX8_takesClause_1 rfl 1 rfl ?_
  refine xM_X8_201 hI hC (Nat.le_of_ble_eq_true rfl) (fun _ h => h) hm dX8_takesClause_2 (Nat.le_of_ble_eq_true rfl) (fun q1 hm => ?_)
  refine zuM (u2 := (M_putm_takesClause (q1.2.1, (M_digits u), (M_signs u), (M_waiting u), (M_open u), q1.2.2, (M_spot u), (M_number u), (M_from u), (M_to u), (M_sign u), (M_waits u)) u)) rfl ?_
  refine z_if_ne (tgt := 10) hC hm dX8_takesClause_5 (by decide) (fun hm => ?_) (fun hm => ?_)
  · refine z_iconst hC dX8_takesClause_8 kI_0 ?_
    exact riM (fin := fun z => M_putm_takesClause z u) hC hr rfl dX8_takesClause_9 hm rfl
  · refine z_aload_n hC dX8_takesClause_10 rfl 0 rfl ?_
    refine gM_X8_63_o hC dX8_takesClause_11 ?_
    refine z_iload_n hC dX8_takesClause_14 rfl 1 rfl ?_
    refine z_iconst hC dX8_takesClause_15 kI_0 ?_
    refine sM_spot hC hI (fun _ h => h) hm dX8_takesClause_16 (fun hm => ?_)
    refine zuM (u2 := (M_putm_takesClause (q1.2.1, (M_digits u), (M_signs u), (M_waiting u), (M_open u), q1.2.2, (upd (M_spot u) (x1).toNatClampNeg (0 : Int32)), (M_number u), (M_from u), (M_to u), (M_sign u), (M_waits u)) u)) rfl ?_
    refine z_aload_n hC dX8_takesClause_17 rfl 0 rfl ?_
    refine gM_X8_60_o hC dX8_takesClause_18 ?_
    refine z_iload_n hC dX8_takesClause_21 rfl 1 rfl ?_
    refine aM_word hC hm dX8_takesClause_22 (fun hm => ?_)
    refine z_iconst hC dX8_takesClause_23 kI_3 ?_
    refine z_icmp_lt (tgt := 129) hC hm dX8_takesClause_24 (by decide) (fun hm => ?_) (fun hm => ?_)
    · refine z_aload_n hC dX8_takesClause_129 rfl 0 rfl ?_
      refine xM_X8_182 hI hC (Nat.le_of_ble_eq_true rfl) (fun _ h => h) hm dX8_takesClause_130 (Nat.le_of_ble_eq_true rfl) (fun q2 hm => ?_)
      refine zuM (u2 := (M_putm_takesClause (q2.2.1, q2.2.2, (M_signs u), (M_waiting u), (M_open u), q1.2.2, (upd (M_spot u) (x1).toNatClampNeg (0 : Int32)), (M_number u), (M_from u), (M_to u), (M_sign u), (M_waits u)) u)) rfl ?_
      refine z_if_ne (tgt := 138) hC hm dX8_takesClause_133 (by decide) (fun hm => ?_) (fun hm => ?_)
      · refine z_iconst hC dX8_takesClause_136 kI_0 ?_
        exact riM (fin := fun z => M_putm_takesClause z u) hC hr rfl dX8_takesClause_137 hm rfl
      · refine z_aload_n hC dX8_takesClause_138 rfl 0 rfl ?_
        refine gM_X8_66_o hC dX8_takesClause_139 ?_
        refine z_iload_n hC dX8_takesClause_142 rfl 1 rfl ?_
        refine z_aload_n hC dX8_takesClause_143 rfl 0 rfl ?_
        refine gM_X8_51_o (v := q2.2.2) hC dX8_takesClause_144 rfl ?_
        refine sM_number hC hI (fun _ h => h) hm dX8_takesClause_147 (fun hm => ?_)
        refine zuM (u2 := (M_putm_takesClause (q2.2.1, q2.2.2, (M_signs u), (M_waiting u), (M_open u), q1.2.2, (upd (M_spot u) (x1).toNatClampNeg (0 : Int32)), (upd (M_number u) (x1).toNatClampNeg q2.2.2), (M_from u), (M_to u), (M_sign u), (M_waits u)) u)) rfl ?_
        refine z_aload_n hC dX8_takesClause_148 rfl 0 rfl ?_
        refine gM_X8_60_o hC dX8_takesClause_149 ?_
        refine z_iload_n hC dX8_takesClause_152 rfl 1 rfl ?_
        refine aM_word hC hm dX8_takesClause_153 (fun hm => ?_)
        refine z_iconst hC dX8_takesClause_154 kI_2 ?_
        refine z_icmp_eq (tgt := 175) hC hm dX8_takesClause_155 (by decide) (fun hm => ?_) (fun hm => ?_)
        · refine z_iconst hC dX8_takesClause_175 kI_1 ?_
          refine z_goto (tgt := 180) hC dX8_takesClause_176 (by decide) ?_
          exact riM (fin := fun z => M_putm_takesClause z u) hC hr rfl dX8_takesClause_180 hm rfl
        · refine z_aload_n hC dX8_takesClause_158 rfl 0 rfl ?_
          refine z_bipush hC dX8_takesClause_159 kB_32 ?_
          refine xM_X8_167 hI hC (Nat.le_of_ble_eq_true rfl) (fun _ h => h) hm dX8_takesClause_161 (Nat.le_of_ble_eq_true rfl) (fun q3 hm => ?_)
          refine zuM (u2 := (M_putm_takesClause (q3.2, q2.2.2, (M_signs u), (M_waiting u), (M_open u), q1.2.2, (upd (M_spot u) (x1).toNatClampNeg (0 : Int32)), (upd (M_number u) (x1).toNatClampNeg q2.2.2), (M_from u), (M_to u), (M_sign u), (M_waits u)) u)) rfl ?_
          refine z_if_eq (tgt := 179) hC hm dX8_takesClause_164 (by decide) (fun hm => ?_) (fun hm => ?_)
          · refine z_iconst hC dX8_takesClause_179 kI_0 ?_
            exact riM (fin := fun z => M_putm_takesClause z u) hC hr rfl dX8_takesClause_180 hm rfl
          · refine z_aload_n hC dX8_takesClause_167 rfl 0 rfl ?_
            refine z_iload_n hC dX8_takesClause_168 rfl 1 rfl ?_
            refine xM_X8_207 hI hC (Nat.le_of_ble_eq_true rfl) (fun _ h => h) hm dX8_takesClause_169 (Nat.le_of_ble_eq_true rfl) (fun q4 hm => ?_)
            refine zuM (u2 := (M_putm_takesClause (q4.2.1, q4.2.2.1, q4.2.2.2.1, q4.2.2.2.2.1, q4.2.2.2.2.2.1, q1.2.2, (upd (M_spot u) (x1).toNatClampNeg (0 : Int32)), (upd (M_number u) (x1).toNatClampNeg q2.2.2), q4.2.2.2.2.2.2.1, q4.2.2.2.2.2.2.2.1, q4.2.2.2.2.2.2.2.2.1, q4.2.2.2.2.2.2.2.2.2) u)) rfl ?_
            refine z_if_eq (tgt := 179) hC hm dX8_takesClause_172 (by decide) (fun hm => ?_) (fun hm => ?_)
            · refine z_iconst hC dX8_takesClause_179 kI_0 ?_
              exact riM (fin := fun z => M_putm_takesClause z u) hC hr rfl dX8_takesClause_180 hm rfl
            · refine z_iconst hC dX8_takesClause_175 kI_1 ?_
              refine z_goto (tgt := 180) hC dX8_takesClause_176 (by decide) ?_
              exact riM (fin := fun z => M_putm_takesClause z u) hC hr rfl dX8_takesClause_180 hm rfl
    · refine z_aload_n hC dX8_takesClause_27 rfl 0 rfl ?_
      refine z_bipush hC dX8_takesClause_28 kB_9 ?_
      refine xM_X8_204 hI hC (Nat.le_of_ble_eq_true rfl) (fun _ h => h) hm dX8_takesClause_30 (Nat.le_of_ble_eq_true rfl) (fun q5 hm => ?_)
      refine zuM (u2 := (M_putm_takesClause (q5.2.1, q5.2.2, (M_signs u), (M_waiting u), (M_open u), q1.2.2, (upd (M_spot u) (x1).toNatClampNeg (0 : Int32)), (M_number u), (M_from u), (M_to u), (M_sign u), (M_waits u)) u)) rfl ?_
      refine z_if_ne (tgt := 38) hC hm dX8_takesClause_33 (by decide) (fun hm => ?_) (fun hm => ?_)
      · refine z_iconst hC dX8_takesClause_36 kI_0 ?_
        exact riM (fin := fun z => M_putm_takesClause z u) hC hr rfl dX8_takesClause_37 hm rfl
      · refine z_aload_n hC dX8_takesClause_38 rfl 0 rfl ?_
        refine gM_X8_63_o hC dX8_takesClause_39 ?_
        refine z_iload_n hC dX8_takesClause_42 rfl 1 rfl ?_
        refine z_bipush hC dX8_takesClause_43 kB_16 ?_
        refine z_aload_n hC dX8_takesClause_45 rfl 0 rfl ?_
        refine gM_X8_51_o (v := q5.2.2) hC dX8_takesClause_46 rfl ?_
        refine z_imul hC dX8_takesClause_49 ?_
        refine sM_spot hC hI (fun _ h => h) hm dX8_takesClause_50 (fun hm => ?_)
        refine zuM (u2 := (M_putm_takesClause (q5.2.1, q5.2.2, (M_signs u), (M_waiting u), (M_open u), q1.2.2, (upd (upd (M_spot u) (x1).toNatClampNeg (0 : Int32)) (x1).toNatClampNeg ((16 : Int32) * q5.2.2)), (M_number u), (M_from u), (M_to u), (M_sign u), (M_waits u)) u)) rfl ?_
        refine z_aload_n hC dX8_takesClause_51 rfl 0 rfl ?_
        refine z_bipush hC dX8_takesClause_52 kB_32 ?_
        refine xM_X8_167 hI hC (Nat.le_of_ble_eq_true rfl) (fun _ h => h) hm dX8_takesClause_54 (Nat.le_of_ble_eq_true rfl) (fun q6 hm => ?_)
        refine zuM (u2 := (M_putm_takesClause (q6.2, q5.2.2, (M_signs u), (M_waiting u), (M_open u), q1.2.2, (upd (upd (M_spot u) (x1).toNatClampNeg (0 : Int32)) (x1).toNatClampNeg ((16 : Int32) * q5.2.2)), (M_number u), (M_from u), (M_to u), (M_sign u), (M_waits u)) u)) rfl ?_
        refine z_if_ne (tgt := 62) hC hm dX8_takesClause_57 (by decide) (fun hm => ?_) (fun hm => ?_)
        · refine z_iconst hC dX8_takesClause_60 kI_0 ?_
          exact riM (fin := fun z => M_putm_takesClause z u) hC hr rfl dX8_takesClause_61 hm rfl
        · refine z_aload_n hC dX8_takesClause_62 rfl 0 rfl ?_
          refine gM_X8_60_o hC dX8_takesClause_63 ?_
          refine z_iload_n hC dX8_takesClause_66 rfl 1 rfl ?_
          refine aM_word hC hm dX8_takesClause_67 (fun hm => ?_)
          refine z_iconst hC dX8_takesClause_68 kI_3 ?_
          refine z_icmp_ne (tgt := 106) hC hm dX8_takesClause_69 (by decide) (fun hm => ?_) (fun hm => ?_)
          · refine z_aload_n hC dX8_takesClause_72 rfl 0 rfl ?_
            refine z_iconst hC dX8_takesClause_73 kI_1 ?_
            refine xM_X8_204 hI hC (Nat.le_of_ble_eq_true rfl) (fun _ h => h) hm dX8_takesClause_74 (Nat.le_of_ble_eq_true rfl) (fun q7 hm => ?_)
            refine zuM (u2 := (M_putm_takesClause (q7.2.1, q7.2.2, (M_signs u), (M_waiting u), (M_open u), q1.2.2, (upd (upd (M_spot u) (x1).toNatClampNeg (0 : Int32)) (x1).toNatClampNeg ((16 : Int32) * q5.2.2)), (M_number u), (M_from u), (M_to u), (M_sign u), (M_waits u)) u)) rfl ?_
            refine z_if_ne (tgt := 82) hC hm dX8_takesClause_77 (by decide) (fun hm => ?_) (fun hm => ?_)
            · refine z_iconst hC dX8_takesClause_80 kI_0 ?_
              exact riM (fin := fun z => M_putm_takesClause z u) hC hr rfl dX8_takesClause_81 hm rfl
            · refine z_aload_n hC dX8_takesClause_82 rfl 0 rfl ?_
              refine gM_X8_63_o hC dX8_takesClause_83 ?_
              refine z_iload_n hC dX8_takesClause_86 rfl 1 rfl ?_
              refine z_dup2_11 hC dX8_takesClause_87 rfl rfl ?_
              refine aM_spot hC hm dX8_takesClause_88 (fun hm => ?_)
              refine z_aload_n hC dX8_takesClause_89 rfl 0 rfl ?_
              refine gM_X8_51_o (v := q7.2.2) hC dX8_takesClause_90 rfl ?_
              refine z_iadd hC dX8_takesClause_93 ?_
              refine sM_spot hC hI (fun _ h => h) hm dX8_takesClause_94 (fun hm => ?_)
              refine zuM (u2 := (M_putm_takesClause (q7.2.1, q7.2.2, (M_signs u), (M_waiting u), (M_open u), q1.2.2, (upd (upd (upd (M_spot u) (x1).toNatClampNeg (0 : Int32)) (x1).toNatClampNeg ((16 : Int32) * q5.2.2)) (x1).toNatClampNeg (((upd (upd (M_spot u) (x1).toNatClampNeg (0 : Int32)) (x1).toNatClampNeg ((16 : Int32) * q5.2.2)) (x1).toNatClampNeg) + q7.2.2)), (M_number u), (M_from u), (M_to u), (M_sign u), (M_waits u)) u)) rfl ?_
              refine z_aload_n hC dX8_takesClause_95 rfl 0 rfl ?_
              refine z_bipush hC dX8_takesClause_96 kB_32 ?_
              refine xM_X8_167 hI hC (Nat.le_of_ble_eq_true rfl) (fun _ h => h) hm dX8_takesClause_98 (Nat.le_of_ble_eq_true rfl) (fun q8 hm => ?_)
              refine zuM (u2 := (M_putm_takesClause (q8.2, q7.2.2, (M_signs u), (M_waiting u), (M_open u), q1.2.2, (upd (upd (upd (M_spot u) (x1).toNatClampNeg (0 : Int32)) (x1).toNatClampNeg ((16 : Int32) * q5.2.2)) (x1).toNatClampNeg (((upd (upd (M_spot u) (x1).toNatClampNeg (0 : Int32)) (x1).toNatClampNeg ((16 : Int32) * q5.2.2)) (x1).toNatClampNeg) + q7.2.2)), (M_number u), (M_from u), (M_to u), (M_sign u), (M_waits u)) u)) rfl ?_
              refine z_if_ne (tgt := 106) hC hm dX8_takesClause_101 (by decide) (fun hm => ?_) (fun hm => ?_)
              · refine z_iconst hC dX8_takesClause_104 kI_0 ?_
                exact riM (fin := fun z => M_putm_takesClause z u) hC hr rfl dX8_takesClause_105 hm rfl
              · refine z_lv hC [0, 1] rfl ?_
                exact jM_takesClause_106 hI hC hr hm
          · refine z_lv hC [0, 1] rfl ?_
            exact jM_takesClause_106 hI hC hr hm
def M_putm_goesText (p : Int32 × Int32 × Int32 × Int32 × Int32 × (Nat → Int32) × (Nat → Int32) × (Nat → Int32) × (Nat → Int32) × (Nat → Int32) × (Nat → Int32) × (Nat → Int32) × (Nat → Int32)) (u : SM) : SM := (((u.1.1.1, (u.1.1.2.1, (u.1.1.2.2.1, (p.1, p.2.1)))), (((p.2.2.1, p.2.2.2.1), (p.2.2.2.2.1, u.1.2.1.2.2)), u.1.2.2)), ((u.2.1.1, ((p.2.2.2.2.2.1, (p.2.2.2.2.2.2.1, p.2.2.2.2.2.2.2.1)), (p.2.2.2.2.2.2.2.2.1, (p.2.2.2.2.2.2.2.2.2.1, p.2.2.2.2.2.2.2.2.2.2.1)))), (((p.2.2.2.2.2.2.2.2.2.2.2.1, (p.2.2.2.2.2.2.2.2.2.2.2.2, u.2.2.1.1.2.2)), u.2.2.1.2), u.2.2.2)))
theorem xM_X8_210 {p : Program} {l : Launch} {e : Env} {s : State} {m : MethodId} {args : Array Value} {below : List Frame} {meth : Method} {c : Code} {Q : State → Prop} {D : va_G} {A : Nat → Prop} {cc : ByteArray} {nL : Nat} {lv : List (Nat × Value)} {pc : Nat} {st : List Value} {cA : Nat → ClassId} {ad : Nat → Nat} {E : zEt} {d : Nat} {x1 : Int32} {u : SM} (hI : zInj ad 23) (C : zC p s m args meth c cc nL RX8 zTS D (zTy cA) A E) (hdm : 5 + 1 ≤ d) (hA : ∀ q, zAd ad 23 q → A q) {β : Type} {f : (Int32 × Int32 × Int32 × Int32 × Int32 × Int32 × (Nat → Int32) × (Nat → Int32) × (Nat → Int32) × (Nat → Int32) × (Nat → Int32) × (Nat → Int32) × (Nat → Int32)) → Option β} {o : β} (hm : (mM_takesClause x1 u).bind f = some o) (hd : decode cc pc = .ok (.invokevirtual 210, 3)) (h8 : (st.map fun v => v.category).sum ≤ 8) (g : ∀ q, f q = some o → zG p l e (zRm d) s m args below meth c nL D A Q (wM cA ad (M_putm_takesClause q.2 u)) lv (pc + 3) (.int q.1 :: st)) : zG p l e (zRm d) s m args below meth c nL D A Q (wM cA ad u) lv pc (.int x1 :: .ref (ad 0) :: st) := by
  obtain ⟨q, h1, h2⟩ := zb_some hm
  exact z_calliV C (cM_takesClause hI x1 u h1) (cwX8_210 C.1.2.2.2.2 rfl rfl ⟨hdm, by have := hdm; simp only [zRm]; omega⟩) hd rfl rfl h8 ⟨_, rfl, rfl⟩ (List.mem_of_getElem? (heM_o cA ad u)) (fun _ h => h) hA zJ_same (g q h2)
theorem gM_X8_57_o {p : Program} {l : Launch} {e : Env} {R : Room} {s : State} {m : MethodId} {args : Array Value} {below : List Frame} {meth : Method} {c : Code} {Q : State → Prop} {D : va_G} {A : Nat → Prop} {cc : ByteArray} {nL : Nat} {lv : List (Nat × Value)} {pc : Nat} {st : List Value} {cA : Nat → ClassId} {ad : Nat → Nat} {E : zEt} {u : SM} (C : zC p s m args meth c cc nL RX8 zTS D (zTy cA) A E) (hd : decode cc pc = .ok (.getfield 57, 3)) (g : zG p l e R s m args below meth c nL D A Q (wM cA ad u) lv (pc + 3) (.ref (ad 5) :: st)) : zG p l e R s m args below meth c nL D A Q (wM cA ad u) lv pc (.ref (ad 0) :: st) := by
  exact fun H locs ls hP hS hL => va_get (D := D) (ci := 8) (C := RX8) (T := TX8) (N := 45) C.1.1 C.1.2.1 C.1.2.2.2.2 inlX8 C.1.2.2.2.1 C.2.1 hP 0 (heM_o cA ad u) rfl 15 (by decide) (C.1.2.2.2.2 _ mfX8_57) (fun _ h9 => h9) (v := .ref (ad 5)) rfl hd (g H locs ls hP hS hL)
theorem sM_clauses {p : Program} {l : Launch} {e : Env} {R : Room} {s : State} {m : MethodId} {args : Array Value} {below : List Frame} {meth : Method} {c : Code} {Q : State → Prop} {D : va_G} {A : Nat → Prop} {cc : ByteArray} {nL : Nat} {lv : List (Nat × Value)} {pc : Nat} {st : List Value} {cA : Nat → ClassId} {ad : Nat → Nat} {E : zEt} {own : String} {u : SM} {i : Int32} {x : Int32} {β : Type} {k : Option β} {r : β} (C : zC p s m args meth c cc nL own zTS D (zTy cA) A E) (hI : zInj ad 23) (hA : ∀ q, zAd ad 23 q → A q) (hm : zgi i 5 k = some r) (hd : decode cc pc = .ok (.iastore, 1)) (g : k = some r → zG p l e R s m args below meth c nL D A Q (wM cA ad (M_set_clauses (upd (M_clauses u) i.toNatClampNeg x) u)) lv (pc + 1) st) : zG p l e R s m args below meth c nL D A Q (wM cA ad u) lv pc (.int x :: .int i :: .ref (ad 5) :: st) := fun H locs ls hP hS hL => va_iast C.1.1 C.1.2.1 C.2.1 hP (zD_mono (wM_D hI cA u) hA) hS 5 0 (heM_clauses cA ad u) rfl (zgi_some hm).1 hd (fun H1 locs1 hP1 _ hS1 => g (zgi_some hm).2 H1 locs1 ls hP1 hS1 hL)
def mM_goesText_L15 (x1 : Int32) : Nat → Int32 → SM → Option (Int32 × Int32 × Int32 × Int32 × Int32 × Int32 × (Nat → Int32) × (Nat → Int32) × (Nat → Int32) × (Nat → Int32) × (Nat → Int32) × (Nat → Int32) × (Nat → Int32) × (Nat → Int32))
  | 0, _, _ => none
  | n + 1, x2, u => (mM_takesClause (((10 : Int32) * x1) + x2) u).bind fun q1 => (if q1.1 = 0 then (some ((0 : Int32), (q1.2.1, q1.2.2.1, q1.2.2.2.1, q1.2.2.2.2.1, q1.2.2.2.2.2.1, (M_clauses u), q1.2.2.2.2.2.2.1, q1.2.2.2.2.2.2.2.1, q1.2.2.2.2.2.2.2.2.1, q1.2.2.2.2.2.2.2.2.2.1, q1.2.2.2.2.2.2.2.2.2.2.1, q1.2.2.2.2.2.2.2.2.2.2.2.1, q1.2.2.2.2.2.2.2.2.2.2.2.2))) else (zgi x1 5 (if q1.2.1 = (M_fed u) then (some ((1 : Int32), (q1.2.1, q1.2.2.1, q1.2.2.2.1, q1.2.2.2.2.1, q1.2.2.2.2.2.1, (upd (M_clauses u) (x1).toNatClampNeg (x2 + (1 : Int32))), q1.2.2.2.2.2.2.1, q1.2.2.2.2.2.2.2.1, q1.2.2.2.2.2.2.2.2.1, q1.2.2.2.2.2.2.2.2.2.1, q1.2.2.2.2.2.2.2.2.2.2.1, q1.2.2.2.2.2.2.2.2.2.2.2.1, q1.2.2.2.2.2.2.2.2.2.2.2.2))) else (if (x2 + (1 : Int32)) = (10 : Int32) then (some ((0 : Int32), (q1.2.1, q1.2.2.1, q1.2.2.2.1, q1.2.2.2.2.1, q1.2.2.2.2.2.1, (upd (M_clauses u) (x1).toNatClampNeg (x2 + (1 : Int32))), q1.2.2.2.2.2.2.1, q1.2.2.2.2.2.2.2.1, q1.2.2.2.2.2.2.2.2.1, q1.2.2.2.2.2.2.2.2.2.1, q1.2.2.2.2.2.2.2.2.2.2.1, q1.2.2.2.2.2.2.2.2.2.2.2.1, q1.2.2.2.2.2.2.2.2.2.2.2.2))) else ((mM_takesSign (59 : Int32) (M_putm_goesText (q1.2.1, q1.2.2.1, q1.2.2.2.1, q1.2.2.2.2.1, q1.2.2.2.2.2.1, (upd (M_clauses u) (x1).toNatClampNeg (x2 + (1 : Int32))), q1.2.2.2.2.2.2.1, q1.2.2.2.2.2.2.2.1, q1.2.2.2.2.2.2.2.2.1, q1.2.2.2.2.2.2.2.2.2.1, q1.2.2.2.2.2.2.2.2.2.2.1, q1.2.2.2.2.2.2.2.2.2.2.2.1, q1.2.2.2.2.2.2.2.2.2.2.2.2) u)).bind fun q2 => (if q2.1 = 0 then (some ((0 : Int32), (q2.2, q1.2.2.1, q1.2.2.2.1, q1.2.2.2.2.1, q1.2.2.2.2.2.1, (upd (M_clauses u) (x1).toNatClampNeg (x2 + (1 : Int32))), q1.2.2.2.2.2.2.1, q1.2.2.2.2.2.2.2.1, q1.2.2.2.2.2.2.2.2.1, q1.2.2.2.2.2.2.2.2.2.1, q1.2.2.2.2.2.2.2.2.2.2.1, q1.2.2.2.2.2.2.2.2.2.2.2.1, q1.2.2.2.2.2.2.2.2.2.2.2.2))) else (mM_goesText_L15 x1 n (x2 + (1 : Int32)) (M_putm_goesText (q2.2, q1.2.2.1, q1.2.2.2.1, q1.2.2.2.2.1, q1.2.2.2.2.2.1, (upd (M_clauses u) (x1).toNatClampNeg (x2 + (1 : Int32))), q1.2.2.2.2.2.2.1, q1.2.2.2.2.2.2.2.1, q1.2.2.2.2.2.2.2.2.1, q1.2.2.2.2.2.2.2.2.2.1, q1.2.2.2.2.2.2.2.2.2.2.1, q1.2.2.2.2.2.2.2.2.2.2.2.1, q1.2.2.2.2.2.2.2.2.2.2.2.2) u))))))))
set_option maxRecDepth 100000 in
set_option maxHeartbeats 4000000 in
theorem lM_goesText_15 {l : Launch} {D : va_G} {cA : Nat → ClassId} {ad : Nat → Nat} {p : Program} {e : Env} {s : State} {m : MethodId} {args : Array Value} {below : List Frame} {meth : Method} {c : Code} {E : zEt} {r : Int32} {w' : Int32 × Int32 × Int32 × Int32 × Int32 × (Nat → Int32) × (Nat → Int32) × (Nat → Int32) × (Nat → Int32) × (Nat → Int32) × (Nat → Int32) × (Nat → Int32) × (Nat → Int32)}  {x1 : Int32} (hI : zInj ad 23) (hC : zC p s m args meth c cX8_goesText 3 RX8 zTS D (zTy cA) (zAd ad 23) E) (hr : meth.sig.returnType = (some .boolean)) : ∀ (n : Nat) (x2 : Int32) (u : SM), mM_goesText_L15 x1 n x2 u = some (r, w') → zG p l e (zRm 6) s m args below meth c 3 D (zAd ad 23) (MQ below (zQi r (zBw D (wM cA ad (M_putm_goesText w' u))) (zAd ad 23)) args s 0 0 (zAd ad 23)) (wM cA ad u) [(0, .ref (ad 0)), (1, .int x1), (2, .int x2)] 15 [] := by
  intro n
  induction n with
  | zero => intro x2 u hm; exact z_none hm
  | succ n ih =>
    intro x2 u hm
    rw [mM_goesText_L15] at hm
    refine z_aload_n hC dX8_goesText_15 rfl 0 rfl ?_
    refine z_bipush hC dX8_goesText_16 kB_10 ?_
    refine z_iload_n hC dX8_goesText_18 rfl 1 rfl ?_
    refine z_imul hC dX8_goesText_19 ?_
    refine z_iload_n hC dX8_goesText_20 rfl 2 rfl ?_
    refine z_iadd hC dX8_goesText_21 ?_
    refine xM_X8_210 hI hC (Nat.le_of_ble_eq_true rfl) (fun _ h => h) hm dX8_goesText_22 (Nat.le_of_ble_eq_true rfl) (fun q1 hm => ?_)
    refine zuM (u2 := (M_putm_goesText (q1.2.1, q1.2.2.1, q1.2.2.2.1, q1.2.2.2.2.1, q1.2.2.2.2.2.1, (M_clauses u), q1.2.2.2.2.2.2.1, q1.2.2.2.2.2.2.2.1, q1.2.2.2.2.2.2.2.2.1, q1.2.2.2.2.2.2.2.2.2.1, q1.2.2.2.2.2.2.2.2.2.2.1, q1.2.2.2.2.2.2.2.2.2.2.2.1, q1.2.2.2.2.2.2.2.2.2.2.2.2) u)) rfl ?_
    refine z_if_ne (tgt := 30) hC hm dX8_goesText_25 (by decide) (fun hm => ?_) (fun hm => ?_)
    · refine z_iconst hC dX8_goesText_28 kI_0 ?_
      exact riM (fin := fun z => M_putm_goesText z u) hC hr rfl dX8_goesText_29 hm rfl
    · refine z_iinc (lv' := [(2, .int (x2 + (1 : Int32))), (0, .ref (ad 0)), (1, .int x1)]) (k := 2) (v := (x2 + (1 : Int32))) hC dX8_goesText_30 rfl rfl (by decide) rfl ?_
      refine z_aload_n hC dX8_goesText_33 rfl 1 rfl ?_
      refine gM_X8_57_o hC dX8_goesText_34 ?_
      refine z_iload_n hC dX8_goesText_37 rfl 2 rfl ?_
      refine z_iload_n hC dX8_goesText_38 rfl 0 rfl ?_
      refine sM_clauses hC hI (fun _ h => h) hm dX8_goesText_39 (fun hm => ?_)
      refine zuM (u2 := (M_putm_goesText (q1.2.1, q1.2.2.1, q1.2.2.2.1, q1.2.2.2.2.1, q1.2.2.2.2.2.1, (upd (M_clauses u) (x1).toNatClampNeg (x2 + (1 : Int32))), q1.2.2.2.2.2.2.1, q1.2.2.2.2.2.2.2.1, q1.2.2.2.2.2.2.2.2.1, q1.2.2.2.2.2.2.2.2.2.1, q1.2.2.2.2.2.2.2.2.2.2.1, q1.2.2.2.2.2.2.2.2.2.2.2.1, q1.2.2.2.2.2.2.2.2.2.2.2.2) u)) rfl ?_
      refine z_aload_n hC dX8_goesText_40 rfl 1 rfl ?_
      refine gM_X8_48_o (v := q1.2.1) hC dX8_goesText_41 rfl ?_
      refine z_aload_n hC dX8_goesText_44 rfl 1 rfl ?_
      refine gM_X8_45_o (v := (M_fed u)) hC dX8_goesText_45 rfl ?_
      refine z_icmp_ne (tgt := 53) hC hm dX8_goesText_48 (by decide) (fun hm => ?_) (fun hm => ?_)
      · refine z_iconst hC dX8_goesText_51 kI_1 ?_
        exact riM (fin := fun z => M_putm_goesText z u) hC hr rfl dX8_goesText_52 hm rfl
      · refine z_iload_n hC dX8_goesText_53 rfl 0 rfl ?_
        refine z_bipush hC dX8_goesText_54 kB_10 ?_
        refine z_icmp_eq (tgt := 68) hC hm dX8_goesText_56 (by decide) (fun hm => ?_) (fun hm => ?_)
        · refine z_iconst hC dX8_goesText_68 kI_0 ?_
          exact riM (fin := fun z => M_putm_goesText z u) hC hr rfl dX8_goesText_69 hm rfl
        · refine z_aload_n hC dX8_goesText_59 rfl 1 rfl ?_
          refine z_bipush hC dX8_goesText_60 kB_59 ?_
          refine xM_X8_167 hI hC (Nat.le_of_ble_eq_true rfl) (fun _ h => h) hm dX8_goesText_62 (Nat.le_of_ble_eq_true rfl) (fun q2 hm => ?_)
          refine zuM (u2 := (M_putm_goesText (q2.2, q1.2.2.1, q1.2.2.2.1, q1.2.2.2.2.1, q1.2.2.2.2.2.1, (upd (M_clauses u) (x1).toNatClampNeg (x2 + (1 : Int32))), q1.2.2.2.2.2.2.1, q1.2.2.2.2.2.2.2.1, q1.2.2.2.2.2.2.2.2.1, q1.2.2.2.2.2.2.2.2.2.1, q1.2.2.2.2.2.2.2.2.2.2.1, q1.2.2.2.2.2.2.2.2.2.2.2.1, q1.2.2.2.2.2.2.2.2.2.2.2.2) u)) rfl ?_
          refine z_if_ne (tgt := 15) hC hm dX8_goesText_65 (by decide) (fun hm => ?_) (fun hm => ?_)
          · refine z_iconst hC dX8_goesText_68 kI_0 ?_
            exact riM (fin := fun z => M_putm_goesText z u) hC hr rfl dX8_goesText_69 hm rfl
          · refine z_lv hC [1, 2, 0] rfl ?_
            exact ih _ _ hm
def mM_goesText (x1 : Int32) (u : SM) : Option (Int32 × Int32 × Int32 × Int32 × Int32 × Int32 × (Nat → Int32) × (Nat → Int32) × (Nat → Int32) × (Nat → Int32) × (Nat → Int32) × (Nat → Int32) × (Nat → Int32) × (Nat → Int32)) :=
  mM_goesText_L15 x1 256 (0 : Int32) (M_putm_goesText ((0 : Int32), (M_digits u), ((100 : Int32) * x1), (M_waiting u), (M_open u), (M_clauses u), (M_word u), (M_spot u), (M_number u), (M_from u), (M_to u), (M_sign u), (M_waits u)) u)
set_option maxRecDepth 100000 in
set_option maxHeartbeats 4000000 in
theorem cM_goesText {l : Launch} {D : va_G} {cA : Nat → ClassId} {ad : Nat → Nat} {E : zEt} (hI : zInj ad 23) (x1 : Int32) (u : SM) {r : Int32} {w' : Int32 × Int32 × Int32 × Int32 × Int32 × (Nat → Int32) × (Nat → Int32) × (Nat → Int32) × (Nat → Int32) × (Nat → Int32) × (Nat → Int32) × (Nat → Int32) × (Nat → Int32)} (hm : mM_goesText x1 u = some (r, w')) : Met l yX8_goesText (zWs yX8_goesText cX8_goesText 3 (some .boolean)) (zRm 6) (va_Pc [.ref (ad 0), .int x1] (zPre D (zTy cA) E (zAd ad 23) (wM cA ad u))) (zQi r (zBw D (wM cA ad (M_putm_goesText w' u))) (zAd ad 23)) 0 0 (zAd ad 23) := by
  refine z_met (lv := [(0, .ref (ad 0)), (1, .int x1)]) plX8 rfl rfl (Nat.le_of_ble_eq_true rfl) rfl ?_
  intro p e s m below meth c hC hr hin
  unfold mM_goesText at hm
  refine z_aload_n hC dX8_goesText_0 rfl 0 rfl ?_
  refine z_iconst hC dX8_goesText_1 kI_0 ?_
  refine pM_X8_48_o hC hI (fun _ h => h) dX8_goesText_2 ?_
  refine zuM (u2 := (M_putm_goesText ((0 : Int32), (M_digits u), (M_signs u), (M_waiting u), (M_open u), (M_clauses u), (M_word u), (M_spot u), (M_number u), (M_from u), (M_to u), (M_sign u), (M_waits u)) u)) rfl ?_
  refine z_aload_n hC dX8_goesText_5 rfl 0 rfl ?_
  refine z_bipush hC dX8_goesText_6 kB_100 ?_
  refine z_iload_n hC dX8_goesText_8 rfl 1 rfl ?_
  refine z_imul hC dX8_goesText_9 ?_
  refine pM_X8_81_o hC hI (fun _ h => h) dX8_goesText_10 ?_
  refine zuM (u2 := (M_putm_goesText ((0 : Int32), (M_digits u), ((100 : Int32) * x1), (M_waiting u), (M_open u), (M_clauses u), (M_word u), (M_spot u), (M_number u), (M_from u), (M_to u), (M_sign u), (M_waits u)) u)) rfl ?_
  refine z_iconst hC dX8_goesText_13 kI_0 ?_
  refine z_istore_n (lv' := [(2, .int (0 : Int32)), (0, .ref (ad 0)), (1, .int x1)]) hC dX8_goesText_14 rfl (by decide) rfl ?_
  refine z_lv hC [1, 2, 0] rfl ?_
  exact lM_goesText_15 hI hC hr _ _ _ hm
theorem gM_X8_39_o {p : Program} {l : Launch} {e : Env} {R : Room} {s : State} {m : MethodId} {args : Array Value} {below : List Frame} {meth : Method} {c : Code} {Q : State → Prop} {D : va_G} {A : Nat → Prop} {cc : ByteArray} {nL : Nat} {lv : List (Nat × Value)} {pc : Nat} {st : List Value} {cA : Nat → ClassId} {ad : Nat → Nat} {E : zEt} {u : SM} (C : zC p s m args meth c cc nL RX8 zTS D (zTy cA) A E) (hd : decode cc pc = .ok (.getfield 39, 3)) {v : Int32} (hv : M_houses u = v) (g : zG p l e R s m args below meth c nL D A Q (wM cA ad u) lv (pc + 3) (.int v :: st)) : zG p l e R s m args below meth c nL D A Q (wM cA ad u) lv pc (.ref (ad 0) :: st) := by
  subst hv; exact fun H locs ls hP hS hL => va_get (D := D) (ci := 8) (C := RX8) (T := TX8) (N := 45) C.1.1 C.1.2.1 C.1.2.2.2.2 inlX8 C.1.2.2.2.1 C.2.1 hP 0 (heM_o cA ad u) rfl 9 (by decide) (C.1.2.2.2.2 _ mfX8_39) (fun _ h9 => h9) (v := .int (M_houses u)) rfl hd (g H locs ls hP hS hL)
def M_putm_house (p : Int32 × Int32 × Int32 × Int32 × Int32 × Int32 × Int32 × Int32 × (Nat → Int32) × (Nat → Int32) × (Nat → Int32) × (Nat → Int32) × (Nat → Int32) × (Nat → Int32) × (Nat → Int32) × (Nat → Int32)) (u : SM) : SM := (((u.1.1.1, ((u.1.1.2.1.1, (p.1, p.2.1)), (p.2.2.1, (p.2.2.2.1, p.2.2.2.2.1)))), (((p.2.2.2.2.2.1, p.2.2.2.2.2.2.1), (p.2.2.2.2.2.2.2.1, u.1.2.1.2.2)), u.1.2.2)), ((u.2.1.1, ((p.2.2.2.2.2.2.2.2.1, (p.2.2.2.2.2.2.2.2.2.1, p.2.2.2.2.2.2.2.2.2.2.1)), (p.2.2.2.2.2.2.2.2.2.2.2.1, (p.2.2.2.2.2.2.2.2.2.2.2.2.1, p.2.2.2.2.2.2.2.2.2.2.2.2.2.1)))), (((p.2.2.2.2.2.2.2.2.2.2.2.2.2.2.1, (p.2.2.2.2.2.2.2.2.2.2.2.2.2.2.2, u.2.2.1.1.2.2)), u.2.2.1.2), u.2.2.2)))
theorem xM_X8_213 {p : Program} {l : Launch} {e : Env} {s : State} {m : MethodId} {args : Array Value} {below : List Frame} {meth : Method} {c : Code} {Q : State → Prop} {D : va_G} {A : Nat → Prop} {cc : ByteArray} {nL : Nat} {lv : List (Nat × Value)} {pc : Nat} {st : List Value} {cA : Nat → ClassId} {ad : Nat → Nat} {E : zEt} {d : Nat} {x1 : Int32} {u : SM} (hI : zInj ad 23) (C : zC p s m args meth c cc nL RX8 zTS D (zTy cA) A E) (hdm : 6 + 1 ≤ d) (hA : ∀ q, zAd ad 23 q → A q) {β : Type} {f : (Int32 × Int32 × Int32 × Int32 × Int32 × Int32 × (Nat → Int32) × (Nat → Int32) × (Nat → Int32) × (Nat → Int32) × (Nat → Int32) × (Nat → Int32) × (Nat → Int32) × (Nat → Int32)) → Option β} {o : β} (hm : (mM_goesText x1 u).bind f = some o) (hd : decode cc pc = .ok (.invokevirtual 213, 3)) (h8 : (st.map fun v => v.category).sum ≤ 8) (g : ∀ q, f q = some o → zG p l e (zRm d) s m args below meth c nL D A Q (wM cA ad (M_putm_goesText q.2 u)) lv (pc + 3) (.int q.1 :: st)) : zG p l e (zRm d) s m args below meth c nL D A Q (wM cA ad u) lv pc (.int x1 :: .ref (ad 0) :: st) := by
  obtain ⟨q, h1, h2⟩ := zb_some hm
  exact z_calliV C (cM_goesText hI x1 u h1) (cwX8_213 C.1.2.2.2.2 rfl rfl ⟨hdm, by have := hdm; simp only [zRm]; omega⟩) hd rfl rfl h8 ⟨_, rfl, rfl⟩ (List.mem_of_getElem? (heM_o cA ad u)) (fun _ h => h) hA zJ_same (g q h2)
theorem pM_X8_42_o {p : Program} {l : Launch} {e : Env} {R : Room} {s : State} {m : MethodId} {args : Array Value} {below : List Frame} {meth : Method} {c : Code} {Q : State → Prop} {D : va_G} {A : Nat → Prop} {cc : ByteArray} {nL : Nat} {lv : List (Nat × Value)} {pc : Nat} {st : List Value} {cA : Nat → ClassId} {ad : Nat → Nat} {E : zEt} {u : SM} {v : Int32} (C : zC p s m args meth c cc nL RX8 zTS D (zTy cA) A E) (hI : zInj ad 23) (hA : ∀ q, zAd ad 23 q → A q) (hd : decode cc pc = .ok (.putfield 42, 3)) (g : zG p l e R s m args below meth c nL D A Q (wM cA ad (M_set_the v u)) lv (pc + 3) st) : zG p l e R s m args below meth c nL D A Q (wM cA ad u) lv pc (.int v :: .ref (ad 0) :: st) := fun H locs ls hP hS hL => va_put (D := D) (ci := 8) (C := RX8) (T := TX8) (N := 45) C.1.1 C.1.2.1 C.1.2.2.2.2 inlX8 tyX8 tyX8_ok nmX8 C.1.2.2.2.1 C.2.1 hP (zD_mono (wM_D hI cA u) hA) hS 0 (heM_o cA ad u) rfl 10 (by decide) (C.1.2.2.2.2 _ mfX8_42) (fun _ h9 => h9) rfl (ty := .int) (by decide +kernel) rfl rfl (Nat.le_of_ble_eq_true rfl) hd (fun H1 locs1 hP1 _ hS1 => g H1 locs1 ls hP1 hS1 hL)
theorem pM_X8_39_o {p : Program} {l : Launch} {e : Env} {R : Room} {s : State} {m : MethodId} {args : Array Value} {below : List Frame} {meth : Method} {c : Code} {Q : State → Prop} {D : va_G} {A : Nat → Prop} {cc : ByteArray} {nL : Nat} {lv : List (Nat × Value)} {pc : Nat} {st : List Value} {cA : Nat → ClassId} {ad : Nat → Nat} {E : zEt} {u : SM} {v : Int32} (C : zC p s m args meth c cc nL RX8 zTS D (zTy cA) A E) (hI : zInj ad 23) (hA : ∀ q, zAd ad 23 q → A q) (hd : decode cc pc = .ok (.putfield 39, 3)) (g : zG p l e R s m args below meth c nL D A Q (wM cA ad (M_set_houses v u)) lv (pc + 3) st) : zG p l e R s m args below meth c nL D A Q (wM cA ad u) lv pc (.int v :: .ref (ad 0) :: st) := fun H locs ls hP hS hL => va_put (D := D) (ci := 8) (C := RX8) (T := TX8) (N := 45) C.1.1 C.1.2.1 C.1.2.2.2.2 inlX8 tyX8 tyX8_ok nmX8 C.1.2.2.2.1 C.2.1 hP (zD_mono (wM_D hI cA u) hA) hS 0 (heM_o cA ad u) rfl 9 (by decide) (C.1.2.2.2.2 _ mfX8_39) (fun _ h9 => h9) rfl (ty := .int) (by decide +kernel) rfl rfl (Nat.le_of_ble_eq_true rfl) hd (fun H1 locs1 hP1 _ hS1 => g H1 locs1 ls hP1 hS1 hL)
theorem gM_X8_42_o {p : Program} {l : Launch} {e : Env} {R : Room} {s : State} {m : MethodId} {args : Array Value} {below : List Frame} {meth : Method} {c : Code} {Q : State → Prop} {D : va_G} {A : Nat → Prop} {cc : ByteArray} {nL : Nat} {lv : List (Nat × Value)} {pc : Nat} {st : List Value} {cA : Nat → ClassId} {ad : Nat → Nat} {E : zEt} {u : SM} (C : zC p s m args meth c cc nL RX8 zTS D (zTy cA) A E) (hd : decode cc pc = .ok (.getfield 42, 3)) {v : Int32} (hv : M_the u = v) (g : zG p l e R s m args below meth c nL D A Q (wM cA ad u) lv (pc + 3) (.int v :: st)) : zG p l e R s m args below meth c nL D A Q (wM cA ad u) lv pc (.ref (ad 0) :: st) := by
  subst hv; exact fun H locs ls hP hS hL => va_get (D := D) (ci := 8) (C := RX8) (T := TX8) (N := 45) C.1.1 C.1.2.1 C.1.2.2.2.2 inlX8 C.1.2.2.2.1 C.2.1 hP 0 (heM_o cA ad u) rfl 10 (by decide) (C.1.2.2.2.2 _ mfX8_42) (fun _ h9 => h9) (v := .int (M_the u)) rfl hd (g H locs ls hP hS hL)
def mM_house (u : SM) : Option (Int32 × Int32 × Int32 × Int32 × Int32 × Int32 × Int32 × Int32 × Int32 × (Nat → Int32) × (Nat → Int32) × (Nat → Int32) × (Nat → Int32) × (Nat → Int32) × (Nat → Int32) × (Nat → Int32) × (Nat → Int32)) :=
  if (M_houses u) = (5 : Int32) then (some ((-4 : Int32), ((M_houses u), (M_the u), (M_fed u), (M_at u), (M_digits u), (M_signs u), (M_waiting u), (M_open u), (M_clauses u), (M_word u), (M_spot u), (M_number u), (M_from u), (M_to u), (M_sign u), (M_waits u)))) else ((mM_goesText (M_houses u) u).bind fun q1 => (if q1.1 = 0 then (some (((-10 : Int32) - q1.2.1), ((M_houses u), (M_the u), (0 : Int32), q1.2.1, q1.2.2.1, q1.2.2.2.1, q1.2.2.2.2.1, q1.2.2.2.2.2.1, q1.2.2.2.2.2.2.1, q1.2.2.2.2.2.2.2.1, q1.2.2.2.2.2.2.2.2.1, q1.2.2.2.2.2.2.2.2.2.1, q1.2.2.2.2.2.2.2.2.2.2.1, q1.2.2.2.2.2.2.2.2.2.2.2.1, q1.2.2.2.2.2.2.2.2.2.2.2.2.1, q1.2.2.2.2.2.2.2.2.2.2.2.2.2))) else (some ((M_houses u), (((M_houses u) + (1 : Int32)), (M_houses u), (0 : Int32), q1.2.1, q1.2.2.1, q1.2.2.2.1, q1.2.2.2.2.1, q1.2.2.2.2.2.1, q1.2.2.2.2.2.2.1, q1.2.2.2.2.2.2.2.1, q1.2.2.2.2.2.2.2.2.1, q1.2.2.2.2.2.2.2.2.2.1, q1.2.2.2.2.2.2.2.2.2.2.1, q1.2.2.2.2.2.2.2.2.2.2.2.1, q1.2.2.2.2.2.2.2.2.2.2.2.2.1, q1.2.2.2.2.2.2.2.2.2.2.2.2.2)))))
set_option maxRecDepth 100000 in
set_option maxHeartbeats 4000000 in
theorem cM_house {l : Launch} {D : va_G} {cA : Nat → ClassId} {ad : Nat → Nat} {E : zEt} (hI : zInj ad 23) (u : SM) {r : Int32} {w' : Int32 × Int32 × Int32 × Int32 × Int32 × Int32 × Int32 × Int32 × (Nat → Int32) × (Nat → Int32) × (Nat → Int32) × (Nat → Int32) × (Nat → Int32) × (Nat → Int32) × (Nat → Int32) × (Nat → Int32)} (hm : mM_house u = some (r, w')) : Met l yX8_house (zWs yX8_house cX8_house 2 (some .int)) (zRm 7) (va_Pc [.ref (ad 0)] (zPre D (zTy cA) E (zAd ad 23) (wM cA ad u))) (zQi r (zBw D (wM cA ad (M_putm_house w' u))) (zAd ad 23)) 0 0 (zAd ad 23) := by
  refine z_met (lv := [(0, .ref (ad 0))]) plX8 rfl rfl (Nat.le_of_ble_eq_true rfl) rfl ?_
  intro p e s m below meth c hC hr hin
  unfold mM_house at hm
  refine z_aload_n hC dX8_house_0 rfl 0 rfl ?_
  refine gM_X8_39_o (v := (M_houses u)) hC dX8_house_1 rfl ?_
  refine z_iconst hC dX8_house_4 kI_5 ?_
  refine z_icmp_ne (tgt := 11) hC hm dX8_house_5 (by decide) (fun hm => ?_) (fun hm => ?_)
  · refine z_bipush hC dX8_house_8 kB_m4 ?_
    exact riM (fin := fun z => M_putm_house z u) hC hr rfl dX8_house_10 hm rfl
  · refine z_aload_n hC dX8_house_11 rfl 0 rfl ?_
    refine z_aload_n hC dX8_house_12 rfl 0 rfl ?_
    refine gM_X8_39_o (v := (M_houses u)) hC dX8_house_13 rfl ?_
    refine xM_X8_213 hI hC (Nat.le_of_ble_eq_true rfl) (fun _ h => h) hm dX8_house_16 (Nat.le_of_ble_eq_true rfl) (fun q1 hm => ?_)
    refine zuM (u2 := (M_putm_house ((M_houses u), (M_the u), (M_fed u), q1.2.1, q1.2.2.1, q1.2.2.2.1, q1.2.2.2.2.1, q1.2.2.2.2.2.1, q1.2.2.2.2.2.2.1, q1.2.2.2.2.2.2.2.1, q1.2.2.2.2.2.2.2.2.1, q1.2.2.2.2.2.2.2.2.2.1, q1.2.2.2.2.2.2.2.2.2.2.1, q1.2.2.2.2.2.2.2.2.2.2.2.1, q1.2.2.2.2.2.2.2.2.2.2.2.2.1, q1.2.2.2.2.2.2.2.2.2.2.2.2.2) u)) rfl ?_
    refine z_istore_n (lv' := [(1, .int q1.1), (0, .ref (ad 0))]) hC dX8_house_19 rfl (by decide) rfl ?_
    refine z_aload_n hC dX8_house_20 rfl 1 rfl ?_
    refine z_iconst hC dX8_house_21 kI_0 ?_
    refine pM_X8_45_o hC hI (fun _ h => h) dX8_house_22 ?_
    refine zuM (u2 := (M_putm_house ((M_houses u), (M_the u), (0 : Int32), q1.2.1, q1.2.2.1, q1.2.2.2.1, q1.2.2.2.2.1, q1.2.2.2.2.2.1, q1.2.2.2.2.2.2.1, q1.2.2.2.2.2.2.2.1, q1.2.2.2.2.2.2.2.2.1, q1.2.2.2.2.2.2.2.2.2.1, q1.2.2.2.2.2.2.2.2.2.2.1, q1.2.2.2.2.2.2.2.2.2.2.2.1, q1.2.2.2.2.2.2.2.2.2.2.2.2.1, q1.2.2.2.2.2.2.2.2.2.2.2.2.2) u)) rfl ?_
    refine z_iload_n hC dX8_house_25 rfl 0 rfl ?_
    refine z_if_ne (tgt := 37) hC hm dX8_house_26 (by decide) (fun hm => ?_) (fun hm => ?_)
    · refine z_bipush hC dX8_house_29 kB_m10 ?_
      refine z_aload_n hC dX8_house_31 rfl 1 rfl ?_
      refine gM_X8_48_o (v := q1.2.1) hC dX8_house_32 rfl ?_
      refine z_isub hC dX8_house_35 ?_
      exact riM (fin := fun z => M_putm_house z u) hC hr rfl dX8_house_36 hm rfl
    · refine z_aload_n hC dX8_house_37 rfl 1 rfl ?_
      refine z_aload_n hC dX8_house_38 rfl 1 rfl ?_
      refine gM_X8_39_o (v := (M_houses u)) hC dX8_house_39 rfl ?_
      refine pM_X8_42_o hC hI (fun _ h => h) dX8_house_42 ?_
      refine zuM (u2 := (M_putm_house ((M_houses u), (M_houses u), (0 : Int32), q1.2.1, q1.2.2.1, q1.2.2.2.1, q1.2.2.2.2.1, q1.2.2.2.2.2.1, q1.2.2.2.2.2.2.1, q1.2.2.2.2.2.2.2.1, q1.2.2.2.2.2.2.2.2.1, q1.2.2.2.2.2.2.2.2.2.1, q1.2.2.2.2.2.2.2.2.2.2.1, q1.2.2.2.2.2.2.2.2.2.2.2.1, q1.2.2.2.2.2.2.2.2.2.2.2.2.1, q1.2.2.2.2.2.2.2.2.2.2.2.2.2) u)) rfl ?_
      refine z_aload_n hC dX8_house_45 rfl 1 rfl ?_
      refine z_dup hC dX8_house_46 rfl ?_
      refine gM_X8_39_o (v := (M_houses u)) hC dX8_house_47 rfl ?_
      refine z_iconst hC dX8_house_50 kI_1 ?_
      refine z_iadd hC dX8_house_51 ?_
      refine pM_X8_39_o hC hI (fun _ h => h) dX8_house_52 ?_
      refine zuM (u2 := (M_putm_house (((M_houses u) + (1 : Int32)), (M_houses u), (0 : Int32), q1.2.1, q1.2.2.1, q1.2.2.2.1, q1.2.2.2.2.1, q1.2.2.2.2.2.1, q1.2.2.2.2.2.2.1, q1.2.2.2.2.2.2.2.1, q1.2.2.2.2.2.2.2.2.1, q1.2.2.2.2.2.2.2.2.2.1, q1.2.2.2.2.2.2.2.2.2.2.1, q1.2.2.2.2.2.2.2.2.2.2.2.1, q1.2.2.2.2.2.2.2.2.2.2.2.2.1, q1.2.2.2.2.2.2.2.2.2.2.2.2.2) u)) rfl ?_
      refine z_aload_n hC dX8_house_55 rfl 1 rfl ?_
      refine gM_X8_42_o (v := (M_houses u)) hC dX8_house_56 rfl ?_
      exact riM (fin := fun z => M_putm_house z u) hC hr rfl dX8_house_59 hm rfl
def mM_first (u : SM) : Int32 :=
  if 0 ≤ (M_the u) then (((10 : Int32) * (M_the u))) else ((0 : Int32))
set_option maxRecDepth 100000 in
set_option maxHeartbeats 4000000 in
theorem cM_first {l : Launch} {D : va_G} {cA : Nat → ClassId} {ad : Nat → Nat} {E : zEt} (hI : zInj ad 23) (u : SM) {r : Int32} (hm : mM_first u = r) : Met l yX8_first (zWs yX8_first cX8_first 1 (some .int)) (zRm 0) (va_Pc [.ref (ad 0)] (zPre D (zTy cA) E zA0 (wM cA ad u))) (zQi r zB0 zA0) 0 0 zA0 := by
  refine z_met (lv := [(0, .ref (ad 0))]) plX8 rfl rfl (Nat.le_of_ble_eq_true rfl) rfl ?_
  intro p e s m below meth c hC hr hin
  unfold mM_first at hm
  refine z_aload_n hC dX8_first_0 rfl 0 rfl ?_
  refine gM_X8_42_o (v := (M_the u)) hC dX8_first_1 rfl ?_
  refine z_if_ge (tgt := 11) hC hm dX8_first_4 (by decide) (fun hm => ?_) (fun hm => ?_)
  · refine z_bipush hC dX8_first_11 kB_10 ?_
    refine z_aload_n hC dX8_first_13 rfl 0 rfl ?_
    refine gM_X8_42_o (v := (M_the u)) hC dX8_first_14 rfl ?_
    refine z_imul hC dX8_first_17 ?_
    exact z_iret hC hr rfl dX8_first_18 (fun _ _ => trivial) hm
  · refine z_iconst hC dX8_first_7 kI_0 ?_
    refine z_goto (tgt := 18) hC dX8_first_8 (by decide) ?_
    exact z_iret hC hr rfl dX8_first_18 (fun _ _ => trivial) hm
theorem aM_clauses {p : Program} {l : Launch} {e : Env} {R : Room} {s : State} {m : MethodId} {args : Array Value} {below : List Frame} {meth : Method} {c : Code} {Q : State → Prop} {D : va_G} {A : Nat → Prop} {cc : ByteArray} {nL : Nat} {lv : List (Nat × Value)} {pc : Nat} {st : List Value} {cA : Nat → ClassId} {ad : Nat → Nat} {E : zEt} {own : String} {u : SM} {i : Int32} {β : Type} {k : Option β} {r : β} (C : zC p s m args meth c cc nL own zTS D (zTy cA) A E) (hm : zgi i 5 k = some r) (hd : decode cc pc = .ok (.iaload, 1)) (g : k = some r → zG p l e R s m args below meth c nL D A Q (wM cA ad u) lv (pc + 1) (.int (M_clauses u i.toNatClampNeg) :: st)) : zG p l e R s m args below meth c nL D A Q (wM cA ad u) lv pc (.int i :: .ref (ad 5) :: st) := fun H locs ls hP hS hL => va_iald C.1.1 C.1.2.1 C.2.1 hP 5 0 (heM_clauses cA ad u) rfl (zgi_some hm).1 hd (g (zgi_some hm).2 H locs ls hP hS hL)
def mM_behind (u : SM) : Option Int32 :=
  if 0 ≤ (M_the u) then (zgi (M_the u) 5 (some (((10 : Int32) * (M_the u)) + ((M_clauses u) ((M_the u)).toNatClampNeg)))) else (some (0 : Int32))
set_option maxRecDepth 100000 in
set_option maxHeartbeats 4000000 in
theorem cM_behind {l : Launch} {D : va_G} {cA : Nat → ClassId} {ad : Nat → Nat} {E : zEt} (hI : zInj ad 23) (u : SM) {r : Int32} (hm : mM_behind u = some r) : Met l yX8_behind (zWs yX8_behind cX8_behind 1 (some .int)) (zRm 0) (va_Pc [.ref (ad 0)] (zPre D (zTy cA) E zA0 (wM cA ad u))) (zQi r zB0 zA0) 0 0 zA0 := by
  refine z_met (lv := [(0, .ref (ad 0))]) plX8 rfl rfl (Nat.le_of_ble_eq_true rfl) rfl ?_
  intro p e s m below meth c hC hr hin
  unfold mM_behind at hm
  refine z_aload_n hC dX8_behind_0 rfl 0 rfl ?_
  refine gM_X8_42_o (v := (M_the u)) hC dX8_behind_1 rfl ?_
  refine z_if_ge (tgt := 11) hC hm dX8_behind_4 (by decide) (fun hm => ?_) (fun hm => ?_)
  · refine z_bipush hC dX8_behind_11 kB_10 ?_
    refine z_aload_n hC dX8_behind_13 rfl 0 rfl ?_
    refine gM_X8_42_o (v := (M_the u)) hC dX8_behind_14 rfl ?_
    refine z_imul hC dX8_behind_17 ?_
    refine z_aload_n hC dX8_behind_18 rfl 0 rfl ?_
    refine gM_X8_57_o hC dX8_behind_19 ?_
    refine z_aload_n hC dX8_behind_22 rfl 0 rfl ?_
    refine gM_X8_42_o (v := (M_the u)) hC dX8_behind_23 rfl ?_
    refine aM_clauses hC hm dX8_behind_26 (fun hm => ?_)
    refine z_iadd hC dX8_behind_27 ?_
    exact z_iret hC hr rfl dX8_behind_28 (fun _ _ => trivial) (Option.some.inj hm)
  · refine z_iconst hC dX8_behind_7 kI_0 ?_
    refine z_goto (tgt := 28) hC dX8_behind_8 (by decide) ?_
    exact z_iret hC hr rfl dX8_behind_28 (fun _ _ => trivial) (Option.some.inj hm)
theorem xM_X8_216 {p : Program} {l : Launch} {e : Env} {s : State} {m : MethodId} {args : Array Value} {below : List Frame} {meth : Method} {c : Code} {Q : State → Prop} {D : va_G} {A : Nat → Prop} {cc : ByteArray} {nL : Nat} {lv : List (Nat × Value)} {pc : Nat} {st : List Value} {cA : Nat → ClassId} {ad : Nat → Nat} {E : zEt} {d : Nat} {u : SM} (hI : zInj ad 23) (C : zC p s m args meth c cc nL RX8 zTS D (zTy cA) A E) (hdm : 0 + 1 ≤ d) (hd : decode cc pc = .ok (.invokevirtual 216, 3)) (h8 : (st.map fun v => v.category).sum ≤ 8) (g : zG p l e (zRm d) s m args below meth c nL D A Q (wM cA ad u) lv (pc + 3) (.int (mM_first u) :: st)) : zG p l e (zRm d) s m args below meth c nL D A Q (wM cA ad u) lv pc (.ref (ad 0) :: st) :=
  z_calliV C (cM_first hI  u rfl) (cwX8_216 C.1.2.2.2.2 rfl rfl ⟨hdm, by have := hdm; simp only [zRm]; omega⟩) hd rfl rfl h8 ⟨_, rfl, rfl⟩ (List.mem_of_getElem? (heM_o cA ad u)) (fun _ h => h) (fun _ h => h.elim) zJ_ro g
theorem xM_X8_219 {p : Program} {l : Launch} {e : Env} {s : State} {m : MethodId} {args : Array Value} {below : List Frame} {meth : Method} {c : Code} {Q : State → Prop} {D : va_G} {A : Nat → Prop} {cc : ByteArray} {nL : Nat} {lv : List (Nat × Value)} {pc : Nat} {st : List Value} {cA : Nat → ClassId} {ad : Nat → Nat} {E : zEt} {d : Nat} {u : SM} (hI : zInj ad 23) (C : zC p s m args meth c cc nL RX8 zTS D (zTy cA) A E) (hdm : 0 + 1 ≤ d) {β : Type} {f : Int32 → Option β} {o : β} (hm : (mM_behind u).bind f = some o) (hd : decode cc pc = .ok (.invokevirtual 219, 3)) (h8 : (st.map fun v => v.category).sum ≤ 8) (g : ∀ q, f q = some o → zG p l e (zRm d) s m args below meth c nL D A Q (wM cA ad u) lv (pc + 3) (.int q :: st)) : zG p l e (zRm d) s m args below meth c nL D A Q (wM cA ad u) lv pc (.ref (ad 0) :: st) := by
  obtain ⟨q, h1, h2⟩ := zb_some hm
  exact z_calliV C (cM_behind hI  u h1) (cwX8_219 C.1.2.2.2.2 rfl rfl ⟨hdm, by have := hdm; simp only [zRm]; omega⟩) hd rfl rfl h8 ⟨_, rfl, rfl⟩ (List.mem_of_getElem? (heM_o cA ad u)) (fun _ h => h) (fun _ h => h.elim) zJ_ro (g q h2)
theorem aM_number {p : Program} {l : Launch} {e : Env} {R : Room} {s : State} {m : MethodId} {args : Array Value} {below : List Frame} {meth : Method} {c : Code} {Q : State → Prop} {D : va_G} {A : Nat → Prop} {cc : ByteArray} {nL : Nat} {lv : List (Nat × Value)} {pc : Nat} {st : List Value} {cA : Nat → ClassId} {ad : Nat → Nat} {E : zEt} {own : String} {u : SM} {i : Int32} {β : Type} {k : Option β} {r : β} (C : zC p s m args meth c cc nL own zTS D (zTy cA) A E) (hm : zgi i 50 k = some r) (hd : decode cc pc = .ok (.iaload, 1)) (g : k = some r → zG p l e R s m args below meth c nL D A Q (wM cA ad u) lv (pc + 1) (.int (M_number u i.toNatClampNeg) :: st)) : zG p l e R s m args below meth c nL D A Q (wM cA ad u) lv pc (.int i :: .ref (ad 8) :: st) := fun H locs ls hP hS hL => va_iald C.1.1 C.1.2.1 C.2.1 hP 8 0 (heM_number cA ad u) rfl (zgi_some hm).1 hd (g (zgi_some hm).2 H locs ls hP hS hL)
def mM_last_L9 (x1 : Int32) (x2 : Int32) (u : SM) : Nat → Int32 → Int32 → Option Int32
  | 0, _, _ => none
  | n + 1, x4, x5 => (mM_behind u).bind fun q1 => (if q1 ≤ x5 then (some x4) else (zgi x5 50 (if ((M_word u) (x5).toNatClampNeg) = x1 then (zgi x5 50 (if ((M_spot u) (x5).toNatClampNeg) = x2 then (zgi x5 50 (mM_last_L9 x1 x2 u n ((M_number u) (x5).toNatClampNeg) (x5 + (1 : Int32)))) else (mM_last_L9 x1 x2 u n x4 (x5 + (1 : Int32))))) else (mM_last_L9 x1 x2 u n x4 (x5 + (1 : Int32))))))
set_option maxRecDepth 100000 in
set_option maxHeartbeats 4000000 in
theorem lM_last_9 {l : Launch} {D : va_G} {cA : Nat → ClassId} {ad : Nat → Nat} {p : Program} {e : Env} {s : State} {m : MethodId} {args : Array Value} {below : List Frame} {meth : Method} {c : Code} {E : zEt} {r : Int32}  {x1 : Int32} {x2 : Int32} {u : SM} (hI : zInj ad 23) (hC : zC p s m args meth c cX8_last 6 RX8 zTS D (zTy cA) zA0 E) (hr : meth.sig.returnType = (some .int)) : ∀ (n : Nat) (x4 : Int32) (x5 : Int32), mM_last_L9 x1 x2 u n x4 x5 = some r → zG p l e (zRm 1) s m args below meth c 6 D zA0 (MQ below (zQi r zB0 zA0) args s 0 0 zA0) (wM cA ad u) [(0, .ref (ad 0)), (1, .int x1), (2, .int x2), (4, .int x4), (5, .int x5)] 9 [] := by
  intro n
  induction n with
  | zero => intro x4 x5 hm; exact z_none hm
  | succ n ih =>
    intro x4 x5 hm
    rw [mM_last_L9] at hm
    refine z_iload hC dX8_last_9 4 rfl ?_
    refine z_aload_n hC dX8_last_11 rfl 0 rfl ?_
    refine xM_X8_219 hI hC (Nat.le_of_ble_eq_true rfl) hm dX8_last_12 (Nat.le_of_ble_eq_true rfl) (fun q1 hm => ?_)
    refine z_icmp_ge (tgt := 60) hC hm dX8_last_15 (by decide) (fun hm => ?_) (fun hm => ?_)
    · refine z_iload hC dX8_last_60 3 rfl ?_
      exact z_iret hC hr rfl dX8_last_62 (fun _ _ => trivial) (Option.some.inj hm)
    · refine z_aload_n hC dX8_last_18 rfl 0 rfl ?_
      refine gM_X8_60_o hC dX8_last_19 ?_
      refine z_iload hC dX8_last_22 4 rfl ?_
      refine aM_word hC hm dX8_last_24 (fun hm => ?_)
      refine z_iload_n hC dX8_last_25 rfl 1 rfl ?_
      refine z_icmp_ne (tgt := 50) hC hm dX8_last_26 (by decide) (fun hm => ?_) (fun hm => ?_)
      · refine z_aload_n hC dX8_last_29 rfl 0 rfl ?_
        refine gM_X8_63_o hC dX8_last_30 ?_
        refine z_iload hC dX8_last_33 4 rfl ?_
        refine aM_spot hC hm dX8_last_35 (fun hm => ?_)
        refine z_iload_n hC dX8_last_36 rfl 2 rfl ?_
        refine z_icmp_ne (tgt := 50) hC hm dX8_last_37 (by decide) (fun hm => ?_) (fun hm => ?_)
        · refine z_aload_n hC dX8_last_40 rfl 0 rfl ?_
          refine gM_X8_66_o hC dX8_last_41 ?_
          refine z_iload hC dX8_last_44 4 rfl ?_
          refine aM_number hC hm dX8_last_46 (fun hm => ?_)
          refine z_goto (tgt := 52) hC dX8_last_47 (by decide) ?_
          refine z_istore (lv' := [(4, .int ((M_number u) (x5).toNatClampNeg)), (0, .ref (ad 0)), (1, .int x1), (2, .int x2), (5, .int x5)]) hC dX8_last_52 (by decide) rfl ?_
          refine z_iinc (lv' := [(5, .int (x5 + (1 : Int32))), (4, .int ((M_number u) (x5).toNatClampNeg)), (0, .ref (ad 0)), (1, .int x1), (2, .int x2)]) (k := 4) (v := (x5 + (1 : Int32))) hC dX8_last_54 rfl rfl (by decide) rfl ?_
          refine z_goto (tgt := 9) hC dX8_last_57 (by decide) ?_
          refine z_lv hC [2, 3, 4, 1, 0] rfl ?_
          exact ih _ _ hm
        · refine z_iload hC dX8_last_50 3 rfl ?_
          refine z_istore (lv' := [(4, .int x4), (0, .ref (ad 0)), (1, .int x1), (2, .int x2), (5, .int x5)]) hC dX8_last_52 (by decide) rfl ?_
          refine z_iinc (lv' := [(5, .int (x5 + (1 : Int32))), (4, .int x4), (0, .ref (ad 0)), (1, .int x1), (2, .int x2)]) (k := 4) (v := (x5 + (1 : Int32))) hC dX8_last_54 rfl rfl (by decide) rfl ?_
          refine z_goto (tgt := 9) hC dX8_last_57 (by decide) ?_
          refine z_lv hC [2, 3, 4, 1, 0] rfl ?_
          exact ih _ _ hm
      · refine z_iload hC dX8_last_50 3 rfl ?_
        refine z_istore (lv' := [(4, .int x4), (0, .ref (ad 0)), (1, .int x1), (2, .int x2), (5, .int x5)]) hC dX8_last_52 (by decide) rfl ?_
        refine z_iinc (lv' := [(5, .int (x5 + (1 : Int32))), (4, .int x4), (0, .ref (ad 0)), (1, .int x1), (2, .int x2)]) (k := 4) (v := (x5 + (1 : Int32))) hC dX8_last_54 rfl rfl (by decide) rfl ?_
        refine z_goto (tgt := 9) hC dX8_last_57 (by decide) ?_
        refine z_lv hC [2, 3, 4, 1, 0] rfl ?_
        exact ih _ _ hm
def mM_last (x1 : Int32) (x2 : Int32) (x3 : Int32) (u : SM) : Option Int32 :=
  mM_last_L9 x1 x2 u 256 x3 (mM_first u)
set_option maxRecDepth 100000 in
set_option maxHeartbeats 4000000 in
theorem cM_last {l : Launch} {D : va_G} {cA : Nat → ClassId} {ad : Nat → Nat} {E : zEt} (hI : zInj ad 23) (x1 : Int32) (x2 : Int32) (x3 : Int32) (u : SM) {r : Int32} (hm : mM_last x1 x2 x3 u = some r) : Met l yX8_last (zWs yX8_last cX8_last 6 (some .int)) (zRm 1) (va_Pc [.ref (ad 0), .int x1, .int x2, .int x3] (zPre D (zTy cA) E zA0 (wM cA ad u))) (zQi r zB0 zA0) 0 0 zA0 := by
  refine z_met (lv := [(0, .ref (ad 0)), (1, .int x1), (2, .int x2), (3, .int x3)]) plX8 rfl rfl (Nat.le_of_ble_eq_true rfl) rfl ?_
  intro p e s m below meth c hC hr hin
  unfold mM_last at hm
  refine z_iload_n hC dX8_last_0 rfl 3 rfl ?_
  refine z_istore (lv' := [(4, .int x3), (0, .ref (ad 0)), (1, .int x1), (2, .int x2), (3, .int x3)]) hC dX8_last_1 (by decide) rfl ?_
  refine z_aload_n hC dX8_last_3 rfl 1 rfl ?_
  refine xM_X8_216 hI hC (Nat.le_of_ble_eq_true rfl) dX8_last_4 (Nat.le_of_ble_eq_true rfl) ?_
  refine z_istore (lv' := [(5, .int (mM_first u)), (4, .int x3), (0, .ref (ad 0)), (1, .int x1), (2, .int x2), (3, .int x3)]) hC dX8_last_7 (by decide) rfl ?_
  refine z_lv hC [2, 3, 4, 1, 0] rfl ?_
  exact lM_last_9 hI hC hr _ _ _ hm
theorem xM_X8_222 {p : Program} {l : Launch} {e : Env} {s : State} {m : MethodId} {args : Array Value} {below : List Frame} {meth : Method} {c : Code} {Q : State → Prop} {D : va_G} {A : Nat → Prop} {cc : ByteArray} {nL : Nat} {lv : List (Nat × Value)} {pc : Nat} {st : List Value} {cA : Nat → ClassId} {ad : Nat → Nat} {E : zEt} {d : Nat} {x1 : Int32} {x2 : Int32} {x3 : Int32} {u : SM} (hI : zInj ad 23) (C : zC p s m args meth c cc nL RX8 zTS D (zTy cA) A E) (hdm : 1 + 1 ≤ d) {β : Type} {f : Int32 → Option β} {o : β} (hm : (mM_last x1 x2 x3 u).bind f = some o) (hd : decode cc pc = .ok (.invokevirtual 222, 3)) (h8 : (st.map fun v => v.category).sum ≤ 8) (g : ∀ q, f q = some o → zG p l e (zRm d) s m args below meth c nL D A Q (wM cA ad u) lv (pc + 3) (.int q :: st)) : zG p l e (zRm d) s m args below meth c nL D A Q (wM cA ad u) lv pc (.int x3 :: .int x2 :: .int x1 :: .ref (ad 0) :: st) := by
  obtain ⟨q, h1, h2⟩ := zb_some hm
  exact z_calliV C (cM_last hI x1 x2 x3 u h1) (cwX8_222 C.1.2.2.2.2 rfl rfl ⟨hdm, by have := hdm; simp only [zRm]; omega⟩) hd rfl rfl h8 ⟨_, rfl, rfl⟩ (List.mem_of_getElem? (heM_o cA ad u)) (fun _ h => h) (fun _ h => h.elim) zJ_ro (g q h2)
def mM_lateNow (u : SM) : Option Int32 :=
  (mM_last (2 : Int32) (0 : Int32) (1 : Int32) u).bind fun q1 => (some q1)
set_option maxRecDepth 100000 in
set_option maxHeartbeats 4000000 in
theorem cM_lateNow {l : Launch} {D : va_G} {cA : Nat → ClassId} {ad : Nat → Nat} {E : zEt} (hI : zInj ad 23) (u : SM) {r : Int32} (hm : mM_lateNow u = some r) : Met l yX8_lateNow (zWs yX8_lateNow cX8_lateNow 1 (some .int)) (zRm 2) (va_Pc [.ref (ad 0)] (zPre D (zTy cA) E zA0 (wM cA ad u))) (zQi r zB0 zA0) 0 0 zA0 := by
  refine z_met (lv := [(0, .ref (ad 0))]) plX8 rfl rfl (Nat.le_of_ble_eq_true rfl) rfl ?_
  intro p e s m below meth c hC hr hin
  unfold mM_lateNow at hm
  refine z_aload_n hC dX8_lateNow_0 rfl 0 rfl ?_
  refine z_iconst hC dX8_lateNow_1 kI_2 ?_
  refine z_iconst hC dX8_lateNow_2 kI_0 ?_
  refine z_iconst hC dX8_lateNow_3 kI_1 ?_
  refine xM_X8_222 hI hC (Nat.le_of_ble_eq_true rfl) hm dX8_lateNow_4 (Nat.le_of_ble_eq_true rfl) (fun q1 hm => ?_)
  exact z_iret hC hr rfl dX8_lateNow_7 (fun _ _ => trivial) (Option.some.inj hm)
def mM_hears (x1 : Int32) (x2 : Int32) (u : SM) : Option Int32 :=
  (mM_last (3 : Int32) (((16 : Int32) * x1) + x2) x1 u).bind fun q1 => (some q1)
set_option maxRecDepth 100000 in
set_option maxHeartbeats 4000000 in
theorem cM_hears {l : Launch} {D : va_G} {cA : Nat → ClassId} {ad : Nat → Nat} {E : zEt} (hI : zInj ad 23) (x1 : Int32) (x2 : Int32) (u : SM) {r : Int32} (hm : mM_hears x1 x2 u = some r) : Met l yX8_hears (zWs yX8_hears cX8_hears 3 (some .int)) (zRm 2) (va_Pc [.ref (ad 0), .int x1, .int x2] (zPre D (zTy cA) E zA0 (wM cA ad u))) (zQi r zB0 zA0) 0 0 zA0 := by
  refine z_met (lv := [(0, .ref (ad 0)), (1, .int x1), (2, .int x2)]) plX8 rfl rfl (Nat.le_of_ble_eq_true rfl) rfl ?_
  intro p e s m below meth c hC hr hin
  unfold mM_hears at hm
  refine z_aload_n hC dX8_hears_0 rfl 0 rfl ?_
  refine z_iconst hC dX8_hears_1 kI_3 ?_
  refine z_bipush hC dX8_hears_2 kB_16 ?_
  refine z_iload_n hC dX8_hears_4 rfl 1 rfl ?_
  refine z_imul hC dX8_hears_5 ?_
  refine z_iload_n hC dX8_hears_6 rfl 2 rfl ?_
  refine z_iadd hC dX8_hears_7 ?_
  refine z_iload_n hC dX8_hears_8 rfl 1 rfl ?_
  refine xM_X8_222 hI hC (Nat.le_of_ble_eq_true rfl) hm dX8_hears_9 (Nat.le_of_ble_eq_true rfl) (fun q1 hm => ?_)
  exact z_iret hC hr rfl dX8_hears_12 (fun _ _ => trivial) (Option.some.inj hm)
theorem xM_X8_226 {p : Program} {l : Launch} {e : Env} {s : State} {m : MethodId} {args : Array Value} {below : List Frame} {meth : Method} {c : Code} {Q : State → Prop} {D : va_G} {A : Nat → Prop} {cc : ByteArray} {nL : Nat} {lv : List (Nat × Value)} {pc : Nat} {st : List Value} {cA : Nat → ClassId} {ad : Nat → Nat} {E : zEt} {d : Nat} {x1 : Int32} {x2 : Int32} {u : SM} (hI : zInj ad 23) (C : zC p s m args meth c cc nL RX8 zTS D (zTy cA) A E) (hdm : 2 + 1 ≤ d) {β : Type} {f : Int32 → Option β} {o : β} (hm : (mM_hears x1 x2 u).bind f = some o) (hd : decode cc pc = .ok (.invokevirtual 226, 3)) (h8 : (st.map fun v => v.category).sum ≤ 8) (g : ∀ q, f q = some o → zG p l e (zRm d) s m args below meth c nL D A Q (wM cA ad u) lv (pc + 3) (.int q :: st)) : zG p l e (zRm d) s m args below meth c nL D A Q (wM cA ad u) lv pc (.int x2 :: .int x1 :: .ref (ad 0) :: st) := by
  obtain ⟨q, h1, h2⟩ := zb_some hm
  exact z_calliV C (cM_hears hI x1 x2 u h1) (cwX8_226 C.1.2.2.2.2 rfl rfl ⟨hdm, by have := hdm; simp only [zRm]; omega⟩) hd rfl rfl h8 ⟨_, rfl, rfl⟩ (List.mem_of_getElem? (heM_o cA ad u)) (fun _ h => h) (fun _ h => h.elim) zJ_ro (g q h2)
theorem xM_X8_230 {p : Program} {l : Launch} {e : Env} {s : State} {m : MethodId} {args : Array Value} {below : List Frame} {meth : Method} {c : Code} {Q : State → Prop} {D : va_G} {A : Nat → Prop} {cc : ByteArray} {nL : Nat} {lv : List (Nat × Value)} {pc : Nat} {st : List Value} {cA : Nat → ClassId} {ad : Nat → Nat} {E : zEt} {d : Nat} {u : SM} (hI : zInj ad 23) (C : zC p s m args meth c cc nL RX8 zTS D (zTy cA) A E) (hdm : 2 + 1 ≤ d) {β : Type} {f : Int32 → Option β} {o : β} (hm : (mM_lateNow u).bind f = some o) (hd : decode cc pc = .ok (.invokevirtual 230, 3)) (h8 : (st.map fun v => v.category).sum ≤ 8) (g : ∀ q, f q = some o → zG p l e (zRm d) s m args below meth c nL D A Q (wM cA ad u) lv (pc + 3) (.int q :: st)) : zG p l e (zRm d) s m args below meth c nL D A Q (wM cA ad u) lv pc (.ref (ad 0) :: st) := by
  obtain ⟨q, h1, h2⟩ := zb_some hm
  exact z_calliV C (cM_lateNow hI  u h1) (cwX8_230 C.1.2.2.2.2 rfl rfl ⟨hdm, by have := hdm; simp only [zRm]; omega⟩) hd rfl rfl h8 ⟨_, rfl, rfl⟩ (List.mem_of_getElem? (heM_o cA ad u)) (fun _ h => h) (fun _ h => h.elim) zJ_ro (g q h2)
def mM_told (x1 : Int32) (x2 : Int32) (u : SM) : Option Int32 :=
  if (mM_in x1 (0 : Int32) (9 : Int32)) = 0 then (some (-1 : Int32)) else (if x2 = (0 : Int32) then ((mM_hears x1 (0 : Int32) u).bind fun q1 => (some q1)) else (if x2 = (1 : Int32) then ((mM_hears x1 (1 : Int32) u).bind fun q2 => (some q2)) else (if x2 = (2 : Int32) then ((mM_last (4 : Int32) ((16 : Int32) * x1) x1 u).bind fun q3 => (some q3)) else (if x2 = (3 : Int32) then ((mM_lateNow u).bind fun q4 => (some q4)) else (some (-1 : Int32))))))
set_option maxRecDepth 100000 in
set_option maxHeartbeats 4000000 in
theorem cM_told {l : Launch} {D : va_G} {cA : Nat → ClassId} {ad : Nat → Nat} {E : zEt} (hI : zInj ad 23) (x1 : Int32) (x2 : Int32) (u : SM) {r : Int32} (hm : mM_told x1 x2 u = some r) : Met l yX8_told (zWs yX8_told cX8_told 3 (some .int)) (zRm 3) (va_Pc [.ref (ad 0), .int x1, .int x2] (zPre D (zTy cA) E zA0 (wM cA ad u))) (zQi r zB0 zA0) 0 0 zA0 := by
  refine z_met (lv := [(0, .ref (ad 0)), (1, .int x1), (2, .int x2)]) plX8 rfl rfl (Nat.le_of_ble_eq_true rfl) rfl ?_
  intro p e s m below meth c hC hr hin
  unfold mM_told at hm
  refine z_aload_n hC dX8_told_0 rfl 0 rfl ?_
  refine z_iload_n hC dX8_told_1 rfl 1 rfl ?_
  refine z_iconst hC dX8_told_2 kI_0 ?_
  refine z_bipush hC dX8_told_3 kB_9 ?_
  refine xM_X8_150 hI hC (Nat.le_of_ble_eq_true rfl) dX8_told_5 (Nat.le_of_ble_eq_true rfl) ?_
  refine z_if_ne (tgt := 13) hC hm dX8_told_8 (by decide) (fun hm => ?_) (fun hm => ?_)
  · refine z_iconst hC dX8_told_11 kI_m1 ?_
    exact z_iret hC hr rfl dX8_told_12 (fun _ _ => trivial) (Option.some.inj hm)
  · refine z_iload_n hC dX8_told_13 rfl 2 rfl ?_
    refine z_ite hm (fun h14_0 hm => ?_) (fun h14_0 hm => ?_)
    · refine z_tin hC dX8_told_14 h14_0 kc_0 (by decide) (by decide) (off := 30) rfl (tgt := 44) (by decide) ?_
      refine z_aload_n hC dX8_told_44 rfl 0 rfl ?_
      refine z_iload_n hC dX8_told_45 rfl 1 rfl ?_
      refine z_iconst hC dX8_told_46 kI_0 ?_
      refine xM_X8_226 hI hC (Nat.le_of_ble_eq_true rfl) hm dX8_told_47 (Nat.le_of_ble_eq_true rfl) (fun q1 hm => ?_)
      exact z_iret hC hr rfl dX8_told_50 (fun _ _ => trivial) (Option.some.inj hm)
    · refine z_ite hm (fun h14_1 hm => ?_) (fun h14_1 hm => ?_)
      · refine z_tin hC dX8_told_14 h14_1 kc_1 (by decide) (by decide) (off := 37) rfl (tgt := 51) (by decide) ?_
        refine z_aload_n hC dX8_told_51 rfl 0 rfl ?_
        refine z_iload_n hC dX8_told_52 rfl 1 rfl ?_
        refine z_iconst hC dX8_told_53 kI_1 ?_
        refine xM_X8_226 hI hC (Nat.le_of_ble_eq_true rfl) hm dX8_told_54 (Nat.le_of_ble_eq_true rfl) (fun q2 hm => ?_)
        exact z_iret hC hr rfl dX8_told_57 (fun _ _ => trivial) (Option.some.inj hm)
      · refine z_ite hm (fun h14_2 hm => ?_) (fun h14_2 hm => ?_)
        · refine z_tin hC dX8_told_14 h14_2 kc_2 (by decide) (by decide) (off := 44) rfl (tgt := 58) (by decide) ?_
          refine z_aload_n hC dX8_told_58 rfl 0 rfl ?_
          refine z_iconst hC dX8_told_59 kI_4 ?_
          refine z_bipush hC dX8_told_60 kB_16 ?_
          refine z_iload_n hC dX8_told_62 rfl 1 rfl ?_
          refine z_imul hC dX8_told_63 ?_
          refine z_iload_n hC dX8_told_64 rfl 1 rfl ?_
          refine xM_X8_222 hI hC (Nat.le_of_ble_eq_true rfl) hm dX8_told_65 (Nat.le_of_ble_eq_true rfl) (fun q3 hm => ?_)
          exact z_iret hC hr rfl dX8_told_68 (fun _ _ => trivial) (Option.some.inj hm)
        · refine z_ite hm (fun h14_3 hm => ?_) (fun h14_3 hm => ?_)
          · refine z_tin hC dX8_told_14 h14_3 kc_3 (by decide) (by decide) (off := 55) rfl (tgt := 69) (by decide) ?_
            refine z_aload_n hC dX8_told_69 rfl 0 rfl ?_
            refine xM_X8_230 hI hC (Nat.le_of_ble_eq_true rfl) hm dX8_told_70 (Nat.le_of_ble_eq_true rfl) (fun q4 hm => ?_)
            exact z_iret hC hr rfl dX8_told_73 (fun _ _ => trivial) (Option.some.inj hm)
          · refine z_tout (n := 4) hC dX8_told_14 (z_allc (z_tneq kc_0 h14_0) (z_allc (z_tneq kc_1 h14_1) (z_allc (z_tneq kc_2 h14_2) (z_allc (z_tneq kc_3 h14_3) z_all0)))) (by decide) (tgt := 74) (by decide) ?_
            refine z_iconst hC dX8_told_74 kI_m1 ?_
            exact z_iret hC hr rfl dX8_told_75 (fun _ _ => trivial) (Option.some.inj hm)
theorem gM_X8_93_o {p : Program} {l : Launch} {e : Env} {R : Room} {s : State} {m : MethodId} {args : Array Value} {below : List Frame} {meth : Method} {c : Code} {Q : State → Prop} {D : va_G} {A : Nat → Prop} {cc : ByteArray} {nL : Nat} {lv : List (Nat × Value)} {pc : Nat} {st : List Value} {cA : Nat → ClassId} {ad : Nat → Nat} {E : zEt} {u : SM} (C : zC p s m args meth c cc nL RX8 zTS D (zTy cA) A E) (hd : decode cc pc = .ok (.getfield 93, 3)) {v : Int32} (hv : M_voices u = v) (g : zG p l e R s m args below meth c nL D A Q (wM cA ad u) lv (pc + 3) (.int v :: st)) : zG p l e R s m args below meth c nL D A Q (wM cA ad u) lv pc (.ref (ad 0) :: st) := by
  subst hv; exact fun H locs ls hP hS hL => va_get (D := D) (ci := 8) (C := RX8) (T := TX8) (N := 45) C.1.1 C.1.2.1 C.1.2.2.2.2 inlX8 C.1.2.2.2.1 C.2.1 hP 0 (heM_o cA ad u) rfl 27 (by decide) (C.1.2.2.2.2 _ mfX8_93) (fun _ h9 => h9) (v := .int (M_voices u)) rfl hd (g H locs ls hP hS hL)
def mM_isVoice (x1 : Int32) (u : SM) : Int32 :=
  (mM_in x1 (0 : Int32) ((M_voices u) - (1 : Int32)))
theorem bM_isVoice (x1 : Int32) (u : SM) : mM_isVoice x1 u = 0 ∨ mM_isVoice x1 u = 1 := by
  unfold mM_isVoice
  (repeat' split) <;> first | exact Or.inl rfl | exact Or.inr rfl | exact bM_in ..
set_option maxRecDepth 100000 in
set_option maxHeartbeats 4000000 in
theorem cM_isVoice {l : Launch} {D : va_G} {cA : Nat → ClassId} {ad : Nat → Nat} {E : zEt} (hI : zInj ad 23) (x1 : Int32) (u : SM) {r : Int32} (hm : mM_isVoice x1 u = r) : Met l yX8_isVoice (zWs yX8_isVoice cX8_isVoice 2 (some .boolean)) (zRm 1) (va_Pc [.ref (ad 0), .int x1] (zPre D (zTy cA) E zA0 (wM cA ad u))) (zQi r zB0 zA0) 0 0 zA0 := by
  refine z_met (lv := [(0, .ref (ad 0)), (1, .int x1)]) plX8 rfl rfl (Nat.le_of_ble_eq_true rfl) rfl ?_
  intro p e s m below meth c hC hr hin
  unfold mM_isVoice at hm
  refine z_aload_n hC dX8_isVoice_0 rfl 0 rfl ?_
  refine z_iload_n hC dX8_isVoice_1 rfl 1 rfl ?_
  refine z_iconst hC dX8_isVoice_2 kI_0 ?_
  refine z_aload_n hC dX8_isVoice_3 rfl 0 rfl ?_
  refine gM_X8_93_o (v := (M_voices u)) hC dX8_isVoice_4 rfl ?_
  refine z_iconst hC dX8_isVoice_7 kI_1 ?_
  refine z_isub hC dX8_isVoice_8 ?_
  refine xM_X8_150 hI hC (Nat.le_of_ble_eq_true rfl) dX8_isVoice_9 (Nat.le_of_ble_eq_true rfl) ?_
  exact z_iret hC hr (zb_nar (bM_in ..)) dX8_isVoice_12 (fun _ _ => trivial) hm
def M_put_voices_kind_v (p : Int32 × (Nat → Int32) × (Nat → Int32)) (u : SM) : SM := ((u.1.1, ((u.1.2.1.1, (u.1.2.1.2.1, (p.1, u.1.2.1.2.2.2))), u.1.2.2)), (u.2.1, ((u.2.2.1.1, (p.2.1, (p.2.2, u.2.2.1.2.2.2))), u.2.2.2)))
theorem gM_X8_96_o {p : Program} {l : Launch} {e : Env} {R : Room} {s : State} {m : MethodId} {args : Array Value} {below : List Frame} {meth : Method} {c : Code} {Q : State → Prop} {D : va_G} {A : Nat → Prop} {cc : ByteArray} {nL : Nat} {lv : List (Nat × Value)} {pc : Nat} {st : List Value} {cA : Nat → ClassId} {ad : Nat → Nat} {E : zEt} {u : SM} (C : zC p s m args meth c cc nL RX8 zTS D (zTy cA) A E) (hd : decode cc pc = .ok (.getfield 96, 3)) (g : zG p l e R s m args below meth c nL D A Q (wM cA ad u) lv (pc + 3) (.ref (ad 14) :: st)) : zG p l e R s m args below meth c nL D A Q (wM cA ad u) lv pc (.ref (ad 0) :: st) := by
  exact fun H locs ls hP hS hL => va_get (D := D) (ci := 8) (C := RX8) (T := TX8) (N := 45) C.1.1 C.1.2.1 C.1.2.2.2.2 inlX8 C.1.2.2.2.1 C.2.1 hP 0 (heM_o cA ad u) rfl 28 (by decide) (C.1.2.2.2.2 _ mfX8_96) (fun _ h9 => h9) (v := .ref (ad 14)) rfl hd (g H locs ls hP hS hL)
theorem sM_kind {p : Program} {l : Launch} {e : Env} {R : Room} {s : State} {m : MethodId} {args : Array Value} {below : List Frame} {meth : Method} {c : Code} {Q : State → Prop} {D : va_G} {A : Nat → Prop} {cc : ByteArray} {nL : Nat} {lv : List (Nat × Value)} {pc : Nat} {st : List Value} {cA : Nat → ClassId} {ad : Nat → Nat} {E : zEt} {own : String} {u : SM} {i : Int32} {x : Int32} {β : Type} {k : Option β} {r : β} (C : zC p s m args meth c cc nL own zTS D (zTy cA) A E) (hI : zInj ad 23) (hA : ∀ q, zAd ad 23 q → A q) (hm : zgi i 10 k = some r) (hd : decode cc pc = .ok (.iastore, 1)) (g : k = some r → zG p l e R s m args below meth c nL D A Q (wM cA ad (M_set_kind (upd (M_kind u) i.toNatClampNeg x) u)) lv (pc + 1) st) : zG p l e R s m args below meth c nL D A Q (wM cA ad u) lv pc (.int x :: .int i :: .ref (ad 14) :: st) := fun H locs ls hP hS hL => va_iast C.1.1 C.1.2.1 C.2.1 hP (zD_mono (wM_D hI cA u) hA) hS 14 0 (heM_kind cA ad u) rfl (zgi_some hm).1 hd (fun H1 locs1 hP1 _ hS1 => g (zgi_some hm).2 H1 locs1 ls hP1 hS1 hL)
theorem gM_X8_99_o {p : Program} {l : Launch} {e : Env} {R : Room} {s : State} {m : MethodId} {args : Array Value} {below : List Frame} {meth : Method} {c : Code} {Q : State → Prop} {D : va_G} {A : Nat → Prop} {cc : ByteArray} {nL : Nat} {lv : List (Nat × Value)} {pc : Nat} {st : List Value} {cA : Nat → ClassId} {ad : Nat → Nat} {E : zEt} {u : SM} (C : zC p s m args meth c cc nL RX8 zTS D (zTy cA) A E) (hd : decode cc pc = .ok (.getfield 99, 3)) (g : zG p l e R s m args below meth c nL D A Q (wM cA ad u) lv (pc + 3) (.ref (ad 15) :: st)) : zG p l e R s m args below meth c nL D A Q (wM cA ad u) lv pc (.ref (ad 0) :: st) := by
  exact fun H locs ls hP hS hL => va_get (D := D) (ci := 8) (C := RX8) (T := TX8) (N := 45) C.1.1 C.1.2.1 C.1.2.2.2.2 inlX8 C.1.2.2.2.1 C.2.1 hP 0 (heM_o cA ad u) rfl 29 (by decide) (C.1.2.2.2.2 _ mfX8_99) (fun _ h9 => h9) (v := .ref (ad 15)) rfl hd (g H locs ls hP hS hL)
theorem sM_v {p : Program} {l : Launch} {e : Env} {R : Room} {s : State} {m : MethodId} {args : Array Value} {below : List Frame} {meth : Method} {c : Code} {Q : State → Prop} {D : va_G} {A : Nat → Prop} {cc : ByteArray} {nL : Nat} {lv : List (Nat × Value)} {pc : Nat} {st : List Value} {cA : Nat → ClassId} {ad : Nat → Nat} {E : zEt} {own : String} {u : SM} {i : Int32} {x : Int32} {β : Type} {k : Option β} {r : β} (C : zC p s m args meth c cc nL own zTS D (zTy cA) A E) (hI : zInj ad 23) (hA : ∀ q, zAd ad 23 q → A q) (hm : zgi i 10 k = some r) (hd : decode cc pc = .ok (.iastore, 1)) (g : k = some r → zG p l e R s m args below meth c nL D A Q (wM cA ad (M_set_v (upd (M_v u) i.toNatClampNeg x) u)) lv (pc + 1) st) : zG p l e R s m args below meth c nL D A Q (wM cA ad u) lv pc (.int x :: .int i :: .ref (ad 15) :: st) := fun H locs ls hP hS hL => va_iast C.1.1 C.1.2.1 C.2.1 hP (zD_mono (wM_D hI cA u) hA) hS 15 0 (heM_v cA ad u) rfl (zgi_some hm).1 hd (fun H1 locs1 hP1 _ hS1 => g (zgi_some hm).2 H1 locs1 ls hP1 hS1 hL)
theorem pM_X8_93_o {p : Program} {l : Launch} {e : Env} {R : Room} {s : State} {m : MethodId} {args : Array Value} {below : List Frame} {meth : Method} {c : Code} {Q : State → Prop} {D : va_G} {A : Nat → Prop} {cc : ByteArray} {nL : Nat} {lv : List (Nat × Value)} {pc : Nat} {st : List Value} {cA : Nat → ClassId} {ad : Nat → Nat} {E : zEt} {u : SM} {v : Int32} (C : zC p s m args meth c cc nL RX8 zTS D (zTy cA) A E) (hI : zInj ad 23) (hA : ∀ q, zAd ad 23 q → A q) (hd : decode cc pc = .ok (.putfield 93, 3)) (g : zG p l e R s m args below meth c nL D A Q (wM cA ad (M_set_voices v u)) lv (pc + 3) st) : zG p l e R s m args below meth c nL D A Q (wM cA ad u) lv pc (.int v :: .ref (ad 0) :: st) := fun H locs ls hP hS hL => va_put (D := D) (ci := 8) (C := RX8) (T := TX8) (N := 45) C.1.1 C.1.2.1 C.1.2.2.2.2 inlX8 tyX8 tyX8_ok nmX8 C.1.2.2.2.1 C.2.1 hP (zD_mono (wM_D hI cA u) hA) hS 0 (heM_o cA ad u) rfl 27 (by decide) (C.1.2.2.2.2 _ mfX8_93) (fun _ h9 => h9) rfl (ty := .int) (by decide +kernel) rfl rfl (Nat.le_of_ble_eq_true rfl) hd (fun H1 locs1 hP1 _ hS1 => g H1 locs1 ls hP1 hS1 hL)
def mM_voice (x1 : Int32) (x2 : Int32) (u : SM) : Option (Int32 × Int32 × (Nat → Int32) × (Nat → Int32)) :=
  if (mM_in x1 (0 : Int32) (6 : Int32)) = 0 then (some ((-1 : Int32), ((M_voices u), (M_kind u), (M_v u)))) else (if (mM_in x2 (0 : Int32) (9 : Int32)) = 0 then (some ((-2 : Int32), ((M_voices u), (M_kind u), (M_v u)))) else (if (M_voices u) = (10 : Int32) then (some ((-4 : Int32), ((M_voices u), (M_kind u), (M_v u)))) else (zgi (M_voices u) 10 (zgi (M_voices u) 10 (some ((((M_voices u) + (1 : Int32)) - (1 : Int32)), (((M_voices u) + (1 : Int32)), (upd (M_kind u) ((M_voices u)).toNatClampNeg x1), (upd (M_v u) ((M_voices u)).toNatClampNeg x2))))))))
set_option maxRecDepth 100000 in
set_option maxHeartbeats 4000000 in
theorem cM_voice {l : Launch} {D : va_G} {cA : Nat → ClassId} {ad : Nat → Nat} {E : zEt} (hI : zInj ad 23) (x1 : Int32) (x2 : Int32) (u : SM) {r : Int32} {w' : Int32 × (Nat → Int32) × (Nat → Int32)} (hm : mM_voice x1 x2 u = some (r, w')) : Met l yX8_voice (zWs yX8_voice cX8_voice 3 (some .int)) (zRm 1) (va_Pc [.ref (ad 0), .int x1, .int x2] (zPre D (zTy cA) E (zAd ad 23) (wM cA ad u))) (zQi r (zBw D (wM cA ad (M_put_voices_kind_v w' u))) (zAd ad 23)) 0 0 (zAd ad 23) := by
  refine z_met (lv := [(0, .ref (ad 0)), (1, .int x1), (2, .int x2)]) plX8 rfl rfl (Nat.le_of_ble_eq_true rfl) rfl ?_
  intro p e s m below meth c hC hr hin
  unfold mM_voice at hm
  refine z_aload_n hC dX8_voice_0 rfl 0 rfl ?_
  refine z_iload_n hC dX8_voice_1 rfl 1 rfl ?_
  refine z_iconst hC dX8_voice_2 kI_0 ?_
  refine z_bipush hC dX8_voice_3 kB_6 ?_
  refine xM_X8_150 hI hC (Nat.le_of_ble_eq_true rfl) dX8_voice_5 (Nat.le_of_ble_eq_true rfl) ?_
  refine z_if_ne (tgt := 13) hC hm dX8_voice_8 (by decide) (fun hm => ?_) (fun hm => ?_)
  · refine z_iconst hC dX8_voice_11 kI_m1 ?_
    exact riM (fin := fun z => M_put_voices_kind_v z u) hC hr rfl dX8_voice_12 hm rfl
  · refine z_aload_n hC dX8_voice_13 rfl 0 rfl ?_
    refine z_iload_n hC dX8_voice_14 rfl 2 rfl ?_
    refine z_iconst hC dX8_voice_15 kI_0 ?_
    refine z_bipush hC dX8_voice_16 kB_9 ?_
    refine xM_X8_150 hI hC (Nat.le_of_ble_eq_true rfl) dX8_voice_18 (Nat.le_of_ble_eq_true rfl) ?_
    refine z_if_ne (tgt := 27) hC hm dX8_voice_21 (by decide) (fun hm => ?_) (fun hm => ?_)
    · refine z_bipush hC dX8_voice_24 kB_m2 ?_
      exact riM (fin := fun z => M_put_voices_kind_v z u) hC hr rfl dX8_voice_26 hm rfl
    · refine z_aload_n hC dX8_voice_27 rfl 0 rfl ?_
      refine gM_X8_93_o (v := (M_voices u)) hC dX8_voice_28 rfl ?_
      refine z_bipush hC dX8_voice_31 kB_10 ?_
      refine z_icmp_ne (tgt := 39) hC hm dX8_voice_33 (by decide) (fun hm => ?_) (fun hm => ?_)
      · refine z_bipush hC dX8_voice_36 kB_m4 ?_
        exact riM (fin := fun z => M_put_voices_kind_v z u) hC hr rfl dX8_voice_38 hm rfl
      · refine z_aload_n hC dX8_voice_39 rfl 0 rfl ?_
        refine gM_X8_96_o hC dX8_voice_40 ?_
        refine z_aload_n hC dX8_voice_43 rfl 0 rfl ?_
        refine gM_X8_93_o (v := (M_voices u)) hC dX8_voice_44 rfl ?_
        refine z_iload_n hC dX8_voice_47 rfl 1 rfl ?_
        refine sM_kind hC hI (fun _ h => h) hm dX8_voice_48 (fun hm => ?_)
        refine zuM (u2 := (M_put_voices_kind_v ((M_voices u), (upd (M_kind u) ((M_voices u)).toNatClampNeg x1), (M_v u)) u)) rfl ?_
        refine z_aload_n hC dX8_voice_49 rfl 0 rfl ?_
        refine gM_X8_99_o hC dX8_voice_50 ?_
        refine z_aload_n hC dX8_voice_53 rfl 0 rfl ?_
        refine gM_X8_93_o (v := (M_voices u)) hC dX8_voice_54 rfl ?_
        refine z_iload_n hC dX8_voice_57 rfl 2 rfl ?_
        refine sM_v hC hI (fun _ h => h) hm dX8_voice_58 (fun hm => ?_)
        refine zuM (u2 := (M_put_voices_kind_v ((M_voices u), (upd (M_kind u) ((M_voices u)).toNatClampNeg x1), (upd (M_v u) ((M_voices u)).toNatClampNeg x2)) u)) rfl ?_
        refine z_aload_n hC dX8_voice_59 rfl 0 rfl ?_
        refine z_dup hC dX8_voice_60 rfl ?_
        refine gM_X8_93_o (v := (M_voices u)) hC dX8_voice_61 rfl ?_
        refine z_iconst hC dX8_voice_64 kI_1 ?_
        refine z_iadd hC dX8_voice_65 ?_
        refine pM_X8_93_o hC hI (fun _ h => h) dX8_voice_66 ?_
        refine zuM (u2 := (M_put_voices_kind_v (((M_voices u) + (1 : Int32)), (upd (M_kind u) ((M_voices u)).toNatClampNeg x1), (upd (M_v u) ((M_voices u)).toNatClampNeg x2)) u)) rfl ?_
        refine z_aload_n hC dX8_voice_69 rfl 0 rfl ?_
        refine gM_X8_93_o (v := ((M_voices u) + (1 : Int32))) hC dX8_voice_70 rfl ?_
        refine z_iconst hC dX8_voice_73 kI_1 ?_
        refine z_isub hC dX8_voice_74 ?_
        exact riM (fin := fun z => M_put_voices_kind_v z u) hC hr rfl dX8_voice_75 hm rfl
def mM_isSaid (x1 : Int32) (u : SM) : Int32 :=
  if ((2 : Int32) * (M_letters u)) ≤ x1 then ((0 : Int32)) else ((1 : Int32))
theorem bM_isSaid (x1 : Int32) (u : SM) : mM_isSaid x1 u = 0 ∨ mM_isSaid x1 u = 1 := by
  unfold mM_isSaid
  (repeat' split) <;> first | exact Or.inl rfl | exact Or.inr rfl
set_option maxRecDepth 100000 in
set_option maxHeartbeats 4000000 in
theorem cM_isSaid {l : Launch} {D : va_G} {cA : Nat → ClassId} {ad : Nat → Nat} {E : zEt} (hI : zInj ad 23) (x1 : Int32) (u : SM) {r : Int32} (hm : mM_isSaid x1 u = r) : Met l yX8_isSaid (zWs yX8_isSaid cX8_isSaid 2 (some .boolean)) (zRm 0) (va_Pc [.ref (ad 0), .int x1] (zPre D (zTy cA) E zA0 (wM cA ad u))) (zQi r zB0 zA0) 0 0 zA0 := by
  refine z_met (lv := [(0, .ref (ad 0)), (1, .int x1)]) plX8 rfl rfl (Nat.le_of_ble_eq_true rfl) rfl ?_
  intro p e s m below meth c hC hr hin
  unfold mM_isSaid at hm
  refine z_iload_n hC dX8_isSaid_0 rfl 1 rfl ?_
  refine z_iconst hC dX8_isSaid_1 kI_2 ?_
  refine z_aload_n hC dX8_isSaid_2 rfl 0 rfl ?_
  refine gM_X8_19_o (v := (M_letters u)) hC dX8_isSaid_3 rfl ?_
  refine z_imul hC dX8_isSaid_6 ?_
  refine z_icmp_ge (tgt := 14) hC hm dX8_isSaid_7 (by decide) (fun hm => ?_) (fun hm => ?_)
  · refine z_iconst hC dX8_isSaid_14 kI_0 ?_
    exact z_iret hC hr rfl dX8_isSaid_15 (fun _ _ => trivial) hm
  · refine z_iconst hC dX8_isSaid_10 kI_1 ?_
    refine z_goto (tgt := 15) hC dX8_isSaid_11 (by decide) ?_
    exact z_iret hC hr rfl dX8_isSaid_15 (fun _ _ => trivial) hm
theorem xM_X8_233 {p : Program} {l : Launch} {e : Env} {s : State} {m : MethodId} {args : Array Value} {below : List Frame} {meth : Method} {c : Code} {Q : State → Prop} {D : va_G} {A : Nat → Prop} {cc : ByteArray} {nL : Nat} {lv : List (Nat × Value)} {pc : Nat} {st : List Value} {cA : Nat → ClassId} {ad : Nat → Nat} {E : zEt} {d : Nat} {x1 : Int32} {x2 : Int32} {u : SM} (hI : zInj ad 23) (C : zC p s m args meth c cc nL RX8 zTS D (zTy cA) A E) (hdm : 0 + 1 ≤ d) (hd : decode cc pc = .ok (.invokevirtual 233, 3)) (h8 : (st.map fun v => v.category).sum ≤ 8) (g : zG p l e (zRm d) s m args below meth c nL D A Q (wM cA ad u) lv (pc + 3) (.int (mM_apart x1 x2) :: st)) : zG p l e (zRm d) s m args below meth c nL D A Q (wM cA ad u) lv pc (.int x2 :: .int x1 :: .ref (ad 0) :: st) :=
  z_calliV C (cM_apart hI x1 x2 u rfl) (cwX8_233 C.1.2.2.2.2 rfl rfl ⟨hdm, by have := hdm; simp only [zRm]; omega⟩) hd rfl rfl h8 ⟨_, rfl, rfl⟩ (List.mem_of_getElem? (heM_o cA ad u)) (fun _ h => h) (fun _ h => h.elim) zJ_ro g
theorem aM_kind {p : Program} {l : Launch} {e : Env} {R : Room} {s : State} {m : MethodId} {args : Array Value} {below : List Frame} {meth : Method} {c : Code} {Q : State → Prop} {D : va_G} {A : Nat → Prop} {cc : ByteArray} {nL : Nat} {lv : List (Nat × Value)} {pc : Nat} {st : List Value} {cA : Nat → ClassId} {ad : Nat → Nat} {E : zEt} {own : String} {u : SM} {i : Int32} {β : Type} {k : Option β} {r : β} (C : zC p s m args meth c cc nL own zTS D (zTy cA) A E) (hm : zgi i 10 k = some r) (hd : decode cc pc = .ok (.iaload, 1)) (g : k = some r → zG p l e R s m args below meth c nL D A Q (wM cA ad u) lv (pc + 1) (.int (M_kind u i.toNatClampNeg) :: st)) : zG p l e R s m args below meth c nL D A Q (wM cA ad u) lv pc (.int i :: .ref (ad 14) :: st) := fun H locs ls hP hS hL => va_iald C.1.1 C.1.2.1 C.2.1 hP 14 0 (heM_kind cA ad u) rfl (zgi_some hm).1 hd (g (zgi_some hm).2 H locs ls hP hS hL)
theorem xM_X8_236 {p : Program} {l : Launch} {e : Env} {s : State} {m : MethodId} {args : Array Value} {below : List Frame} {meth : Method} {c : Code} {Q : State → Prop} {D : va_G} {A : Nat → Prop} {cc : ByteArray} {nL : Nat} {lv : List (Nat × Value)} {pc : Nat} {st : List Value} {cA : Nat → ClassId} {ad : Nat → Nat} {E : zEt} {d : Nat} {x1 : Int32} {u : SM} (hI : zInj ad 23) (C : zC p s m args meth c cc nL RX8 zTS D (zTy cA) A E) (hdm : 0 + 1 ≤ d) (hd : decode cc pc = .ok (.invokevirtual 236, 3)) (h8 : (st.map fun v => v.category).sum ≤ 8) (g : zG p l e (zRm d) s m args below meth c nL D A Q (wM cA ad u) lv (pc + 3) (.int (mM_isSaid x1 u) :: st)) : zG p l e (zRm d) s m args below meth c nL D A Q (wM cA ad u) lv pc (.int x1 :: .ref (ad 0) :: st) :=
  z_calliV C (cM_isSaid hI x1 u rfl) (cwX8_236 C.1.2.2.2.2 rfl rfl ⟨hdm, by have := hdm; simp only [zRm]; omega⟩) hd rfl rfl h8 ⟨_, rfl, rfl⟩ (List.mem_of_getElem? (heM_o cA ad u)) (fun _ h => h) (fun _ h => h.elim) zJ_ro g
theorem aM_letter {p : Program} {l : Launch} {e : Env} {R : Room} {s : State} {m : MethodId} {args : Array Value} {below : List Frame} {meth : Method} {c : Code} {Q : State → Prop} {D : va_G} {A : Nat → Prop} {cc : ByteArray} {nL : Nat} {lv : List (Nat × Value)} {pc : Nat} {st : List Value} {cA : Nat → ClassId} {ad : Nat → Nat} {E : zEt} {own : String} {u : SM} {i : Int32} {β : Type} {k : Option β} {r : β} (C : zC p s m args meth c cc nL own zTS D (zTy cA) A E) (hm : zgi i 20 k = some r) (hd : decode cc pc = .ok (.iaload, 1)) (g : k = some r → zG p l e R s m args below meth c nL D A Q (wM cA ad u) lv (pc + 1) (.int (M_letter u i.toNatClampNeg) :: st)) : zG p l e R s m args below meth c nL D A Q (wM cA ad u) lv pc (.int i :: .ref (ad 3) :: st) := fun H locs ls hP hS hL => va_iald C.1.1 C.1.2.1 C.2.1 hP 3 0 (heM_letter cA ad u) rfl (zgi_some hm).1 hd (g (zgi_some hm).2 H locs ls hP hS hL)
def mM_factOf (x1 : Int32) (x2 : Int32) (x3 : Int32) (x4 : Int32) (u : SM) : Option Int32 :=
  if x1 = (0 : Int32) then (zgi x3 8 (some ((M_far u) (x3).toNatClampNeg))) else (if x1 = (1 : Int32) then (zgi x3 8 (some (mM_apart ((M_side u) (x3).toNatClampNeg) (M_mouth u)))) else (if x1 = (2 : Int32) then (zgi x2 10 (some ((M_kind u) (x2).toNatClampNeg))) else (if x1 = (3 : Int32) then (if (mM_isSaid x4 u) = 0 then (some (99 : Int32)) else (zgi (x4 / (2 : Int32)) 20 (some ((M_letter u) ((x4 / (2 : Int32))).toNatClampNeg)))) else (some x4))))
set_option maxRecDepth 100000 in
set_option maxHeartbeats 4000000 in
theorem cM_factOf {l : Launch} {D : va_G} {cA : Nat → ClassId} {ad : Nat → Nat} {E : zEt} (hI : zInj ad 23) (x1 : Int32) (x2 : Int32) (x3 : Int32) (x4 : Int32) (u : SM) {r : Int32} (hm : mM_factOf x1 x2 x3 x4 u = some r) : Met l yX8_factOf (zWs yX8_factOf cX8_factOf 5 (some .int)) (zRm 1) (va_Pc [.ref (ad 0), .int x1, .int x2, .int x3, .int x4] (zPre D (zTy cA) E zA0 (wM cA ad u))) (zQi r zB0 zA0) 0 0 zA0 := by
  refine z_met (lv := [(0, .ref (ad 0)), (1, .int x1), (2, .int x2), (3, .int x3), (4, .int x4)]) plX8 rfl rfl (Nat.le_of_ble_eq_true rfl) rfl ?_
  intro p e s m below meth c hC hr hin
  unfold mM_factOf at hm
  refine z_iload_n hC dX8_factOf_0 rfl 1 rfl ?_
  refine z_ite hm (fun h1_0 hm => ?_) (fun h1_0 hm => ?_)
  · refine z_tin hC dX8_factOf_1 h1_0 kc_0 (by decide) (by decide) (off := 31) rfl (tgt := 32) (by decide) ?_
    refine z_aload_n hC dX8_factOf_32 rfl 0 rfl ?_
    refine gM_X8_29_o hC dX8_factOf_33 ?_
    refine z_iload_n hC dX8_factOf_36 rfl 3 rfl ?_
    refine aM_far hC hm dX8_factOf_37 (fun hm => ?_)
    exact z_iret hC hr rfl dX8_factOf_38 (fun _ _ => trivial) (Option.some.inj hm)
  · refine z_ite hm (fun h1_1 hm => ?_) (fun h1_1 hm => ?_)
    · refine z_tin hC dX8_factOf_1 h1_1 kc_1 (by decide) (by decide) (off := 38) rfl (tgt := 39) (by decide) ?_
      refine z_aload_n hC dX8_factOf_39 rfl 0 rfl ?_
      refine z_aload_n hC dX8_factOf_40 rfl 0 rfl ?_
      refine gM_X8_33_o hC dX8_factOf_41 ?_
      refine z_iload_n hC dX8_factOf_44 rfl 3 rfl ?_
      refine aM_side hC hm dX8_factOf_45 (fun hm => ?_)
      refine z_aload_n hC dX8_factOf_46 rfl 0 rfl ?_
      refine gM_X8_7_o (v := (M_mouth u)) hC dX8_factOf_47 rfl ?_
      refine xM_X8_233 hI hC (Nat.le_of_ble_eq_true rfl) dX8_factOf_50 (Nat.le_of_ble_eq_true rfl) ?_
      exact z_iret hC hr rfl dX8_factOf_53 (fun _ _ => trivial) (Option.some.inj hm)
    · refine z_ite hm (fun h1_2 hm => ?_) (fun h1_2 hm => ?_)
      · refine z_tin hC dX8_factOf_1 h1_2 kc_2 (by decide) (by decide) (off := 53) rfl (tgt := 54) (by decide) ?_
        refine z_aload_n hC dX8_factOf_54 rfl 0 rfl ?_
        refine gM_X8_96_o hC dX8_factOf_55 ?_
        refine z_iload_n hC dX8_factOf_58 rfl 2 rfl ?_
        refine aM_kind hC hm dX8_factOf_59 (fun hm => ?_)
        exact z_iret hC hr rfl dX8_factOf_60 (fun _ _ => trivial) (Option.some.inj hm)
      · refine z_ite hm (fun h1_3 hm => ?_) (fun h1_3 hm => ?_)
        · refine z_tin hC dX8_factOf_1 h1_3 kc_3 (by decide) (by decide) (off := 60) rfl (tgt := 61) (by decide) ?_
          refine z_aload_n hC dX8_factOf_61 rfl 0 rfl ?_
          refine z_iload hC dX8_factOf_62 4 rfl ?_
          refine xM_X8_236 hI hC (Nat.le_of_ble_eq_true rfl) dX8_factOf_64 (Nat.le_of_ble_eq_true rfl) ?_
          refine z_if_eq (tgt := 82) hC hm dX8_factOf_67 (by decide) (fun hm => ?_) (fun hm => ?_)
          · refine z_bipush hC dX8_factOf_82 kB_99 ?_
            exact z_iret hC hr rfl dX8_factOf_84 (fun _ _ => trivial) (Option.some.inj hm)
          · refine z_aload_n hC dX8_factOf_70 rfl 0 rfl ?_
            refine gM_X8_36_o hC dX8_factOf_71 ?_
            refine z_iload hC dX8_factOf_74 4 rfl ?_
            refine z_iconst hC dX8_factOf_76 kI_2 ?_
            refine z_idiv hC dX8_factOf_77 (by decide) ?_
            refine aM_letter hC hm dX8_factOf_78 (fun hm => ?_)
            refine z_goto (tgt := 84) hC dX8_factOf_79 (by decide) ?_
            exact z_iret hC hr rfl dX8_factOf_84 (fun _ _ => trivial) (Option.some.inj hm)
        · refine z_tout (n := 4) hC dX8_factOf_1 (z_allc (z_tneq kc_0 h1_0) (z_allc (z_tneq kc_1 h1_1) (z_allc (z_tneq kc_2 h1_2) (z_allc (z_tneq kc_3 h1_3) z_all0)))) (by decide) (tgt := 85) (by decide) ?_
          refine z_iload hC dX8_factOf_85 4 rfl ?_
          exact z_iret hC hr rfl dX8_factOf_87 (fun _ _ => trivial) (Option.some.inj hm)
theorem aM_from {p : Program} {l : Launch} {e : Env} {R : Room} {s : State} {m : MethodId} {args : Array Value} {below : List Frame} {meth : Method} {c : Code} {Q : State → Prop} {D : va_G} {A : Nat → Prop} {cc : ByteArray} {nL : Nat} {lv : List (Nat × Value)} {pc : Nat} {st : List Value} {cA : Nat → ClassId} {ad : Nat → Nat} {E : zEt} {own : String} {u : SM} {i : Int32} {β : Type} {k : Option β} {r : β} (C : zC p s m args meth c cc nL own zTS D (zTy cA) A E) (hm : zgi i 50 k = some r) (hd : decode cc pc = .ok (.iaload, 1)) (g : k = some r → zG p l e R s m args below meth c nL D A Q (wM cA ad u) lv (pc + 1) (.int (M_from u i.toNatClampNeg) :: st)) : zG p l e R s m args below meth c nL D A Q (wM cA ad u) lv pc (.int i :: .ref (ad 9) :: st) := fun H locs ls hP hS hL => va_iald C.1.1 C.1.2.1 C.2.1 hP 9 0 (heM_from cA ad u) rfl (zgi_some hm).1 hd (g (zgi_some hm).2 H locs ls hP hS hL)
theorem aM_to {p : Program} {l : Launch} {e : Env} {R : Room} {s : State} {m : MethodId} {args : Array Value} {below : List Frame} {meth : Method} {c : Code} {Q : State → Prop} {D : va_G} {A : Nat → Prop} {cc : ByteArray} {nL : Nat} {lv : List (Nat × Value)} {pc : Nat} {st : List Value} {cA : Nat → ClassId} {ad : Nat → Nat} {E : zEt} {own : String} {u : SM} {i : Int32} {β : Type} {k : Option β} {r : β} (C : zC p s m args meth c cc nL own zTS D (zTy cA) A E) (hm : zgi i 50 k = some r) (hd : decode cc pc = .ok (.iaload, 1)) (g : k = some r → zG p l e R s m args below meth c nL D A Q (wM cA ad u) lv (pc + 1) (.int (M_to u i.toNatClampNeg) :: st)) : zG p l e R s m args below meth c nL D A Q (wM cA ad u) lv pc (.int i :: .ref (ad 10) :: st) := fun H locs ls hP hS hL => va_iald C.1.1 C.1.2.1 C.2.1 hP 10 0 (heM_to cA ad u) rfl (zgi_some hm).1 hd (g (zgi_some hm).2 H locs ls hP hS hL)
theorem gM_X8_102_o {p : Program} {l : Launch} {e : Env} {R : Room} {s : State} {m : MethodId} {args : Array Value} {below : List Frame} {meth : Method} {c : Code} {Q : State → Prop} {D : va_G} {A : Nat → Prop} {cc : ByteArray} {nL : Nat} {lv : List (Nat × Value)} {pc : Nat} {st : List Value} {cA : Nat → ClassId} {ad : Nat → Nat} {E : zEt} {u : SM} (C : zC p s m args meth c cc nL RX8 zTS D (zTy cA) A E) (hd : decode cc pc = .ok (.getfield 102, 3)) (g : zG p l e R s m args below meth c nL D A Q (wM cA ad u) lv (pc + 3) (.ref (ad 16) :: st)) : zG p l e R s m args below meth c nL D A Q (wM cA ad u) lv pc (.ref (ad 0) :: st) := by
  exact fun H locs ls hP hS hL => va_get (D := D) (ci := 8) (C := RX8) (T := TX8) (N := 45) C.1.1 C.1.2.1 C.1.2.2.2.2 inlX8 C.1.2.2.2.1 C.2.1 hP 0 (heM_o cA ad u) rfl 30 (by decide) (C.1.2.2.2.2 _ mfX8_102) (fun _ h9 => h9) (v := .ref (ad 16)) rfl hd (g H locs ls hP hS hL)
theorem aM_pile {p : Program} {l : Launch} {e : Env} {R : Room} {s : State} {m : MethodId} {args : Array Value} {below : List Frame} {meth : Method} {c : Code} {Q : State → Prop} {D : va_G} {A : Nat → Prop} {cc : ByteArray} {nL : Nat} {lv : List (Nat × Value)} {pc : Nat} {st : List Value} {cA : Nat → ClassId} {ad : Nat → Nat} {E : zEt} {own : String} {u : SM} {i : Int32} {β : Type} {k : Option β} {r : β} (C : zC p s m args meth c cc nL own zTS D (zTy cA) A E) (hm : zgi i 100 k = some r) (hd : decode cc pc = .ok (.baload, 1)) (g : k = some r → zG p l e R s m args below meth c nL D A Q (wM cA ad u) lv (pc + 1) (.int (M_pile u i.toNatClampNeg) :: st)) : zG p l e R s m args below meth c nL D A Q (wM cA ad u) lv pc (.int i :: .ref (ad 16) :: st) := fun H locs ls hP hS hL => va_zald C.1.1 C.1.2.1 C.2.1 hP 16 2 (heM_pile cA ad u) rfl (zgi_some hm).1 hd (g (zgi_some hm).2 H locs ls hP hS hL)
def M_put_pile (p : (Nat → Int32)) (u : SM) : SM := (u.1, (u.2.1, ((u.2.2.1.1, (u.2.2.1.2.1, (u.2.2.1.2.2.1, p))), u.2.2.2)))
theorem aM_sign {p : Program} {l : Launch} {e : Env} {R : Room} {s : State} {m : MethodId} {args : Array Value} {below : List Frame} {meth : Method} {c : Code} {Q : State → Prop} {D : va_G} {A : Nat → Prop} {cc : ByteArray} {nL : Nat} {lv : List (Nat × Value)} {pc : Nat} {st : List Value} {cA : Nat → ClassId} {ad : Nat → Nat} {E : zEt} {own : String} {u : SM} {i : Int32} {β : Type} {k : Option β} {r : β} (C : zC p s m args meth c cc nL own zTS D (zTy cA) A E) (hm : zgi i 500 k = some r) (hd : decode cc pc = .ok (.iaload, 1)) (g : k = some r → zG p l e R s m args below meth c nL D A Q (wM cA ad u) lv (pc + 1) (.int (M_sign u i.toNatClampNeg) :: st)) : zG p l e R s m args below meth c nL D A Q (wM cA ad u) lv pc (.int i :: .ref (ad 11) :: st) := fun H locs ls hP hS hL => va_iald C.1.1 C.1.2.1 C.2.1 hP 11 0 (heM_sign cA ad u) rfl (zgi_some hm).1 hd (g (zgi_some hm).2 H locs ls hP hS hL)
theorem sM_pile {p : Program} {l : Launch} {e : Env} {R : Room} {s : State} {m : MethodId} {args : Array Value} {below : List Frame} {meth : Method} {c : Code} {Q : State → Prop} {D : va_G} {A : Nat → Prop} {cc : ByteArray} {nL : Nat} {lv : List (Nat × Value)} {pc : Nat} {st : List Value} {cA : Nat → ClassId} {ad : Nat → Nat} {E : zEt} {own : String} {u : SM} {i : Int32} {x : Int32} {β : Type} {k : Option β} {r : β} (C : zC p s m args meth c cc nL own zTS D (zTy cA) A E) (hI : zInj ad 23) (hA : ∀ q, zAd ad 23 q → A q) (hm : zgi i 100 k = some r) (hd : decode cc pc = .ok (.bastore, 1)) (g : k = some r → zG p l e R s m args below meth c nL D A Q (wM cA ad (M_set_pile (upd (M_pile u) i.toNatClampNeg (vp_nar .boolean x)) u)) lv (pc + 1) st) : zG p l e R s m args below meth c nL D A Q (wM cA ad u) lv pc (.int x :: .int i :: .ref (ad 16) :: st) := fun H locs ls hP hS hL => va_zast C.1.1 C.1.2.1 C.2.1 hP (zD_mono (wM_D hI cA u) hA) hS 16 2 (heM_pile cA ad u) rfl (zgi_some hm).1 hd (fun H1 locs1 hP1 _ hS1 => g (zgi_some hm).2 H1 locs1 ls hP1 hS1 hL)
theorem xM_X8_239 {p : Program} {l : Launch} {e : Env} {s : State} {m : MethodId} {args : Array Value} {below : List Frame} {meth : Method} {c : Code} {Q : State → Prop} {D : va_G} {A : Nat → Prop} {cc : ByteArray} {nL : Nat} {lv : List (Nat × Value)} {pc : Nat} {st : List Value} {cA : Nat → ClassId} {ad : Nat → Nat} {E : zEt} {d : Nat} {x1 : Int32} {x2 : Int32} {x3 : Int32} {x4 : Int32} {u : SM} (hI : zInj ad 23) (C : zC p s m args meth c cc nL RX8 zTS D (zTy cA) A E) (hdm : 1 + 1 ≤ d) {β : Type} {f : Int32 → Option β} {o : β} (hm : (mM_factOf x1 x2 x3 x4 u).bind f = some o) (hd : decode cc pc = .ok (.invokevirtual 239, 3)) (h8 : (st.map fun v => v.category).sum ≤ 8) (g : ∀ q, f q = some o → zG p l e (zRm d) s m args below meth c nL D A Q (wM cA ad u) lv (pc + 3) (.int q :: st)) : zG p l e (zRm d) s m args below meth c nL D A Q (wM cA ad u) lv pc (.int x4 :: .int x3 :: .int x2 :: .int x1 :: .ref (ad 0) :: st) := by
  obtain ⟨q, h1, h2⟩ := zb_some hm
  exact z_calliV C (cM_factOf hI x1 x2 x3 x4 u h1) (cwX8_239 C.1.2.2.2.2 rfl rfl ⟨hdm, by have := hdm; simp only [zRm]; omega⟩) hd rfl rfl h8 ⟨_, rfl, rfl⟩ (List.mem_of_getElem? (heM_o cA ad u)) (fun _ h => h) (fun _ h => h.elim) zJ_ro (g q h2)
def mM_holds_L11 (x1 : Int32) (x2 : Int32) (x3 : Int32) (x4 : Int32) : Nat → Int32 → Int32 → SM → Option (Int32 × (Nat → Int32))
  | 0, _, _, _ => none
  | n + 1, x5, x6, u => zgi x1 50 (if ((M_to u) (x1).toNatClampNeg) ≤ x6 then (zgi (0 : Int32) 100 (zgb ((M_pile u) ((0 : Int32)).toNatClampNeg) (some (((M_pile u) ((0 : Int32)).toNatClampNeg), ((M_pile u)))))) else (zgi x6 500 (if ((M_sign u) (x6).toNatClampNeg) = (-33 : Int32) then (zgi (x5 - (1 : Int32)) 100 (if ((M_pile u) ((x5 - (1 : Int32))).toNatClampNeg) = 0 then (zgi (x5 - (1 : Int32)) 100 (mM_holds_L11 x1 x2 x3 x4 n x5 (x6 + (1 : Int32)) (M_put_pile ((upd (M_pile u) ((x5 - (1 : Int32))).toNatClampNeg (vp_nar .boolean (1 : Int32)))) u))) else (zgi (x5 - (1 : Int32)) 100 (mM_holds_L11 x1 x2 x3 x4 n x5 (x6 + (1 : Int32)) (M_put_pile ((upd (M_pile u) ((x5 - (1 : Int32))).toNatClampNeg (vp_nar .boolean (0 : Int32)))) u))))) else (if 0 ≤ ((M_sign u) (x6).toNatClampNeg) then ((mM_factOf (((M_sign u) (x6).toNatClampNeg) / (1000 : Int32)) x2 x3 x4 u).bind fun q1 => (if ((((M_sign u) (x6).toNatClampNeg) / (100 : Int32)) - (((M_sign u) (x6).toNatClampNeg) / (100 : Int32)) / (10 : Int32) * (10 : Int32)) = 0 then (if (((M_sign u) (x6).toNatClampNeg) - ((M_sign u) (x6).toNatClampNeg) / (100 : Int32) * (100 : Int32)) ≤ q1 then (zgi x5 100 (mM_holds_L11 x1 x2 x3 x4 n (x5 + (1 : Int32)) (x6 + (1 : Int32)) (M_put_pile ((upd (M_pile u) (x5).toNatClampNeg (vp_nar .boolean (0 : Int32)))) u))) else (zgi x5 100 (mM_holds_L11 x1 x2 x3 x4 n (x5 + (1 : Int32)) (x6 + (1 : Int32)) (M_put_pile ((upd (M_pile u) (x5).toNatClampNeg (vp_nar .boolean (1 : Int32)))) u)))) else (if ((((M_sign u) (x6).toNatClampNeg) / (100 : Int32)) - (((M_sign u) (x6).toNatClampNeg) / (100 : Int32)) / (10 : Int32) * (10 : Int32)) = (1 : Int32) then (if q1 = (((M_sign u) (x6).toNatClampNeg) - ((M_sign u) (x6).toNatClampNeg) / (100 : Int32) * (100 : Int32)) then (zgi x5 100 (mM_holds_L11 x1 x2 x3 x4 n (x5 + (1 : Int32)) (x6 + (1 : Int32)) (M_put_pile ((upd (M_pile u) (x5).toNatClampNeg (vp_nar .boolean (1 : Int32)))) u))) else (zgi x5 100 (mM_holds_L11 x1 x2 x3 x4 n (x5 + (1 : Int32)) (x6 + (1 : Int32)) (M_put_pile ((upd (M_pile u) (x5).toNatClampNeg (vp_nar .boolean (0 : Int32)))) u)))) else (if q1 ≤ (((M_sign u) (x6).toNatClampNeg) - ((M_sign u) (x6).toNatClampNeg) / (100 : Int32) * (100 : Int32)) then (zgi x5 100 (mM_holds_L11 x1 x2 x3 x4 n (x5 + (1 : Int32)) (x6 + (1 : Int32)) (M_put_pile ((upd (M_pile u) (x5).toNatClampNeg (vp_nar .boolean (0 : Int32)))) u))) else (zgi x5 100 (mM_holds_L11 x1 x2 x3 x4 n (x5 + (1 : Int32)) (x6 + (1 : Int32)) (M_put_pile ((upd (M_pile u) (x5).toNatClampNeg (vp_nar .boolean (1 : Int32)))) u))))))) else (if ((M_sign u) (x6).toNatClampNeg) = (-38 : Int32) then (zgi ((x5 + (-1 : Int32)) - (1 : Int32)) 100 (if ((M_pile u) (((x5 + (-1 : Int32)) - (1 : Int32))).toNatClampNeg) = 0 then (zgi ((x5 + (-1 : Int32)) - (1 : Int32)) 100 (mM_holds_L11 x1 x2 x3 x4 n (x5 + (-1 : Int32)) (x6 + (1 : Int32)) (M_put_pile ((upd (M_pile u) (((x5 + (-1 : Int32)) - (1 : Int32))).toNatClampNeg (vp_nar .boolean (0 : Int32)))) u))) else (zgi (x5 + (-1 : Int32)) 100 (if ((M_pile u) ((x5 + (-1 : Int32))).toNatClampNeg) = 0 then (zgi ((x5 + (-1 : Int32)) - (1 : Int32)) 100 (mM_holds_L11 x1 x2 x3 x4 n (x5 + (-1 : Int32)) (x6 + (1 : Int32)) (M_put_pile ((upd (M_pile u) (((x5 + (-1 : Int32)) - (1 : Int32))).toNatClampNeg (vp_nar .boolean (0 : Int32)))) u))) else (zgi ((x5 + (-1 : Int32)) - (1 : Int32)) 100 (mM_holds_L11 x1 x2 x3 x4 n (x5 + (-1 : Int32)) (x6 + (1 : Int32)) (M_put_pile ((upd (M_pile u) (((x5 + (-1 : Int32)) - (1 : Int32))).toNatClampNeg (vp_nar .boolean (1 : Int32)))) u))))))) else (zgi ((x5 + (-1 : Int32)) - (1 : Int32)) 100 (if ((M_pile u) (((x5 + (-1 : Int32)) - (1 : Int32))).toNatClampNeg) = 0 then (zgi (x5 + (-1 : Int32)) 100 (if ((M_pile u) ((x5 + (-1 : Int32))).toNatClampNeg) = 0 then (zgi ((x5 + (-1 : Int32)) - (1 : Int32)) 100 (mM_holds_L11 x1 x2 x3 x4 n (x5 + (-1 : Int32)) (x6 + (1 : Int32)) (M_put_pile ((upd (M_pile u) (((x5 + (-1 : Int32)) - (1 : Int32))).toNatClampNeg (vp_nar .boolean (0 : Int32)))) u))) else (zgi ((x5 + (-1 : Int32)) - (1 : Int32)) 100 (mM_holds_L11 x1 x2 x3 x4 n (x5 + (-1 : Int32)) (x6 + (1 : Int32)) (M_put_pile ((upd (M_pile u) (((x5 + (-1 : Int32)) - (1 : Int32))).toNatClampNeg (vp_nar .boolean (1 : Int32)))) u))))) else (zgi ((x5 + (-1 : Int32)) - (1 : Int32)) 100 (mM_holds_L11 x1 x2 x3 x4 n (x5 + (-1 : Int32)) (x6 + (1 : Int32)) (M_put_pile ((upd (M_pile u) (((x5 + (-1 : Int32)) - (1 : Int32))).toNatClampNeg (vp_nar .boolean (1 : Int32)))) u))))))))))
set_option maxRecDepth 100000 in
set_option maxHeartbeats 4000000 in
theorem lM_holds_11 {l : Launch} {D : va_G} {cA : Nat → ClassId} {ad : Nat → Nat} {p : Program} {e : Env} {s : State} {m : MethodId} {args : Array Value} {below : List Frame} {meth : Method} {c : Code} {E : zEt} {r : Int32} {w' : (Nat → Int32)}  {x1 : Int32} {x2 : Int32} {x3 : Int32} {x4 : Int32} (hI : zInj ad 23) (hC : zC p s m args meth c cX8_holds 10 RX8 zTS D (zTy cA) (zAd ad 23) E) (hr : meth.sig.returnType = (some .boolean)) : ∀ (n : Nat) (x5 : Int32) (x6 : Int32) (u : SM), mM_holds_L11 x1 x2 x3 x4 n x5 x6 u = some (r, w') → zG p l e (zRm 2) s m args below meth c 10 D (zAd ad 23) (MQ below (zQi r (zBw D (wM cA ad (M_put_pile w' u))) (zAd ad 23)) args s 0 0 (zAd ad 23)) (wM cA ad u) [(0, .ref (ad 0)), (1, .int x1), (2, .int x2), (3, .int x3), (4, .int x4), (5, .int x5), (6, .int x6)] 11 [] := by
  intro n
  induction n with
  | zero => intro x5 x6 u hm; exact z_none hm
  | succ n ih =>
    intro x5 x6 u hm
    rw [mM_holds_L11] at hm
    refine z_iload hC dX8_holds_11 6 rfl ?_
    refine z_aload_n hC dX8_holds_13 rfl 0 rfl ?_
    refine gM_X8_72_o hC dX8_holds_14 ?_
    refine z_iload_n hC dX8_holds_17 rfl 1 rfl ?_
    refine aM_to hC hm dX8_holds_18 (fun hm => ?_)
    refine z_icmp_ge (tgt := 255) hC hm dX8_holds_19 (by decide) (fun hm => ?_) (fun hm => ?_)
    · refine z_aload_n hC dX8_holds_255 rfl 0 rfl ?_
      refine gM_X8_102_o hC dX8_holds_256 ?_
      refine z_iconst hC dX8_holds_259 kI_0 ?_
      refine aM_pile hC hm dX8_holds_260 (fun hm => ?_)
      refine z_g (zgb_some hm) (fun hb hm => ?_)
      exact riM (fin := fun z => M_put_pile z u) hC hr (zb_nar hb) dX8_holds_261 hm rfl
    · refine z_aload_n hC dX8_holds_22 rfl 0 rfl ?_
      refine gM_X8_75_o hC dX8_holds_23 ?_
      refine z_iload hC dX8_holds_26 6 rfl ?_
      refine aM_sign hC hm dX8_holds_28 (fun hm => ?_)
      refine z_istore (lv' := [(7, .int ((M_sign u) (x6).toNatClampNeg)), (0, .ref (ad 0)), (1, .int x1), (2, .int x2), (3, .int x3), (4, .int x4), (5, .int x5), (6, .int x6)]) hC dX8_holds_29 (by decide) rfl ?_
      refine z_iload hC dX8_holds_31 0 rfl ?_
      refine z_bipush hC dX8_holds_33 kB_m33 ?_
      refine z_icmp_ne (tgt := 67) hC hm dX8_holds_35 (by decide) (fun hm => ?_) (fun hm => ?_)
      · refine z_aload_n hC dX8_holds_38 rfl 1 rfl ?_
        refine gM_X8_102_o hC dX8_holds_39 ?_
        refine z_iload hC dX8_holds_42 6 rfl ?_
        refine z_iconst hC dX8_holds_44 kI_1 ?_
        refine z_isub hC dX8_holds_45 ?_
        refine z_aload_n hC dX8_holds_46 rfl 1 rfl ?_
        refine gM_X8_102_o hC dX8_holds_47 ?_
        refine z_iload hC dX8_holds_50 6 rfl ?_
        refine z_iconst hC dX8_holds_52 kI_1 ?_
        refine z_isub hC dX8_holds_53 ?_
        refine aM_pile hC hm dX8_holds_54 (fun hm => ?_)
        refine z_if_ne (tgt := 62) hC hm dX8_holds_55 (by decide) (fun hm => ?_) (fun hm => ?_)
        · refine z_iconst hC dX8_holds_58 kI_1 ?_
          refine z_goto (tgt := 63) hC dX8_holds_59 (by decide) ?_
          refine sM_pile hC hI (fun _ h => h) hm dX8_holds_63 (fun hm => ?_)
          refine zuM (u2 := (M_put_pile ((upd (M_pile u) ((x5 - (1 : Int32))).toNatClampNeg (vp_nar .boolean (1 : Int32)))) u)) rfl ?_
          refine z_goto (tgt := 249) hC dX8_holds_64 (by decide) ?_
          refine z_iinc (lv' := [(6, .int (x6 + (1 : Int32))), (7, .int ((M_sign u) (x6).toNatClampNeg)), (0, .ref (ad 0)), (1, .int x1), (2, .int x2), (3, .int x3), (4, .int x4), (5, .int x5)]) (k := 7) (v := (x6 + (1 : Int32))) hC dX8_holds_249 rfl rfl (by decide) rfl ?_
          refine z_goto (tgt := 11) hC dX8_holds_252 (by decide) ?_
          refine z_lv hC [2, 3, 4, 5, 6, 7, 0] rfl ?_
          exact ih _ _ _ hm
        · refine z_iconst hC dX8_holds_62 kI_0 ?_
          refine sM_pile hC hI (fun _ h => h) hm dX8_holds_63 (fun hm => ?_)
          refine zuM (u2 := (M_put_pile ((upd (M_pile u) ((x5 - (1 : Int32))).toNatClampNeg (vp_nar .boolean (0 : Int32)))) u)) rfl ?_
          refine z_goto (tgt := 249) hC dX8_holds_64 (by decide) ?_
          refine z_iinc (lv' := [(6, .int (x6 + (1 : Int32))), (7, .int ((M_sign u) (x6).toNatClampNeg)), (0, .ref (ad 0)), (1, .int x1), (2, .int x2), (3, .int x3), (4, .int x4), (5, .int x5)]) (k := 7) (v := (x6 + (1 : Int32))) hC dX8_holds_249 rfl rfl (by decide) rfl ?_
          refine z_goto (tgt := 11) hC dX8_holds_252 (by decide) ?_
          refine z_lv hC [2, 3, 4, 5, 6, 7, 0] rfl ?_
          exact ih _ _ _ hm
      · refine z_iload hC dX8_holds_67 0 rfl ?_
        refine z_if_ge (tgt := 151) hC hm dX8_holds_69 (by decide) (fun hm => ?_) (fun hm => ?_)
        · refine z_aload_n hC dX8_holds_151 rfl 1 rfl ?_
          refine z_iload hC dX8_holds_152 0 rfl ?_
          refine z_sipush hC dX8_holds_154 kS_1000 ?_
          refine z_idiv hC dX8_holds_157 (by decide) ?_
          refine z_iload_n hC dX8_holds_158 rfl 3 rfl ?_
          refine z_iload_n hC dX8_holds_159 rfl 4 rfl ?_
          refine z_iload hC dX8_holds_160 5 rfl ?_
          refine xM_X8_239 hI hC (Nat.le_of_ble_eq_true rfl) hm dX8_holds_162 (Nat.le_of_ble_eq_true rfl) (fun q1 hm => ?_)
          refine z_istore (lv' := [(8, .int q1), (7, .int ((M_sign u) (x6).toNatClampNeg)), (0, .ref (ad 0)), (1, .int x1), (2, .int x2), (3, .int x3), (4, .int x4), (5, .int x5), (6, .int x6)]) hC dX8_holds_165 (by decide) rfl ?_
          refine z_iload hC dX8_holds_167 1 rfl ?_
          refine z_bipush hC dX8_holds_169 kB_100 ?_
          refine z_idiv hC dX8_holds_171 (by decide) ?_
          refine z_bipush hC dX8_holds_172 kB_10 ?_
          refine z_irem hC dX8_holds_174 (by decide) ?_
          refine z_istore (lv' := [(9, .int ((((M_sign u) (x6).toNatClampNeg) / (100 : Int32)) - (((M_sign u) (x6).toNatClampNeg) / (100 : Int32)) / (10 : Int32) * (10 : Int32))), (8, .int q1), (7, .int ((M_sign u) (x6).toNatClampNeg)), (0, .ref (ad 0)), (1, .int x1), (2, .int x2), (3, .int x3), (4, .int x4), (5, .int x5), (6, .int x6)]) hC dX8_holds_175 (by decide) rfl ?_
          refine z_aload_n hC dX8_holds_177 rfl 3 rfl ?_
          refine gM_X8_102_o hC dX8_holds_178 ?_
          refine z_iload hC dX8_holds_181 8 rfl ?_
          refine z_iload hC dX8_holds_183 0 rfl ?_
          refine z_if_ne (tgt := 206) hC hm dX8_holds_185 (by decide) (fun hm => ?_) (fun hm => ?_)
          · refine z_iload hC dX8_holds_188 1 rfl ?_
            refine z_iload hC dX8_holds_190 2 rfl ?_
            refine z_bipush hC dX8_holds_192 kB_100 ?_
            refine z_irem hC dX8_holds_194 (by decide) ?_
            refine z_icmp_ge (tgt := 202) hC hm dX8_holds_195 (by decide) (fun hm => ?_) (fun hm => ?_)
            · refine z_iconst hC dX8_holds_202 kI_0 ?_
              refine z_goto (tgt := 245) hC dX8_holds_203 (by decide) ?_
              refine sM_pile hC hI (fun _ h => h) hm dX8_holds_245 (fun hm => ?_)
              refine zuM (u2 := (M_put_pile ((upd (M_pile u) (x5).toNatClampNeg (vp_nar .boolean (0 : Int32)))) u)) rfl ?_
              refine z_iinc (lv' := [(5, .int (x5 + (1 : Int32))), (9, .int ((((M_sign u) (x6).toNatClampNeg) / (100 : Int32)) - (((M_sign u) (x6).toNatClampNeg) / (100 : Int32)) / (10 : Int32) * (10 : Int32))), (8, .int q1), (7, .int ((M_sign u) (x6).toNatClampNeg)), (0, .ref (ad 0)), (1, .int x1), (2, .int x2), (3, .int x3), (4, .int x4), (6, .int x6)]) (k := 8) (v := (x5 + (1 : Int32))) hC dX8_holds_246 rfl rfl (by decide) rfl ?_
              refine z_iinc (lv' := [(6, .int (x6 + (1 : Int32))), (5, .int (x5 + (1 : Int32))), (9, .int ((((M_sign u) (x6).toNatClampNeg) / (100 : Int32)) - (((M_sign u) (x6).toNatClampNeg) / (100 : Int32)) / (10 : Int32) * (10 : Int32))), (8, .int q1), (7, .int ((M_sign u) (x6).toNatClampNeg)), (0, .ref (ad 0)), (1, .int x1), (2, .int x2), (3, .int x3), (4, .int x4)]) (k := 9) (v := (x6 + (1 : Int32))) hC dX8_holds_249 rfl rfl (by decide) rfl ?_
              refine z_goto (tgt := 11) hC dX8_holds_252 (by decide) ?_
              refine z_lv hC [5, 6, 7, 8, 9, 1, 0] rfl ?_
              exact ih _ _ _ hm
            · refine z_iconst hC dX8_holds_198 kI_1 ?_
              refine z_goto (tgt := 245) hC dX8_holds_199 (by decide) ?_
              refine sM_pile hC hI (fun _ h => h) hm dX8_holds_245 (fun hm => ?_)
              refine zuM (u2 := (M_put_pile ((upd (M_pile u) (x5).toNatClampNeg (vp_nar .boolean (1 : Int32)))) u)) rfl ?_
              refine z_iinc (lv' := [(5, .int (x5 + (1 : Int32))), (9, .int ((((M_sign u) (x6).toNatClampNeg) / (100 : Int32)) - (((M_sign u) (x6).toNatClampNeg) / (100 : Int32)) / (10 : Int32) * (10 : Int32))), (8, .int q1), (7, .int ((M_sign u) (x6).toNatClampNeg)), (0, .ref (ad 0)), (1, .int x1), (2, .int x2), (3, .int x3), (4, .int x4), (6, .int x6)]) (k := 8) (v := (x5 + (1 : Int32))) hC dX8_holds_246 rfl rfl (by decide) rfl ?_
              refine z_iinc (lv' := [(6, .int (x6 + (1 : Int32))), (5, .int (x5 + (1 : Int32))), (9, .int ((((M_sign u) (x6).toNatClampNeg) / (100 : Int32)) - (((M_sign u) (x6).toNatClampNeg) / (100 : Int32)) / (10 : Int32) * (10 : Int32))), (8, .int q1), (7, .int ((M_sign u) (x6).toNatClampNeg)), (0, .ref (ad 0)), (1, .int x1), (2, .int x2), (3, .int x3), (4, .int x4)]) (k := 9) (v := (x6 + (1 : Int32))) hC dX8_holds_249 rfl rfl (by decide) rfl ?_
              refine z_goto (tgt := 11) hC dX8_holds_252 (by decide) ?_
              refine z_lv hC [5, 6, 7, 8, 9, 1, 0] rfl ?_
              exact ih _ _ _ hm
          · refine z_iload hC dX8_holds_206 0 rfl ?_
            refine z_iconst hC dX8_holds_208 kI_1 ?_
            refine z_icmp_ne (tgt := 230) hC hm dX8_holds_209 (by decide) (fun hm => ?_) (fun hm => ?_)
            · refine z_iload hC dX8_holds_212 1 rfl ?_
              refine z_iload hC dX8_holds_214 2 rfl ?_
              refine z_bipush hC dX8_holds_216 kB_100 ?_
              refine z_irem hC dX8_holds_218 (by decide) ?_
              refine z_icmp_ne (tgt := 226) hC hm dX8_holds_219 (by decide) (fun hm => ?_) (fun hm => ?_)
              · refine z_iconst hC dX8_holds_222 kI_1 ?_
                refine z_goto (tgt := 245) hC dX8_holds_223 (by decide) ?_
                refine sM_pile hC hI (fun _ h => h) hm dX8_holds_245 (fun hm => ?_)
                refine zuM (u2 := (M_put_pile ((upd (M_pile u) (x5).toNatClampNeg (vp_nar .boolean (1 : Int32)))) u)) rfl ?_
                refine z_iinc (lv' := [(5, .int (x5 + (1 : Int32))), (9, .int ((((M_sign u) (x6).toNatClampNeg) / (100 : Int32)) - (((M_sign u) (x6).toNatClampNeg) / (100 : Int32)) / (10 : Int32) * (10 : Int32))), (8, .int q1), (7, .int ((M_sign u) (x6).toNatClampNeg)), (0, .ref (ad 0)), (1, .int x1), (2, .int x2), (3, .int x3), (4, .int x4), (6, .int x6)]) (k := 8) (v := (x5 + (1 : Int32))) hC dX8_holds_246 rfl rfl (by decide) rfl ?_
                refine z_iinc (lv' := [(6, .int (x6 + (1 : Int32))), (5, .int (x5 + (1 : Int32))), (9, .int ((((M_sign u) (x6).toNatClampNeg) / (100 : Int32)) - (((M_sign u) (x6).toNatClampNeg) / (100 : Int32)) / (10 : Int32) * (10 : Int32))), (8, .int q1), (7, .int ((M_sign u) (x6).toNatClampNeg)), (0, .ref (ad 0)), (1, .int x1), (2, .int x2), (3, .int x3), (4, .int x4)]) (k := 9) (v := (x6 + (1 : Int32))) hC dX8_holds_249 rfl rfl (by decide) rfl ?_
                refine z_goto (tgt := 11) hC dX8_holds_252 (by decide) ?_
                refine z_lv hC [5, 6, 7, 8, 9, 1, 0] rfl ?_
                exact ih _ _ _ hm
              · refine z_iconst hC dX8_holds_226 kI_0 ?_
                refine z_goto (tgt := 245) hC dX8_holds_227 (by decide) ?_
                refine sM_pile hC hI (fun _ h => h) hm dX8_holds_245 (fun hm => ?_)
                refine zuM (u2 := (M_put_pile ((upd (M_pile u) (x5).toNatClampNeg (vp_nar .boolean (0 : Int32)))) u)) rfl ?_
                refine z_iinc (lv' := [(5, .int (x5 + (1 : Int32))), (9, .int ((((M_sign u) (x6).toNatClampNeg) / (100 : Int32)) - (((M_sign u) (x6).toNatClampNeg) / (100 : Int32)) / (10 : Int32) * (10 : Int32))), (8, .int q1), (7, .int ((M_sign u) (x6).toNatClampNeg)), (0, .ref (ad 0)), (1, .int x1), (2, .int x2), (3, .int x3), (4, .int x4), (6, .int x6)]) (k := 8) (v := (x5 + (1 : Int32))) hC dX8_holds_246 rfl rfl (by decide) rfl ?_
                refine z_iinc (lv' := [(6, .int (x6 + (1 : Int32))), (5, .int (x5 + (1 : Int32))), (9, .int ((((M_sign u) (x6).toNatClampNeg) / (100 : Int32)) - (((M_sign u) (x6).toNatClampNeg) / (100 : Int32)) / (10 : Int32) * (10 : Int32))), (8, .int q1), (7, .int ((M_sign u) (x6).toNatClampNeg)), (0, .ref (ad 0)), (1, .int x1), (2, .int x2), (3, .int x3), (4, .int x4)]) (k := 9) (v := (x6 + (1 : Int32))) hC dX8_holds_249 rfl rfl (by decide) rfl ?_
                refine z_goto (tgt := 11) hC dX8_holds_252 (by decide) ?_
                refine z_lv hC [5, 6, 7, 8, 9, 1, 0] rfl ?_
                exact ih _ _ _ hm
            · refine z_iload hC dX8_holds_230 1 rfl ?_
              refine z_iload hC dX8_holds_232 2 rfl ?_
              refine z_bipush hC dX8_holds_234 kB_100 ?_
              refine z_irem hC dX8_holds_236 (by decide) ?_
              refine z_icmp_le (tgt := 244) hC hm dX8_holds_237 (by decide) (fun hm => ?_) (fun hm => ?_)
              · refine z_iconst hC dX8_holds_244 kI_0 ?_
                refine sM_pile hC hI (fun _ h => h) hm dX8_holds_245 (fun hm => ?_)
                refine zuM (u2 := (M_put_pile ((upd (M_pile u) (x5).toNatClampNeg (vp_nar .boolean (0 : Int32)))) u)) rfl ?_
                refine z_iinc (lv' := [(5, .int (x5 + (1 : Int32))), (9, .int ((((M_sign u) (x6).toNatClampNeg) / (100 : Int32)) - (((M_sign u) (x6).toNatClampNeg) / (100 : Int32)) / (10 : Int32) * (10 : Int32))), (8, .int q1), (7, .int ((M_sign u) (x6).toNatClampNeg)), (0, .ref (ad 0)), (1, .int x1), (2, .int x2), (3, .int x3), (4, .int x4), (6, .int x6)]) (k := 8) (v := (x5 + (1 : Int32))) hC dX8_holds_246 rfl rfl (by decide) rfl ?_
                refine z_iinc (lv' := [(6, .int (x6 + (1 : Int32))), (5, .int (x5 + (1 : Int32))), (9, .int ((((M_sign u) (x6).toNatClampNeg) / (100 : Int32)) - (((M_sign u) (x6).toNatClampNeg) / (100 : Int32)) / (10 : Int32) * (10 : Int32))), (8, .int q1), (7, .int ((M_sign u) (x6).toNatClampNeg)), (0, .ref (ad 0)), (1, .int x1), (2, .int x2), (3, .int x3), (4, .int x4)]) (k := 9) (v := (x6 + (1 : Int32))) hC dX8_holds_249 rfl rfl (by decide) rfl ?_
                refine z_goto (tgt := 11) hC dX8_holds_252 (by decide) ?_
                refine z_lv hC [5, 6, 7, 8, 9, 1, 0] rfl ?_
                exact ih _ _ _ hm
              · refine z_iconst hC dX8_holds_240 kI_1 ?_
                refine z_goto (tgt := 245) hC dX8_holds_241 (by decide) ?_
                refine sM_pile hC hI (fun _ h => h) hm dX8_holds_245 (fun hm => ?_)
                refine zuM (u2 := (M_put_pile ((upd (M_pile u) (x5).toNatClampNeg (vp_nar .boolean (1 : Int32)))) u)) rfl ?_
                refine z_iinc (lv' := [(5, .int (x5 + (1 : Int32))), (9, .int ((((M_sign u) (x6).toNatClampNeg) / (100 : Int32)) - (((M_sign u) (x6).toNatClampNeg) / (100 : Int32)) / (10 : Int32) * (10 : Int32))), (8, .int q1), (7, .int ((M_sign u) (x6).toNatClampNeg)), (0, .ref (ad 0)), (1, .int x1), (2, .int x2), (3, .int x3), (4, .int x4), (6, .int x6)]) (k := 8) (v := (x5 + (1 : Int32))) hC dX8_holds_246 rfl rfl (by decide) rfl ?_
                refine z_iinc (lv' := [(6, .int (x6 + (1 : Int32))), (5, .int (x5 + (1 : Int32))), (9, .int ((((M_sign u) (x6).toNatClampNeg) / (100 : Int32)) - (((M_sign u) (x6).toNatClampNeg) / (100 : Int32)) / (10 : Int32) * (10 : Int32))), (8, .int q1), (7, .int ((M_sign u) (x6).toNatClampNeg)), (0, .ref (ad 0)), (1, .int x1), (2, .int x2), (3, .int x3), (4, .int x4)]) (k := 9) (v := (x6 + (1 : Int32))) hC dX8_holds_249 rfl rfl (by decide) rfl ?_
                refine z_goto (tgt := 11) hC dX8_holds_252 (by decide) ?_
                refine z_lv hC [5, 6, 7, 8, 9, 1, 0] rfl ?_
                exact ih _ _ _ hm
        · refine z_iinc (lv' := [(5, .int (x5 + (-1 : Int32))), (7, .int ((M_sign u) (x6).toNatClampNeg)), (0, .ref (ad 0)), (1, .int x1), (2, .int x2), (3, .int x3), (4, .int x4), (6, .int x6)]) (k := 6) (v := (x5 + (-1 : Int32))) hC dX8_holds_72 rfl rfl (by decide) rfl ?_
          refine z_aload_n hC dX8_holds_75 rfl 2 rfl ?_
          refine gM_X8_102_o hC dX8_holds_76 ?_
          refine z_iload hC dX8_holds_79 0 rfl ?_
          refine z_iconst hC dX8_holds_81 kI_1 ?_
          refine z_isub hC dX8_holds_82 ?_
          refine z_iload hC dX8_holds_83 1 rfl ?_
          refine z_bipush hC dX8_holds_85 kB_m38 ?_
          refine z_icmp_ne (tgt := 120) hC hm dX8_holds_87 (by decide) (fun hm => ?_) (fun hm => ?_)
          · refine z_aload_n hC dX8_holds_90 rfl 2 rfl ?_
            refine gM_X8_102_o hC dX8_holds_91 ?_
            refine z_iload hC dX8_holds_94 0 rfl ?_
            refine z_iconst hC dX8_holds_96 kI_1 ?_
            refine z_isub hC dX8_holds_97 ?_
            refine aM_pile hC hm dX8_holds_98 (fun hm => ?_)
            refine z_if_eq (tgt := 116) hC hm dX8_holds_99 (by decide) (fun hm => ?_) (fun hm => ?_)
            · refine z_iconst hC dX8_holds_116 kI_0 ?_
              refine z_goto (tgt := 147) hC dX8_holds_117 (by decide) ?_
              refine sM_pile hC hI (fun _ h => h) hm dX8_holds_147 (fun hm => ?_)
              refine zuM (u2 := (M_put_pile ((upd (M_pile u) (((x5 + (-1 : Int32)) - (1 : Int32))).toNatClampNeg (vp_nar .boolean (0 : Int32)))) u)) rfl ?_
              refine z_goto (tgt := 249) hC dX8_holds_148 (by decide) ?_
              refine z_iinc (lv' := [(6, .int (x6 + (1 : Int32))), (5, .int (x5 + (-1 : Int32))), (7, .int ((M_sign u) (x6).toNatClampNeg)), (0, .ref (ad 0)), (1, .int x1), (2, .int x2), (3, .int x3), (4, .int x4)]) (k := 7) (v := (x6 + (1 : Int32))) hC dX8_holds_249 rfl rfl (by decide) rfl ?_
              refine z_goto (tgt := 11) hC dX8_holds_252 (by decide) ?_
              refine z_lv hC [3, 4, 5, 6, 7, 1, 0] rfl ?_
              exact ih _ _ _ hm
            · refine z_aload_n hC dX8_holds_102 rfl 2 rfl ?_
              refine gM_X8_102_o hC dX8_holds_103 ?_
              refine z_iload hC dX8_holds_106 0 rfl ?_
              refine aM_pile hC hm dX8_holds_108 (fun hm => ?_)
              refine z_if_eq (tgt := 116) hC hm dX8_holds_109 (by decide) (fun hm => ?_) (fun hm => ?_)
              · refine z_iconst hC dX8_holds_116 kI_0 ?_
                refine z_goto (tgt := 147) hC dX8_holds_117 (by decide) ?_
                refine sM_pile hC hI (fun _ h => h) hm dX8_holds_147 (fun hm => ?_)
                refine zuM (u2 := (M_put_pile ((upd (M_pile u) (((x5 + (-1 : Int32)) - (1 : Int32))).toNatClampNeg (vp_nar .boolean (0 : Int32)))) u)) rfl ?_
                refine z_goto (tgt := 249) hC dX8_holds_148 (by decide) ?_
                refine z_iinc (lv' := [(6, .int (x6 + (1 : Int32))), (5, .int (x5 + (-1 : Int32))), (7, .int ((M_sign u) (x6).toNatClampNeg)), (0, .ref (ad 0)), (1, .int x1), (2, .int x2), (3, .int x3), (4, .int x4)]) (k := 7) (v := (x6 + (1 : Int32))) hC dX8_holds_249 rfl rfl (by decide) rfl ?_
                refine z_goto (tgt := 11) hC dX8_holds_252 (by decide) ?_
                refine z_lv hC [3, 4, 5, 6, 7, 1, 0] rfl ?_
                exact ih _ _ _ hm
              · refine z_iconst hC dX8_holds_112 kI_1 ?_
                refine z_goto (tgt := 147) hC dX8_holds_113 (by decide) ?_
                refine sM_pile hC hI (fun _ h => h) hm dX8_holds_147 (fun hm => ?_)
                refine zuM (u2 := (M_put_pile ((upd (M_pile u) (((x5 + (-1 : Int32)) - (1 : Int32))).toNatClampNeg (vp_nar .boolean (1 : Int32)))) u)) rfl ?_
                refine z_goto (tgt := 249) hC dX8_holds_148 (by decide) ?_
                refine z_iinc (lv' := [(6, .int (x6 + (1 : Int32))), (5, .int (x5 + (-1 : Int32))), (7, .int ((M_sign u) (x6).toNatClampNeg)), (0, .ref (ad 0)), (1, .int x1), (2, .int x2), (3, .int x3), (4, .int x4)]) (k := 7) (v := (x6 + (1 : Int32))) hC dX8_holds_249 rfl rfl (by decide) rfl ?_
                refine z_goto (tgt := 11) hC dX8_holds_252 (by decide) ?_
                refine z_lv hC [3, 4, 5, 6, 7, 1, 0] rfl ?_
                exact ih _ _ _ hm
          · refine z_aload_n hC dX8_holds_120 rfl 2 rfl ?_
            refine gM_X8_102_o hC dX8_holds_121 ?_
            refine z_iload hC dX8_holds_124 0 rfl ?_
            refine z_iconst hC dX8_holds_126 kI_1 ?_
            refine z_isub hC dX8_holds_127 ?_
            refine aM_pile hC hm dX8_holds_128 (fun hm => ?_)
            refine z_if_ne (tgt := 142) hC hm dX8_holds_129 (by decide) (fun hm => ?_) (fun hm => ?_)
            · refine z_aload_n hC dX8_holds_132 rfl 2 rfl ?_
              refine gM_X8_102_o hC dX8_holds_133 ?_
              refine z_iload hC dX8_holds_136 0 rfl ?_
              refine aM_pile hC hm dX8_holds_138 (fun hm => ?_)
              refine z_if_eq (tgt := 146) hC hm dX8_holds_139 (by decide) (fun hm => ?_) (fun hm => ?_)
              · refine z_iconst hC dX8_holds_146 kI_0 ?_
                refine sM_pile hC hI (fun _ h => h) hm dX8_holds_147 (fun hm => ?_)
                refine zuM (u2 := (M_put_pile ((upd (M_pile u) (((x5 + (-1 : Int32)) - (1 : Int32))).toNatClampNeg (vp_nar .boolean (0 : Int32)))) u)) rfl ?_
                refine z_goto (tgt := 249) hC dX8_holds_148 (by decide) ?_
                refine z_iinc (lv' := [(6, .int (x6 + (1 : Int32))), (5, .int (x5 + (-1 : Int32))), (7, .int ((M_sign u) (x6).toNatClampNeg)), (0, .ref (ad 0)), (1, .int x1), (2, .int x2), (3, .int x3), (4, .int x4)]) (k := 7) (v := (x6 + (1 : Int32))) hC dX8_holds_249 rfl rfl (by decide) rfl ?_
                refine z_goto (tgt := 11) hC dX8_holds_252 (by decide) ?_
                refine z_lv hC [3, 4, 5, 6, 7, 1, 0] rfl ?_
                exact ih _ _ _ hm
              · refine z_iconst hC dX8_holds_142 kI_1 ?_
                refine z_goto (tgt := 147) hC dX8_holds_143 (by decide) ?_
                refine sM_pile hC hI (fun _ h => h) hm dX8_holds_147 (fun hm => ?_)
                refine zuM (u2 := (M_put_pile ((upd (M_pile u) (((x5 + (-1 : Int32)) - (1 : Int32))).toNatClampNeg (vp_nar .boolean (1 : Int32)))) u)) rfl ?_
                refine z_goto (tgt := 249) hC dX8_holds_148 (by decide) ?_
                refine z_iinc (lv' := [(6, .int (x6 + (1 : Int32))), (5, .int (x5 + (-1 : Int32))), (7, .int ((M_sign u) (x6).toNatClampNeg)), (0, .ref (ad 0)), (1, .int x1), (2, .int x2), (3, .int x3), (4, .int x4)]) (k := 7) (v := (x6 + (1 : Int32))) hC dX8_holds_249 rfl rfl (by decide) rfl ?_
                refine z_goto (tgt := 11) hC dX8_holds_252 (by decide) ?_
                refine z_lv hC [3, 4, 5, 6, 7, 1, 0] rfl ?_
                exact ih _ _ _ hm
            · refine z_iconst hC dX8_holds_142 kI_1 ?_
              refine z_goto (tgt := 147) hC dX8_holds_143 (by decide) ?_
              refine sM_pile hC hI (fun _ h => h) hm dX8_holds_147 (fun hm => ?_)
              refine zuM (u2 := (M_put_pile ((upd (M_pile u) (((x5 + (-1 : Int32)) - (1 : Int32))).toNatClampNeg (vp_nar .boolean (1 : Int32)))) u)) rfl ?_
              refine z_goto (tgt := 249) hC dX8_holds_148 (by decide) ?_
              refine z_iinc (lv' := [(6, .int (x6 + (1 : Int32))), (5, .int (x5 + (-1 : Int32))), (7, .int ((M_sign u) (x6).toNatClampNeg)), (0, .ref (ad 0)), (1, .int x1), (2, .int x2), (3, .int x3), (4, .int x4)]) (k := 7) (v := (x6 + (1 : Int32))) hC dX8_holds_249 rfl rfl (by decide) rfl ?_
              refine z_goto (tgt := 11) hC dX8_holds_252 (by decide) ?_
              refine z_lv hC [3, 4, 5, 6, 7, 1, 0] rfl ?_
              exact ih _ _ _ hm
def mM_holds (x1 : Int32) (x2 : Int32) (x3 : Int32) (x4 : Int32) (u : SM) : Option (Int32 × (Nat → Int32)) :=
  zgi x1 50 (mM_holds_L11 x1 x2 x3 x4 256 (0 : Int32) ((M_from u) (x1).toNatClampNeg) u)
set_option maxRecDepth 100000 in
set_option maxHeartbeats 4000000 in
theorem cM_holds {l : Launch} {D : va_G} {cA : Nat → ClassId} {ad : Nat → Nat} {E : zEt} (hI : zInj ad 23) (x1 : Int32) (x2 : Int32) (x3 : Int32) (x4 : Int32) (u : SM) {r : Int32} {w' : (Nat → Int32)} (hm : mM_holds x1 x2 x3 x4 u = some (r, w')) : Met l yX8_holds (zWs yX8_holds cX8_holds 10 (some .boolean)) (zRm 2) (va_Pc [.ref (ad 0), .int x1, .int x2, .int x3, .int x4] (zPre D (zTy cA) E (zAd ad 23) (wM cA ad u))) (zQi r (zBw D (wM cA ad (M_put_pile w' u))) (zAd ad 23)) 0 0 (zAd ad 23) := by
  refine z_met (lv := [(0, .ref (ad 0)), (1, .int x1), (2, .int x2), (3, .int x3), (4, .int x4)]) plX8 rfl rfl (Nat.le_of_ble_eq_true rfl) rfl ?_
  intro p e s m below meth c hC hr hin
  unfold mM_holds at hm
  refine z_iconst hC dX8_holds_0 kI_0 ?_
  refine z_istore (lv' := [(5, .int (0 : Int32)), (0, .ref (ad 0)), (1, .int x1), (2, .int x2), (3, .int x3), (4, .int x4)]) hC dX8_holds_1 (by decide) rfl ?_
  refine z_aload_n hC dX8_holds_3 rfl 1 rfl ?_
  refine gM_X8_69_o hC dX8_holds_4 ?_
  refine z_iload_n hC dX8_holds_7 rfl 2 rfl ?_
  refine aM_from hC hm dX8_holds_8 (fun hm => ?_)
  refine z_istore (lv' := [(6, .int ((M_from u) (x1).toNatClampNeg)), (5, .int (0 : Int32)), (0, .ref (ad 0)), (1, .int x1), (2, .int x2), (3, .int x3), (4, .int x4)]) hC dX8_holds_9 (by decide) rfl ?_
  refine z_lv hC [2, 3, 4, 5, 6, 1, 0] rfl ?_
  exact lM_holds_11 hI hC hr _ _ _ _ hm
