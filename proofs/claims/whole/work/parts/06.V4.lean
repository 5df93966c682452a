theorem gV_X7_105_o {p : Program} {l : Launch} {e : Env} {R : Room} {s : State} {m : MethodId} {args : Array Value} {below : List Frame} {meth : Method} {c : Code} {Q : State → Prop} {D : va_G} {A : Nat → Prop} {cc : ByteArray} {nL : Nat} {lv : List (Nat × Value)} {pc : Nat} {st : List Value} {cA : Nat → ClassId} {ad : Nat → Nat} {tK tB : Nat} {kS vS : Nat → Nat} {vT vH vA : Value} {u : SV} (C : zC p s m args meth c cc nL RX7 zTS D (zTy cA) A (zE tK tB kS vS)) (hd : decode cc pc = .ok (.getfield 105, 3)) {v : Int32} (hv : V_houseCount u = v) (g : zG p l e R s m args below meth c nL D A Q (wV cA ad vT vH vA u) lv (pc + 3) (.int v :: st)) : zG p l e R s m args below meth c nL D A Q (wV cA ad vT vH vA u) lv pc (.ref (ad 0) :: st) := by
  subst hv
  exact fun H locs ls hP hS hL => va_get (D := D) (ci := 7) (C := RX7) (T := TX7) (N := 16) C.1.1 C.1.2.1 C.1.2.2.2.2 inlX7 C.1.2.2.2.1 C.2.1 hP 0 (heV_o cA ad vT vH vA u) rfl 9 (by decide) (C.1.2.2.2.2 _ mfX7_105) (fun _ h9 => h9) (v := .int (V_houseCount u)) rfl hd (g H locs ls hP hS hL)
theorem gV_X7_295_acting {p : Program} {l : Launch} {e : Env} {R : Room} {s : State} {m : MethodId} {args : Array Value} {below : List Frame} {meth : Method} {c : Code} {Q : State → Prop} {D : va_G} {A : Nat → Prop} {cc : ByteArray} {nL : Nat} {lv : List (Nat × Value)} {pc : Nat} {st : List Value} {cA : Nat → ClassId} {ad : Nat → Nat} {tK tB : Nat} {kS vS : Nat → Nat} {vT vH vA : Value} {u : SV} (C : zC p s m args meth c cc nL RX7 zTS D (zTy cA) A (zE tK tB kS vS)) (hd : decode cc pc = .ok (.getfield 295, 3)) {v : Int32} (hv : B_ran (V_acting u) = v) (g : zG p l e R s m args below meth c nL D A Q (wV cA ad vT vH vA u) lv (pc + 3) (.int v :: st)) : zG p l e R s m args below meth c nL D A Q (wV cA ad vT vH vA u) lv pc (.ref (ad 12) :: st) := by
  subst hv
  exact fun H locs ls hP hS hL => va_get (D := D) (ci := 0) (C := RX0) (T := TX0) (N := 3) C.1.1 C.1.2.1 C.1.2.2.2.2 inlX0 C.1.2.2.2.1 C.2.1 hP 12 (heV_acting cA ad vT vH vA u) rfl 1 (by decide) (C.1.2.2.2.2 _ mfX7_295) (fun _ h9 => h9) (v := .int (B_ran (V_acting u))) rfl hd (g H locs ls hP hS hL)
def mV_count (x1 : Int32) (u : SV) : Int32 :=
  if x1 = (0 : Int32) then ((V_seats u)) else (if x1 = (1 : Int32) then ((S_letters (V_stage u))) else (if x1 = (2 : Int32) then ((V_houseCount u)) else (if x1 = (3 : Int32) then ((V_voiceCount u)) else (if x1 = (4 : Int32) then ((V_textLength u)) else (if x1 = (5 : Int32) then ((B_ran (V_acting u))) else (if x1 = (6 : Int32) then ((S_mouth (V_stage u))) else (if x1 = (7 : Int32) then ((S_jaw (V_stage u))) else ((-2 : Int32)))))))))
set_option maxRecDepth 100000 in
set_option maxHeartbeats 4000000 in
theorem cV_count {l : Launch} {D : va_G} {cA : Nat → ClassId} {ad : Nat → Nat} {tK tB : Nat} {kS vS : Nat → Nat} {vT vH vA : Value} (hI : zInj ad 80) (x1 : Int32) (u : SV) {r : Int32} (hm : mV_count x1 u = r) : Met l yX7_count (zWs yX7_count cX7_count 2 (some .int)) (zRm 0) (va_Pc [.ref (ad 0), .int x1] (zPre D (zTy cA) (zE tK tB kS vS) zA0 (wV cA ad vT vH vA u))) (zQi r zB0 zA0) 0 0 zA0 := by
  refine z_met (lv := [(0, .ref (ad 0)), (1, .int x1)]) plX7 rfl rfl (Nat.le_of_ble_eq_true rfl) rfl ?_
  intro p e s m below meth c hC hr hin
  unfold mV_count at hm
  refine z_iload_n hC dX7_count_0 rfl 1 rfl ?_
  refine z_ite hm (fun h1_0 hm => ?_) (fun h1_0 hm => ?_)
  · refine z_tin hC dX7_count_1 h1_0 kc_0 (by decide) (by decide) (off := 47) rfl (tgt := 48) (by decide) ?_
    refine z_aload_n hC dX7_count_48 rfl 0 rfl ?_
    refine gV_X7_90_o (v := (V_seats u)) hC dX7_count_49 rfl ?_
    exact z_iret hC hr rfl dX7_count_52 (fun _ _ => trivial) hm
  · refine z_ite hm (fun h1_1 hm => ?_) (fun h1_1 hm => ?_)
    · refine z_tin hC dX7_count_1 h1_1 kc_1 (by decide) (by decide) (off := 52) rfl (tgt := 53) (by decide) ?_
      refine z_aload_n hC dX7_count_53 rfl 0 rfl ?_
      refine gV_X7_12_o hC dX7_count_54 ?_
      refine gV_X7_96_stage (v := (S_letters (V_stage u))) hC dX7_count_57 rfl ?_
      exact z_iret hC hr rfl dX7_count_60 (fun _ _ => trivial) hm
    · refine z_ite hm (fun h1_2 hm => ?_) (fun h1_2 hm => ?_)
      · refine z_tin hC dX7_count_1 h1_2 kc_2 (by decide) (by decide) (off := 60) rfl (tgt := 61) (by decide) ?_
        refine z_aload_n hC dX7_count_61 rfl 0 rfl ?_
        refine gV_X7_105_o (v := (V_houseCount u)) hC dX7_count_62 rfl ?_
        exact z_iret hC hr rfl dX7_count_65 (fun _ _ => trivial) hm
      · refine z_ite hm (fun h1_3 hm => ?_) (fun h1_3 hm => ?_)
        · refine z_tin hC dX7_count_1 h1_3 kc_3 (by decide) (by decide) (off := 65) rfl (tgt := 66) (by decide) ?_
          refine z_aload_n hC dX7_count_66 rfl 0 rfl ?_
          refine gV_X7_133_o (v := (V_voiceCount u)) hC dX7_count_67 rfl ?_
          exact z_iret hC hr rfl dX7_count_70 (fun _ _ => trivial) hm
        · refine z_ite hm (fun h1_4 hm => ?_) (fun h1_4 hm => ?_)
          · refine z_tin hC dX7_count_1 h1_4 kc_4 (by decide) (by decide) (off := 70) rfl (tgt := 71) (by decide) ?_
            refine z_aload_n hC dX7_count_71 rfl 0 rfl ?_
            refine gV_X7_102_o (v := (V_textLength u)) hC dX7_count_72 rfl ?_
            exact z_iret hC hr rfl dX7_count_75 (fun _ _ => trivial) hm
          · refine z_ite hm (fun h1_5 hm => ?_) (fun h1_5 hm => ?_)
            · refine z_tin hC dX7_count_1 h1_5 kc_5 (by decide) (by decide) (off := 75) rfl (tgt := 76) (by decide) ?_
              refine z_aload_n hC dX7_count_76 rfl 0 rfl ?_
              refine gV_X7_54_o hC dX7_count_77 ?_
              refine gV_X7_295_acting (v := (B_ran (V_acting u))) hC dX7_count_80 rfl ?_
              exact z_iret hC hr rfl dX7_count_83 (fun _ _ => trivial) hm
            · refine z_ite hm (fun h1_6 hm => ?_) (fun h1_6 hm => ?_)
              · refine z_tin hC dX7_count_1 h1_6 kc_6 (by decide) (by decide) (off := 83) rfl (tgt := 84) (by decide) ?_
                refine z_aload_n hC dX7_count_84 rfl 0 rfl ?_
                refine gV_X7_12_o hC dX7_count_85 ?_
                refine gV_X7_77_stage (v := (S_mouth (V_stage u))) hC dX7_count_88 rfl ?_
                exact z_iret hC hr rfl dX7_count_91 (fun _ _ => trivial) hm
              · refine z_ite hm (fun h1_7 hm => ?_) (fun h1_7 hm => ?_)
                · refine z_tin hC dX7_count_1 h1_7 kc_7 (by decide) (by decide) (off := 91) rfl (tgt := 92) (by decide) ?_
                  refine z_aload_n hC dX7_count_92 rfl 0 rfl ?_
                  refine gV_X7_12_o hC dX7_count_93 ?_
                  refine gV_X7_83_stage (v := (S_jaw (V_stage u))) hC dX7_count_96 rfl ?_
                  exact z_iret hC hr rfl dX7_count_99 (fun _ _ => trivial) hm
                · refine z_tout (n := 8) hC dX7_count_1 (z_allc (z_tneq kc_0 h1_0) (z_allc (z_tneq kc_1 h1_1) (z_allc (z_tneq kc_2 h1_2) (z_allc (z_tneq kc_3 h1_3) (z_allc (z_tneq kc_4 h1_4) (z_allc (z_tneq kc_5 h1_5) (z_allc (z_tneq kc_6 h1_6) (z_allc (z_tneq kc_7 h1_7) z_all0)))))))) (by decide) (tgt := 100) (by decide) ?_
                  refine z_bipush hC dX7_count_100 kB_m2 ?_
                  exact z_iret hC hr rfl dX7_count_102 (fun _ _ => trivial) hm
def V_put_ts (p : (Nat → ST)) (u : SV) : SV := (u.1, (u.2.1, (u.2.2.1, (u.2.2.2.1, (p, u.2.2.2.2.2)))))
theorem xV_X7_298 {p : Program} {l : Launch} {e : Env} {s : State} {m : MethodId} {args : Array Value} {below : List Frame} {meth : Method} {c : Code} {Q : State → Prop} {D : va_G} {A : Nat → Prop} {cc : ByteArray} {nL : Nat} {lv : List (Nat × Value)} {pc : Nat} {st : List Value} {cA : Nat → ClassId} {ad : Nat → Nat} {tK tB : Nat} {kS vS : Nat → Nat} {vT vH vA : Value} {d : Nat} {x1 : Int32} {x2 : Int32} {u : SV} {K : Nat} (hK : K < 6) (hI : zInj ad 80) (C : zC p s m args meth c cc nL RX7 zTS D (zTy cA) A (zE tK tB kS vS)) (hdm : 0 + 1 ≤ d) (hA : ∀ q, zAd ad 80 q → A q) {β : Type} {f : (Int32 × Int32 × (Nat → Int64)) → Option β} {o : β} (hm : (mT_lay x1 x2 (V_ts u K)).bind f = some o) (hd : decode cc pc = .ok (.invokevirtual 298, 3)) (h8 : (st.map fun v => v.category).sum ≤ 8) (g : ∀ q, f q = some o → zG p l e (zRm d) s m args below meth c nL D A Q (wV cA ad vT vH vA (V_set_ts (va_up (V_ts u) K (T_put_sort_length_items q (V_ts u K))) u)) lv (pc + 3) (st)) : zG p l e (zRm d) s m args below meth c nL D A Q (wV cA ad vT vH vA u) lv pc (.int x2 :: .int x1 :: .ref (ad (58 + 2 * K)) :: st) := by
  obtain ⟨q, h1, h2⟩ := zb_some hm
  exact z_callvV C (cT_lay (ad := (fun i => ad (58 + 2 * K + i))) (cA := cA) (zInj_sh (k := 58 + 2 * K) (n := 2) hI (by omega)) x1 x2 (V_ts u K) h1) (cwX7_298 C.1.2.2.2.2 rfl rfl ⟨hdm, by have := hdm; simp only [zRm]; omega⟩) hd rfl rfl h8 ⟨_, rfl, rfl⟩ (inV_t (cA := cA) hK _ (List.mem_of_getElem? (i := 0) rfl)) (inV_t hK) (fun q h => hA q (zAd_sh (k := 58 + 2 * K) (n := 2) (by omega) q h)) (zJV_tape hI hK) (g q h2)
def mV_tape (x1 : Int32) (x2 : Int32) (x3 : Int32) (u : SV) : Option (Int32 × (Nat → ST)) :=
  if (mN_isTape x1) = 0 then (some ((-1 : Int32), ((V_ts u)))) else (if x2 < (-1 : Int32) then (some ((-2 : Int32), ((V_ts u)))) else (if x2 ≤ (4 : Int32) then (if x2 = (-1 : Int32) then (zgi x1 6 ((mT_lay x2 (0 : Int32) ((V_ts u) (x1).toNatClampNeg)).bind fun q1 => (some ((1 : Int32), ((va_up (V_ts u) (x1).toNatClampNeg (T_put_sort_length_items q1 ((V_ts u) (x1).toNatClampNeg)))))))) else (if x3 ≤ (60 : Int32) then (if 0 ≤ x3 then (zgi x1 6 ((mT_lay x2 x3 ((V_ts u) (x1).toNatClampNeg)).bind fun q2 => (some ((1 : Int32), ((va_up (V_ts u) (x1).toNatClampNeg (T_put_sort_length_items q2 ((V_ts u) (x1).toNatClampNeg)))))))) else (some ((-14 : Int32), ((V_ts u))))) else (some ((-2 : Int32), ((V_ts u)))))) else (some ((-2 : Int32), ((V_ts u))))))
set_option maxRecDepth 100000 in
set_option maxHeartbeats 4000000 in
theorem cV_tape {l : Launch} {D : va_G} {cA : Nat → ClassId} {ad : Nat → Nat} {tK tB : Nat} {kS vS : Nat → Nat} {vT vH vA : Value} (hI : zInj ad 80) (x1 : Int32) (x2 : Int32) (x3 : Int32) (u : SV) {r : Int32} {w' : (Nat → ST)} (hm : mV_tape x1 x2 x3 u = some (r, w')) : Met l yX7_tape (zWs yX7_tape cX7_tape 4 (some .int)) (zRm 1) (va_Pc [.ref (ad 0), .int x1, .int x2, .int x3] (zPre D (zTy cA) (zE tK tB kS vS) (zAd ad 80) (wV cA ad vT vH vA u))) (zQi r (zBw D (wV cA ad vT vH vA (V_put_ts w' u))) (zAd ad 80)) 0 0 (zAd ad 80) := by
  refine z_met (lv := [(0, .ref (ad 0)), (1, .int x1), (2, .int x2), (3, .int x3)]) plX7 rfl rfl (Nat.le_of_ble_eq_true rfl) rfl ?_
  intro p e s m below meth c hC hr hin
  unfold mV_tape at hm
  refine z_iload_n hC dX7_tape_0 rfl 1 rfl ?_
  refine xV_X7_253 hI hC (Nat.le_of_ble_eq_true rfl) dX7_tape_1 (Nat.le_of_ble_eq_true rfl) ?_
  refine z_if_ne (tgt := 9) hC hm dX7_tape_4 (by decide) (fun hm => ?_) (fun hm => ?_)
  · refine z_iconst hC dX7_tape_7 kI_m1 ?_
    exact riV (fin := fun z => V_put_ts z u) hC hr rfl dX7_tape_8 hm rfl
  · refine z_iload_n hC dX7_tape_9 rfl 2 rfl ?_
    refine z_iconst hC dX7_tape_10 kI_m1 ?_
    refine z_icmp_lt (tgt := 19) hC hm dX7_tape_11 (by decide) (fun hm => ?_) (fun hm => ?_)
    · refine z_bipush hC dX7_tape_19 kB_m2 ?_
      exact riV (fin := fun z => V_put_ts z u) hC hr rfl dX7_tape_21 hm rfl
    · refine z_iload_n hC dX7_tape_14 rfl 2 rfl ?_
      refine z_iconst hC dX7_tape_15 kI_4 ?_
      refine z_icmp_le (tgt := 22) hC hm dX7_tape_16 (by decide) (fun hm => ?_) (fun hm => ?_)
      · refine z_iload_n hC dX7_tape_22 rfl 2 rfl ?_
        refine z_iconst hC dX7_tape_23 kI_m1 ?_
        refine z_icmp_ne (tgt := 40) hC hm dX7_tape_24 (by decide) (fun hm => ?_) (fun hm => ?_)
        · refine z_aload_n hC dX7_tape_27 rfl 0 rfl ?_
          refine gV_X7_60_o hC dX7_tape_28 ?_
          refine z_iload_n hC dX7_tape_31 rfl 1 rfl ?_
          refine aV_tapes hC hm dX7_tape_32 (fun hk1 hm => ?_)
          refine z_iload_n hC dX7_tape_33 rfl 2 rfl ?_
          refine z_iconst hC dX7_tape_34 kI_0 ?_
          refine xV_X7_298 hk1 hI hC (Nat.le_of_ble_eq_true rfl) (fun _ h => h) hm dX7_tape_35 (Nat.le_of_ble_eq_true rfl) (fun q1 hm => ?_)
          refine zuV (u2 := (V_put_ts ((va_up (V_ts u) (x1).toNatClampNeg (T_put_sort_length_items q1 ((V_ts u) (x1).toNatClampNeg)))) u)) rfl ?_
          refine z_iconst hC dX7_tape_38 kI_1 ?_
          exact riV (fin := fun z => V_put_ts z u) hC hr rfl dX7_tape_39 hm rfl
        · refine z_iload_n hC dX7_tape_40 rfl 3 rfl ?_
          refine z_bipush hC dX7_tape_41 kB_60 ?_
          refine z_icmp_le (tgt := 49) hC hm dX7_tape_43 (by decide) (fun hm => ?_) (fun hm => ?_)
          · refine z_iload_n hC dX7_tape_49 rfl 3 rfl ?_
            refine z_if_ge (tgt := 56) hC hm dX7_tape_50 (by decide) (fun hm => ?_) (fun hm => ?_)
            · refine z_aload_n hC dX7_tape_56 rfl 0 rfl ?_
              refine gV_X7_60_o hC dX7_tape_57 ?_
              refine z_iload_n hC dX7_tape_60 rfl 1 rfl ?_
              refine aV_tapes hC hm dX7_tape_61 (fun hk2 hm => ?_)
              refine z_iload_n hC dX7_tape_62 rfl 2 rfl ?_
              refine z_iload_n hC dX7_tape_63 rfl 3 rfl ?_
              refine xV_X7_298 hk2 hI hC (Nat.le_of_ble_eq_true rfl) (fun _ h => h) hm dX7_tape_64 (Nat.le_of_ble_eq_true rfl) (fun q2 hm => ?_)
              refine zuV (u2 := (V_put_ts ((va_up (V_ts u) (x1).toNatClampNeg (T_put_sort_length_items q2 ((V_ts u) (x1).toNatClampNeg)))) u)) rfl ?_
              refine z_iconst hC dX7_tape_67 kI_1 ?_
              exact riV (fin := fun z => V_put_ts z u) hC hr rfl dX7_tape_68 hm rfl
            · refine z_bipush hC dX7_tape_53 kB_m14 ?_
              exact riV (fin := fun z => V_put_ts z u) hC hr rfl dX7_tape_55 hm rfl
          · refine z_bipush hC dX7_tape_46 kB_m2 ?_
            exact riV (fin := fun z => V_put_ts z u) hC hr rfl dX7_tape_48 hm rfl
      · refine z_bipush hC dX7_tape_19 kB_m2 ?_
        exact riV (fin := fun z => V_put_ts z u) hC hr rfl dX7_tape_21 hm rfl
theorem xV_X7_302 {p : Program} {l : Launch} {e : Env} {s : State} {m : MethodId} {args : Array Value} {below : List Frame} {meth : Method} {c : Code} {Q : State → Prop} {D : va_G} {A : Nat → Prop} {cc : ByteArray} {nL : Nat} {lv : List (Nat × Value)} {pc : Nat} {st : List Value} {cA : Nat → ClassId} {ad : Nat → Nat} {tK tB : Nat} {kS vS : Nat → Nat} {vT vH vA : Value} {d : Nat} {x1 : Int32} {x2 : Int64} {u : SV} {K : Nat} (hK : K < 6) (hI : zInj ad 80) (C : zC p s m args meth c cc nL RX7 zTS D (zTy cA) A (zE tK tB kS vS)) (hdm : 0 + 1 ≤ d) (hA : ∀ q, zAd ad 80 q → A q) {β : Type} {f : ((Nat → Int64)) → Option β} {o : β} (hm : (mT_put x1 x2 (V_ts u K)).bind f = some o) (hd : decode cc pc = .ok (.invokevirtual 302, 3)) (h8 : (st.map fun v => v.category).sum ≤ 8) (g : ∀ q, f q = some o → zG p l e (zRm d) s m args below meth c nL D A Q (wV cA ad vT vH vA (V_set_ts (va_up (V_ts u) K (T_put_items q (V_ts u K))) u)) lv (pc + 3) (st)) : zG p l e (zRm d) s m args below meth c nL D A Q (wV cA ad vT vH vA u) lv pc (.long x2 :: .int x1 :: .ref (ad (58 + 2 * K)) :: st) := by
  obtain ⟨q, h1, h2⟩ := zb_some hm
  exact z_callvV C (cT_put (ad := (fun i => ad (58 + 2 * K + i))) (cA := cA) (zInj_sh (k := 58 + 2 * K) (n := 2) hI (by omega)) x1 x2 (V_ts u K) h1) (cwX7_302 C.1.2.2.2.2 rfl rfl ⟨hdm, by have := hdm; simp only [zRm]; omega⟩) hd rfl rfl h8 ⟨_, rfl, rfl⟩ (inV_t (cA := cA) hK _ (List.mem_of_getElem? (i := 0) rfl)) (inV_t hK) (fun q h => hA q (zAd_sh (k := 58 + 2 * K) (n := 2) (by omega) q h)) (zJV_tape hI hK) (g q h2)
def mV_item (x1 : Int32) (x2 : Int32) (x3 : Int64) (u : SV) : Option (Int32 × (Nat → ST)) :=
  if (mN_isTape x1) = 0 then (some ((-1 : Int32), ((V_ts u)))) else (zgi x1 6 (if (mT_isRow ((V_ts u) (x1).toNatClampNeg)) = 0 then (some ((-11 : Int32), ((V_ts u)))) else (if (mT_has x2 ((V_ts u) (x1).toNatClampNeg)) = 0 then (some ((-13 : Int32), ((V_ts u)))) else ((mT_put x2 x3 ((V_ts u) (x1).toNatClampNeg)).bind fun q1 => (some ((1 : Int32), ((va_up (V_ts u) (x1).toNatClampNeg (T_put_items q1 ((V_ts u) (x1).toNatClampNeg))))))))))
set_option maxRecDepth 100000 in
set_option maxHeartbeats 4000000 in
theorem cV_item {l : Launch} {D : va_G} {cA : Nat → ClassId} {ad : Nat → Nat} {tK tB : Nat} {kS vS : Nat → Nat} {vT vH vA : Value} (hI : zInj ad 80) (x1 : Int32) (x2 : Int32) (x3 : Int64) (u : SV) {r : Int32} {w' : (Nat → ST)} (hm : mV_item x1 x2 x3 u = some (r, w')) : Met l yX7_item (zWs yX7_item cX7_item 6 (some .int)) (zRm 1) (va_Pc [.ref (ad 0), .int x1, .int x2, .long x3] (zPre D (zTy cA) (zE tK tB kS vS) (zAd ad 80) (wV cA ad vT vH vA u))) (zQi r (zBw D (wV cA ad vT vH vA (V_put_ts w' u))) (zAd ad 80)) 0 0 (zAd ad 80) := by
  refine z_met (lv := [(0, .ref (ad 0)), (1, .int x1), (2, .int x2), (3, .long x3)]) plX7 rfl rfl (Nat.le_of_ble_eq_true rfl) rfl ?_
  intro p e s m below meth c hC hr hin
  unfold mV_item at hm
  refine z_iload_n hC dX7_item_0 rfl 1 rfl ?_
  refine xV_X7_253 hI hC (Nat.le_of_ble_eq_true rfl) dX7_item_1 (Nat.le_of_ble_eq_true rfl) ?_
  refine z_if_ne (tgt := 9) hC hm dX7_item_4 (by decide) (fun hm => ?_) (fun hm => ?_)
  · refine z_iconst hC dX7_item_7 kI_m1 ?_
    exact riV (fin := fun z => V_put_ts z u) hC hr rfl dX7_item_8 hm rfl
  · refine z_aload_n hC dX7_item_9 rfl 0 rfl ?_
    refine gV_X7_60_o hC dX7_item_10 ?_
    refine z_iload_n hC dX7_item_13 rfl 1 rfl ?_
    refine aV_tapes hC hm dX7_item_14 (fun hk1 hm => ?_)
    refine z_astore (lv' := [(5, .ref (ad (58 + 2 * (x1).toNatClampNeg))), (0, .ref (ad 0)), (1, .int x1), (2, .int x2), (3, .long x3)]) hC dX7_item_15 (by decide) rfl ?_
    refine z_aload hC dX7_item_17 0 rfl ?_
    refine xV_X7_256 hk1 hI hC (Nat.le_of_ble_eq_true rfl) dX7_item_19 (Nat.le_of_ble_eq_true rfl) ?_
    refine z_if_ne (tgt := 28) hC hm dX7_item_22 (by decide) (fun hm => ?_) (fun hm => ?_)
    · refine z_bipush hC dX7_item_25 kB_m11 ?_
      exact riV (fin := fun z => V_put_ts z u) hC hr rfl dX7_item_27 hm rfl
    · refine z_aload hC dX7_item_28 0 rfl ?_
      refine z_iload_n hC dX7_item_30 rfl 3 rfl ?_
      refine xV_X7_263 hk1 hI hC (Nat.le_of_ble_eq_true rfl) dX7_item_31 (Nat.le_of_ble_eq_true rfl) ?_
      refine z_if_ne (tgt := 40) hC hm dX7_item_34 (by decide) (fun hm => ?_) (fun hm => ?_)
      · refine z_bipush hC dX7_item_37 kB_m13 ?_
        exact riV (fin := fun z => V_put_ts z u) hC hr rfl dX7_item_39 hm rfl
      · refine z_aload hC dX7_item_40 0 rfl ?_
        refine z_iload_n hC dX7_item_42 rfl 3 rfl ?_
        refine z_lload_n hC dX7_item_43 rfl 4 rfl ?_
        refine xV_X7_302 hk1 hI hC (Nat.le_of_ble_eq_true rfl) (fun _ h => h) hm dX7_item_44 (Nat.le_of_ble_eq_true rfl) (fun q1 hm => ?_)
        refine zuV (u2 := (V_put_ts ((va_up (V_ts u) (x1).toNatClampNeg (T_put_items q1 ((V_ts u) (x1).toNatClampNeg)))) u)) rfl ?_
        refine z_iconst hC dX7_item_47 kI_1 ?_
        exact riV (fin := fun z => V_put_ts z u) hC hr rfl dX7_item_48 hm rfl
def mV_read (x1 : Int32) (x2 : Int32) (u : SV) : Option Int64 :=
  if (mN_isTape x1) = 0 then (some (-9223372036854775808 : Int64)) else (zgi x1 6 (if (mT_has x2 ((V_ts u) (x1).toNatClampNeg)) = 0 then (some (-9223372036854775808 : Int64)) else (zgi x1 6 (zgi x2 60 (some (T_items ((V_ts u) (x1).toNatClampNeg) (x2).toNatClampNeg))))))
set_option maxRecDepth 100000 in
set_option maxHeartbeats 4000000 in
theorem cV_read {l : Launch} {D : va_G} {cA : Nat → ClassId} {ad : Nat → Nat} {tK tB : Nat} {kS vS : Nat → Nat} {vT vH vA : Value} (hI : zInj ad 80) (x1 : Int32) (x2 : Int32) (u : SV) {r : Int64} (hm : mV_read x1 x2 u = some r) : Met l yX7_read (zWs yX7_read cX7_read 3 (some .long)) (zRm 1) (va_Pc [.ref (ad 0), .int x1, .int x2] (zPre D (zTy cA) (zE tK tB kS vS) zA0 (wV cA ad vT vH vA u))) (zQl r zB0 zA0) 0 0 zA0 := by
  refine z_met (lv := [(0, .ref (ad 0)), (1, .int x1), (2, .int x2)]) plX7 rfl rfl (Nat.le_of_ble_eq_true rfl) rfl ?_
  intro p e s m below meth c hC hr hin
  unfold mV_read at hm
  refine z_iload_n hC dX7_read_0 rfl 1 rfl ?_
  refine xV_X7_253 hI hC (Nat.le_of_ble_eq_true rfl) dX7_read_1 (Nat.le_of_ble_eq_true rfl) ?_
  refine z_if_eq (tgt := 20) hC hm dX7_read_4 (by decide) (fun hm => ?_) (fun hm => ?_)
  · refine z_ldc2 hC mcX7_240 dX7_read_20 ?_
    exact z_lret hC hr dX7_read_23 (fun _ _ => trivial) (Option.some.inj hm)
  · refine z_aload_n hC dX7_read_7 rfl 0 rfl ?_
    refine gV_X7_60_o hC dX7_read_8 ?_
    refine z_iload_n hC dX7_read_11 rfl 1 rfl ?_
    refine aV_tapes hC hm dX7_read_12 (fun hk1 hm => ?_)
    refine z_iload_n hC dX7_read_13 rfl 2 rfl ?_
    refine xV_X7_263 hk1 hI hC (Nat.le_of_ble_eq_true rfl) dX7_read_14 (Nat.le_of_ble_eq_true rfl) ?_
    refine z_if_ne (tgt := 24) hC hm dX7_read_17 (by decide) (fun hm => ?_) (fun hm => ?_)
    · refine z_ldc2 hC mcX7_240 dX7_read_20 ?_
      exact z_lret hC hr dX7_read_23 (fun _ _ => trivial) (Option.some.inj hm)
    · refine z_aload_n hC dX7_read_24 rfl 0 rfl ?_
      refine gV_X7_60_o hC dX7_read_25 ?_
      refine z_iload_n hC dX7_read_28 rfl 1 rfl ?_
      refine aV_tapes hC hm dX7_read_29 (fun hk2 hm => ?_)
      refine gV_X7_266_tape hk2 hC dX7_read_30 ?_
      refine z_iload_n hC dX7_read_33 rfl 2 rfl ?_
      refine aV_items hk2 hC hm dX7_read_34 (fun hm => ?_)
      exact z_lret hC hr dX7_read_35 (fun _ _ => trivial) (Option.some.inj hm)
theorem xV_X7_306 {p : Program} {l : Launch} {e : Env} {s : State} {m : MethodId} {args : Array Value} {below : List Frame} {meth : Method} {c : Code} {Q : State → Prop} {D : va_G} {A : Nat → Prop} {cc : ByteArray} {nL : Nat} {lv : List (Nat × Value)} {pc : Nat} {st : List Value} {cA : Nat → ClassId} {ad : Nat → Nat} {tK tB : Nat} {kS vS : Nat → Nat} {vT vH vA : Value} {d : Nat} {x1 : Int32} {x2 : Int32} {u : SV} {K : Nat} (hK : K < 6) (hI : zInj ad 80) (C : zC p s m args meth c cc nL RX7 zTS D (zTy cA) A (zE tK tB kS vS)) (hdm : 0 + 1 ≤ d) (hd : decode cc pc = .ok (.invokevirtual 306, 3)) (h8 : (st.map fun v => v.category).sum ≤ 8) (g : zG p l e (zRm d) s m args below meth c nL D A Q (wV cA ad vT vH vA u) lv (pc + 3) (.int (mT_hasRun x1 x2 (V_ts u K)) :: st)) : zG p l e (zRm d) s m args below meth c nL D A Q (wV cA ad vT vH vA u) lv pc (.int x2 :: .int x1 :: .ref (ad (58 + 2 * K)) :: st) :=
  z_calliV C (cT_hasRun (ad := (fun i => ad (58 + 2 * K + i))) (cA := cA) (zInj_sh (k := 58 + 2 * K) (n := 2) hI (by omega)) x1 x2 (V_ts u K) rfl) (cwX7_306 C.1.2.2.2.2 rfl rfl ⟨hdm, by have := hdm; simp only [zRm]; omega⟩) hd rfl rfl h8 ⟨_, rfl, rfl⟩ (inV_t (cA := cA) hK _ (List.mem_of_getElem? (i := 0) rfl)) (inV_t hK) (fun _ h => h.elim) zJ_ro g
def mV_shift (x1 : Int32) (x2 : Int32) (x3 : Int32) (x4 : Int32) (x5 : Int32) (u : SV) : Option (Int32 × (Nat → ST)) :=
  if (mN_isTape x1) = 0 then (some ((-1 : Int32), ((V_ts u)))) else (if (mN_isTape x3) = 0 then (some ((-1 : Int32), ((V_ts u)))) else (zgi x1 6 (zgi x3 6 (if (mT_isRow ((V_ts u) (x1).toNatClampNeg)) = 0 then (some ((-11 : Int32), ((V_ts u)))) else (if (mT_isRow ((V_ts u) (x3).toNatClampNeg)) = 0 then (some ((-11 : Int32), ((V_ts u)))) else (if (T_sort ((V_ts u) (x1).toNatClampNeg)) = (T_sort ((V_ts u) (x3).toNatClampNeg)) then (if (mT_hasRun x2 x5 ((V_ts u) (x1).toNatClampNeg)) = 0 then (some ((-13 : Int32), ((V_ts u)))) else (if (mT_hasRun x4 x5 ((V_ts u) (x3).toNatClampNeg)) = 0 then (some ((-13 : Int32), ((V_ts u)))) else (zgcp x2 x4 x5 (some (x5, ((va_up (V_ts u) (x3).toNatClampNeg (T_set_items (va_cpy (T_items ((V_ts u) (x1).toNatClampNeg)) (T_items ((V_ts u) (x3).toNatClampNeg)) (x2).toNatClampNeg (x4).toNatClampNeg (x5).toNatClampNeg) ((V_ts u) (x3).toNatClampNeg))))))))) else (some ((-12 : Int32), ((V_ts u))))))))))
set_option maxRecDepth 100000 in
set_option maxHeartbeats 4000000 in
theorem cV_shift {l : Launch} {D : va_G} {cA : Nat → ClassId} {ad : Nat → Nat} {tK tB : Nat} {kS vS : Nat → Nat} {vT vH vA : Value} (hI : zInj ad 80) (x1 : Int32) (x2 : Int32) (x3 : Int32) (x4 : Int32) (x5 : Int32) (u : SV) {r : Int32} {w' : (Nat → ST)} (hm : mV_shift x1 x2 x3 x4 x5 u = some (r, w')) : Met l yX7_shift (zWs yX7_shift cX7_shift 8 (some .int)) (zRm 1) (va_Pc [.ref (ad 0), .int x1, .int x2, .int x3, .int x4, .int x5] (zPre D (zTy cA) (zE tK tB kS vS) (zAd ad 80) (wV cA ad vT vH vA u))) (zQi r (zBw D (wV cA ad vT vH vA (V_put_ts w' u))) (zAd ad 80)) 0 0 (zAd ad 80) := by
  refine z_met (lv := [(0, .ref (ad 0)), (1, .int x1), (2, .int x2), (3, .int x3), (4, .int x4), (5, .int x5)]) plX7 rfl rfl (Nat.le_of_ble_eq_true rfl) rfl ?_
  intro p e s m below meth c hC hr hin
  unfold mV_shift at hm
  refine z_iload_n hC dX7_shift_0 rfl 1 rfl ?_
  refine xV_X7_253 hI hC (Nat.le_of_ble_eq_true rfl) dX7_shift_1 (Nat.le_of_ble_eq_true rfl) ?_
  refine z_if_eq (tgt := 14) hC hm dX7_shift_4 (by decide) (fun hm => ?_) (fun hm => ?_)
  · refine z_iconst hC dX7_shift_14 kI_m1 ?_
    exact riV (fin := fun z => V_put_ts z u) hC hr rfl dX7_shift_15 hm rfl
  · refine z_iload_n hC dX7_shift_7 rfl 3 rfl ?_
    refine xV_X7_253 hI hC (Nat.le_of_ble_eq_true rfl) dX7_shift_8 (Nat.le_of_ble_eq_true rfl) ?_
    refine z_if_ne (tgt := 16) hC hm dX7_shift_11 (by decide) (fun hm => ?_) (fun hm => ?_)
    · refine z_iconst hC dX7_shift_14 kI_m1 ?_
      exact riV (fin := fun z => V_put_ts z u) hC hr rfl dX7_shift_15 hm rfl
    · refine z_aload_n hC dX7_shift_16 rfl 0 rfl ?_
      refine gV_X7_60_o hC dX7_shift_17 ?_
      refine z_iload_n hC dX7_shift_20 rfl 1 rfl ?_
      refine aV_tapes hC hm dX7_shift_21 (fun hk1 hm => ?_)
      refine z_astore (lv' := [(6, .ref (ad (58 + 2 * (x1).toNatClampNeg))), (0, .ref (ad 0)), (1, .int x1), (2, .int x2), (3, .int x3), (4, .int x4), (5, .int x5)]) hC dX7_shift_22 (by decide) rfl ?_
      refine z_aload_n hC dX7_shift_24 rfl 1 rfl ?_
      refine gV_X7_60_o hC dX7_shift_25 ?_
      refine z_iload_n hC dX7_shift_28 rfl 4 rfl ?_
      refine aV_tapes hC hm dX7_shift_29 (fun hk2 hm => ?_)
      refine z_astore (lv' := [(7, .ref (ad (58 + 2 * (x3).toNatClampNeg))), (6, .ref (ad (58 + 2 * (x1).toNatClampNeg))), (0, .ref (ad 0)), (1, .int x1), (2, .int x2), (3, .int x3), (4, .int x4), (5, .int x5)]) hC dX7_shift_30 (by decide) rfl ?_
      refine z_aload hC dX7_shift_32 1 rfl ?_
      refine xV_X7_256 hk1 hI hC (Nat.le_of_ble_eq_true rfl) dX7_shift_34 (Nat.le_of_ble_eq_true rfl) ?_
      refine z_if_eq (tgt := 48) hC hm dX7_shift_37 (by decide) (fun hm => ?_) (fun hm => ?_)
      · refine z_bipush hC dX7_shift_48 kB_m11 ?_
        exact riV (fin := fun z => V_put_ts z u) hC hr rfl dX7_shift_50 hm rfl
      · refine z_aload hC dX7_shift_40 0 rfl ?_
        refine xV_X7_256 hk2 hI hC (Nat.le_of_ble_eq_true rfl) dX7_shift_42 (Nat.le_of_ble_eq_true rfl) ?_
        refine z_if_ne (tgt := 51) hC hm dX7_shift_45 (by decide) (fun hm => ?_) (fun hm => ?_)
        · refine z_bipush hC dX7_shift_48 kB_m11 ?_
          exact riV (fin := fun z => V_put_ts z u) hC hr rfl dX7_shift_50 hm rfl
        · refine z_aload hC dX7_shift_51 1 rfl ?_
          refine gV_X7_260_tape (v := (T_sort ((V_ts u) (x1).toNatClampNeg))) hk1 hC dX7_shift_53 rfl ?_
          refine z_aload hC dX7_shift_56 0 rfl ?_
          refine gV_X7_260_tape (v := (T_sort ((V_ts u) (x3).toNatClampNeg))) hk2 hC dX7_shift_58 rfl ?_
          refine z_icmp_eq (tgt := 67) hC hm dX7_shift_61 (by decide) (fun hm => ?_) (fun hm => ?_)
          · refine z_aload hC dX7_shift_67 1 rfl ?_
            refine z_iload_n hC dX7_shift_69 rfl 4 rfl ?_
            refine z_iload hC dX7_shift_70 7 rfl ?_
            refine xV_X7_306 hk1 hI hC (Nat.le_of_ble_eq_true rfl) dX7_shift_72 (Nat.le_of_ble_eq_true rfl) ?_
            refine z_if_eq (tgt := 90) hC hm dX7_shift_75 (by decide) (fun hm => ?_) (fun hm => ?_)
            · refine z_bipush hC dX7_shift_90 kB_m13 ?_
              exact riV (fin := fun z => V_put_ts z u) hC hr rfl dX7_shift_92 hm rfl
            · refine z_aload hC dX7_shift_78 0 rfl ?_
              refine z_iload hC dX7_shift_80 6 rfl ?_
              refine z_iload hC dX7_shift_82 7 rfl ?_
              refine xV_X7_306 hk2 hI hC (Nat.le_of_ble_eq_true rfl) dX7_shift_84 (Nat.le_of_ble_eq_true rfl) ?_
              refine z_if_ne (tgt := 93) hC hm dX7_shift_87 (by decide) (fun hm => ?_) (fun hm => ?_)
              · refine z_bipush hC dX7_shift_90 kB_m13 ?_
                exact riV (fin := fun z => V_put_ts z u) hC hr rfl dX7_shift_92 hm rfl
              · refine z_aload hC dX7_shift_93 1 rfl ?_
                refine gV_X7_266_tape hk1 hC dX7_shift_95 ?_
                refine z_iload_n hC dX7_shift_98 rfl 4 rfl ?_
                refine z_aload hC dX7_shift_99 0 rfl ?_
                refine gV_X7_266_tape hk2 hC dX7_shift_101 ?_
                refine z_iload hC dX7_shift_104 6 rfl ?_
                refine z_iload hC dX7_shift_106 7 rfl ?_
                refine z_g (zgcp_some hm) (fun hcp hm => ?_)
                refine z_copyV hcp hk1 hk2 hI hC (fun _ h => h) (Nat.le_of_ble_eq_true rfl) (Nat.le_of_ble_eq_true rfl) dX7_shift_108 ?_
                refine zuV (u2 := (V_put_ts ((va_up (V_ts u) (x3).toNatClampNeg (T_set_items (va_cpy (T_items ((V_ts u) (x1).toNatClampNeg)) (T_items ((V_ts u) (x3).toNatClampNeg)) (x2).toNatClampNeg (x4).toNatClampNeg (x5).toNatClampNeg) ((V_ts u) (x3).toNatClampNeg)))) u)) rfl ?_
                refine z_iload hC dX7_shift_111 7 rfl ?_
                exact riV (fin := fun z => V_put_ts z u) hC hr rfl dX7_shift_113 hm rfl
          · refine z_bipush hC dX7_shift_64 kB_m12 ?_
            exact riV (fin := fun z => V_put_ts z u) hC hr rfl dX7_shift_66 hm rfl
