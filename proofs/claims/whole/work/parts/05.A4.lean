theorem kc_10 : (10 : Int32).toInt = (10 : Int) := by decide
theorem kc_11 : (11 : Int32).toInt = (11 : Int) := by decide
theorem kc_12 : (12 : Int32).toInt = (12 : Int) := by decide
theorem kc_20 : (20 : Int32).toInt = (20 : Int) := by decide
theorem kc_30 : (30 : Int32).toInt = (30 : Int) := by decide
theorem kc_40 : (40 : Int32).toInt = (40 : Int) := by decide
theorem kc_50 : (50 : Int32).toInt = (50 : Int) := by decide
theorem kc_51 : (51 : Int32).toInt = (51 : Int) := by decide
theorem kc_60 : (60 : Int32).toInt = (60 : Int) := by decide
theorem kc_70 : (70 : Int32).toInt = (70 : Int) := by decide
theorem kc_71 : (71 : Int32).toInt = (71 : Int) := by decide
/-! 05.A4: the acts; by wip/whole/gen/genAc.py -/
theorem gA_X0_25_o {p : Program} {l : Launch} {e : Env} {R : Room} {s : State} {m : MethodId} {args : Array Value} {below : List Frame} {meth : Method} {c : Code} {Q : State → Prop} {D : va_G} {A : Nat → Prop} {cc : ByteArray} {nL : Nat} {lv : List (Nat × Value)} {pc : Nat} {st : List Value} {cA : Nat → ClassId} {ad : Nat → Nat} {E : zEt} {vA : Value} {u : SA} (C : zC p s m args meth c cc nL RX0 zTS D (zTy cA) A E) (hd : decode cc pc = .ok (.getfield 25, 3)) (g : zG p l e R s m args below meth c nL D A Q (wA cA ad vA u) lv (pc + 3) (vA :: st)) : zG p l e R s m args below meth c nL D A Q (wA cA ad vA u) lv pc (.ref (ad 0) :: st) := by
  exact fun H locs ls hP hS hL => va_get (D := D) (ci := 0) (C := RX0) (T := TX0) (N := 3) C.1.1 C.1.2.1 C.1.2.2.2.2 inlX0 C.1.2.2.2.1 C.2.1 hP 0 (heA_o cA ad vA u) rfl 2 (by decide) (C.1.2.2.2.2 _ mfX0_25) (fun _ h9 => h9) (v := vA) rfl hd (g H locs ls hP hS hL)
theorem gA_X0_29_vo {p : Program} {l : Launch} {e : Env} {R : Room} {s : State} {m : MethodId} {args : Array Value} {below : List Frame} {meth : Method} {c : Code} {Q : State → Prop} {D : va_G} {A : Nat → Prop} {cc : ByteArray} {nL : Nat} {lv : List (Nat × Value)} {pc : Nat} {st : List Value} {cA : Nat → ClassId} {ad : Nat → Nat} {E : zEt} {vA : Value} {u : SA} (C : zC p s m args meth c cc nL RX0 zTS D (zTy cA) A E) (hd : decode cc pc = .ok (.getfield 29, 3)) {v : Int32} (hv : A_v_kind u = v) (g : zG p l e R s m args below meth c nL D A Q (wA cA ad vA u) lv (pc + 3) (.int v :: st)) : zG p l e R s m args below meth c nL D A Q (wA cA ad vA u) lv pc (.ref (ad 2) :: st) := by
  subst hv; exact fun H locs ls hP hS hL => va_get (D := D) (ci := 6) (C := RX6) (T := TX6) (N := 3) C.1.1 C.1.2.1 C.1.2.2.2.2 inlX6 C.1.2.2.2.1 C.2.1 hP 2 (heA_vo cA ad vA u) rfl 1 (by decide) (C.1.2.2.2.2 _ mfX0_29) (fun _ h9 => h9) (v := .int (A_v_kind u)) rfl hd (g H locs ls hP hS hL)
theorem gA_X0_51_vo {p : Program} {l : Launch} {e : Env} {R : Room} {s : State} {m : MethodId} {args : Array Value} {below : List Frame} {meth : Method} {c : Code} {Q : State → Prop} {D : va_G} {A : Nat → Prop} {cc : ByteArray} {nL : Nat} {lv : List (Nat × Value)} {pc : Nat} {st : List Value} {cA : Nat → ClassId} {ad : Nat → Nat} {E : zEt} {vA : Value} {u : SA} (C : zC p s m args meth c cc nL RX0 zTS D (zTy cA) A E) (hd : decode cc pc = .ok (.getfield 51, 3)) {v : Int32} (hv : A_v_number u = v) (g : zG p l e R s m args below meth c nL D A Q (wA cA ad vA u) lv (pc + 3) (.int v :: st)) : zG p l e R s m args below meth c nL D A Q (wA cA ad vA u) lv pc (.ref (ad 2) :: st) := by
  subst hv; exact fun H locs ls hP hS hL => va_get (D := D) (ci := 6) (C := RX6) (T := TX6) (N := 3) C.1.1 C.1.2.1 C.1.2.2.2.2 inlX6 C.1.2.2.2.1 C.2.1 hP 2 (heA_vo cA ad vA u) rfl 0 (by decide) (C.1.2.2.2.2 _ mfX0_51) (fun _ h9 => h9) (v := .int (A_v_number u)) rfl hd (g H locs ls hP hS hL)
def A_put_ran_bodies (p : Int32 × (Nat → Int32)) (u : SA) : SA := ((p.1, u.1.2), (u.2.1, (u.2.2.1, p.2)))
theorem xA_X0_34_o {p : Program} {l : Launch} {e : Env} {s : State} {m : MethodId} {args : Array Value} {below : List Frame} {meth : Method} {c : Code} {Q : State → Prop} {D : va_G} {A : Nat → Prop} {cc : ByteArray} {nL : Nat} {lv : List (Nat × Value)} {pc : Nat} {st : List Value} {cA : Nat → ClassId} {ad : Nat → Nat} {tK tB : Nat} {kS vS : Nat → Nat} {d dF : Nat} {x1 : Int32} {x2 : Int32} {x3 : Int32} {x4 : Int32} {u : SA} {RF : Int32 → Int32 → Int32 → Int32 → SA → Option (Int32 × Int32 × (Nat → Int32))} (hRF : ∀ (x1 : Int32) (x2 : Int32) (x3 : Int32) (x4 : Int32) (u : SA) (r : Int32) (w1 : Int32 × (Nat → Int32)), RF x1 x2 x3 x4 u = some (r, w1) → Met l yX0_runFrom (zWs yX0_runFrom cX0_runFrom 6 (some .int)) (zRm dF) (va_Pc [.ref (ad 0), .int x1, .int x2, .int x3, .int x4] (zPre D (zTy cA) (zE tK tB kS vS) (zAd ad 3) (wA cA ad (.ref (ad 2)) u))) (zQi r (zBw D (wA cA ad (.ref (ad 2)) (A_put_ran_bodies w1 u))) (zAd ad 3)) 0 0 (zAd ad 3)) (hI : zInj ad 3) (C : zC p s m args meth c cc nL RX0 zTS D (zTy cA) A (zE tK tB kS vS)) (hdm : dF + 1 ≤ d) (hA : ∀ q, zAd ad 3 q → A q) {β : Type} {f : (Int32 × Int32 × (Nat → Int32)) → Option β} {o : β} (hm : (RF x1 x2 x3 x4 u).bind f = some o) (hd : decode cc pc = .ok (.invokevirtual 34, 3)) (h8 : (st.map fun v => v.category).sum ≤ 8) (g : ∀ q, f q = some o → zG p l e (zRm d) s m args below meth c nL D A Q (wA cA ad (.ref (ad 2)) (A_put_ran_bodies q.2 u)) lv (pc + 3) (.int q.1 :: st)) : zG p l e (zRm d) s m args below meth c nL D A Q (wA cA ad (.ref (ad 2)) u) lv pc (.int x4 :: .int x3 :: .int x2 :: .int x1 :: .ref (ad 0) :: st) := by
  obtain ⟨q, h1, h2⟩ := zb_some hm
  exact z_calliV C (hRF x1 x2 x3 x4 u q.1 q.2 h1) (cwX0_34 C.1.2.2.2.2 rfl rfl ⟨hdm, by have := hdm; simp only [zRm]; omega⟩) hd rfl rfl h8 ⟨_, rfl, rfl⟩ (List.mem_of_getElem? (heA_o cA ad _ u)) (fun _ h => h) hA zJ_same (g q h2)
theorem gA_X0_54_vo {p : Program} {l : Launch} {e : Env} {R : Room} {s : State} {m : MethodId} {args : Array Value} {below : List Frame} {meth : Method} {c : Code} {Q : State → Prop} {D : va_G} {A : Nat → Prop} {cc : ByteArray} {nL : Nat} {lv : List (Nat × Value)} {pc : Nat} {st : List Value} {cA : Nat → ClassId} {ad : Nat → Nat} {E : zEt} {vA : Value} {u : SA} (C : zC p s m args meth c cc nL RX0 zTS D (zTy cA) A E) (hd : decode cc pc = .ok (.getfield 54, 3)) {v : Int32} (hv : A_v_v u = v) (g : zG p l e R s m args below meth c nL D A Q (wA cA ad vA u) lv (pc + 3) (.int v :: st)) : zG p l e R s m args below meth c nL D A Q (wA cA ad vA u) lv pc (.ref (ad 2) :: st) := by
  subst hv; exact fun H locs ls hP hS hL => va_get (D := D) (ci := 6) (C := RX6) (T := TX6) (N := 3) C.1.1 C.1.2.1 C.1.2.2.2.2 inlX6 C.1.2.2.2.1 C.2.1 hP 2 (heA_vo cA ad vA u) rfl 2 (by decide) (C.1.2.2.2.2 _ mfX0_54) (fun _ h9 => h9) (v := .int (A_v_v u)) rfl hd (g H locs ls hP hS hL)
def mA_runBody (RF : Int32 → Int32 → Int32 → Int32 → SA → Option (Int32 × Int32 × (Nat → Int32))) (x1 : Int32) (x2 : Int32) (x3 : Int32) (u : SA) : Option (Int32 × Int32 × (Nat → Int32)) :=
  if x1 = (10 : Int32) then (some ((x2 + (A_v_number u)), ((A_ran u), (A_bodies u)))) else (if x1 = (11 : Int32) then ((RF (A_v_kind u) (0 : Int32) x2 x3 u).bind fun q1 => (some ((q1.1 - (A_v_v u)), (q1.2.1, q1.2.2)))) else (if x1 = (12 : Int32) then ((RF (A_v_kind u) (1 : Int32) x2 x3 u).bind fun q2 => (some ((q2.1 * (2 : Int32)), (q2.2.1, q2.2.2)))) else (if x1 = (20 : Int32) then ((RF (0 : Int32) (1 : Int32) x2 x3 u).bind fun q3 => (some ((q3.1 ^^^ (6 : Int32)), (q3.2.1, q3.2.2)))) else (if x1 = (30 : Int32) then ((RF (0 : Int32) (0 : Int32) (x2 * (3 : Int32)) x3 u).bind fun q4 => (some (q4.1, (q4.2.1, q4.2.2)))) else (if x1 = (40 : Int32) then ((RF (0 : Int32) (2 : Int32) x2 x3 u).bind fun q5 => ((RF (A_v_kind u) (1 : Int32) (1 : Int32) x3 (A_put_ran_bodies (q5.2.1, q5.2.2) u)).bind fun q6 => (some ((q5.1 + q6.1), (q6.2.1, q6.2.2))))) else (if x1 = (50 : Int32) then ((RF (1 : Int32) (0 : Int32) x2 x3 u).bind fun q7 => (some ((-q7.1), (q7.2.1, q7.2.2)))) else (if x1 = (51 : Int32) then ((RF (1 : Int32) (1 : Int32) (x2 + (1 : Int32)) x3 u).bind fun q8 => (some (q8.1, (q8.2.1, q8.2.2)))) else (if x1 = (60 : Int32) then ((RF (2 : Int32) (2 : Int32) (x2 - (A_v_number u)) x3 u).bind fun q9 => (some (q9.1, (q9.2.1, q9.2.2)))) else (if x1 = (70 : Int32) then ((RF (3 : Int32) (1 : Int32) x2 x3 u).bind fun q10 => ((RF (3 : Int32) (0 : Int32) (2 : Int32) x3 (A_put_ran_bodies (q10.2.1, q10.2.2) u)).bind fun q11 => (some ((q10.1 + q11.1), (q11.2.1, q11.2.2))))) else (if x1 = (71 : Int32) then ((RF (3 : Int32) (0 : Int32) x2 x3 u).bind fun q12 => (some ((q12.1 ^^^ (A_v_v u)), (q12.2.1, q12.2.2)))) else (some ((0 : Int32), ((A_ran u), (A_bodies u))))))))))))))
set_option maxRecDepth 100000 in
set_option maxHeartbeats 4000000 in
theorem cA_runBody {l : Launch} {D : va_G} {cA : Nat → ClassId} {ad : Nat → Nat} {tK tB : Nat} {kS vS : Nat → Nat} {dF : Nat} {RF : Int32 → Int32 → Int32 → Int32 → SA → Option (Int32 × Int32 × (Nat → Int32))} (hI : zInj ad 3 ∧ (∀ (x1 : Int32) (x2 : Int32) (x3 : Int32) (x4 : Int32) (u : SA) (r : Int32) (w1 : Int32 × (Nat → Int32)), RF x1 x2 x3 x4 u = some (r, w1) → Met l yX0_runFrom (zWs yX0_runFrom cX0_runFrom 6 (some .int)) (zRm dF) (va_Pc [.ref (ad 0), .int x1, .int x2, .int x3, .int x4] (zPre D (zTy cA) (zE tK tB kS vS) (zAd ad 3) (wA cA ad (.ref (ad 2)) u))) (zQi r (zBw D (wA cA ad (.ref (ad 2)) (A_put_ran_bodies w1 u))) (zAd ad 3)) 0 0 (zAd ad 3))) (x1 : Int32) (x2 : Int32) (x3 : Int32) (u : SA) {r : Int32} {w' : Int32 × (Nat → Int32)} (hm : mA_runBody RF x1 x2 x3 u = some (r, w')) : Met l yX0_runBody (zWs yX0_runBody cX0_runBody 5 (some .int)) (zRm (dF + 1)) (va_Pc [.ref (ad 0), .int x1, .int x2, .int x3] (zPre D (zTy cA) (zE tK tB kS vS) (zAd ad 3) (wA cA ad (.ref (ad 2)) u))) (zQi r (zBw D (wA cA ad (.ref (ad 2)) (A_put_ran_bodies w' u))) (zAd ad 3)) 0 0 (zAd ad 3) := by
  refine z_met (lv := [(0, .ref (ad 0)), (1, .int x1), (2, .int x2), (3, .int x3)]) plX0 rfl rfl (Nat.le_of_ble_eq_true rfl) rfl ?_
  intro p e s m below meth c hC hr hin
  unfold mA_runBody at hm
  refine z_aload_n hC dX0_runBody_0 rfl 0 rfl ?_
  refine gA_X0_25_o hC dX0_runBody_1 ?_
  refine gA_X0_29_vo (v := (A_v_kind u)) hC dX0_runBody_4 rfl ?_
  refine z_istore (lv' := [(4, .int (A_v_kind u)), (0, .ref (ad 0)), (1, .int x1), (2, .int x2), (3, .int x3)]) hC dX0_runBody_7 (by decide) rfl ?_
  refine z_iload_n hC dX0_runBody_9 rfl 2 rfl ?_
  refine z_ite hm (fun h10_0 hm => ?_) (fun h10_0 hm => ?_)
  · refine z_lin hC dX0_runBody_10 h10_0 kc_10 rfl (off := 98) rfl (tgt := 108) (by decide) ?_
    refine z_iload_n hC dX0_runBody_108 rfl 3 rfl ?_
    refine z_aload_n hC dX0_runBody_109 rfl 1 rfl ?_
    refine gA_X0_25_o hC dX0_runBody_110 ?_
    refine gA_X0_51_vo (v := (A_v_number u)) hC dX0_runBody_113 rfl ?_
    refine z_iadd hC dX0_runBody_116 ?_
    exact riA (fin := fun z => A_put_ran_bodies z u) hC hr rfl dX0_runBody_117 hm rfl
  · refine z_ite hm (fun h10_1 hm => ?_) (fun h10_1 hm => ?_)
    · refine z_lin hC dX0_runBody_10 h10_1 kc_11 rfl (off := 108) rfl (tgt := 118) (by decide) ?_
      refine z_aload_n hC dX0_runBody_118 rfl 1 rfl ?_
      refine z_iload hC dX0_runBody_119 0 rfl ?_
      refine z_iconst hC dX0_runBody_121 kI_0 ?_
      refine z_iload_n hC dX0_runBody_122 rfl 3 rfl ?_
      refine z_iload_n hC dX0_runBody_123 rfl 4 rfl ?_
      refine xA_X0_34_o hI.2 hI.1 hC (by omega) (fun _ h => h) hm dX0_runBody_124 (Nat.le_of_ble_eq_true rfl) (fun q1 hm => ?_)
      refine zuA (u2 := (A_put_ran_bodies (q1.2.1, q1.2.2) u)) rfl ?_
      refine z_aload_n hC dX0_runBody_127 rfl 1 rfl ?_
      refine gA_X0_25_o hC dX0_runBody_128 ?_
      refine gA_X0_54_vo (v := (A_v_v u)) hC dX0_runBody_131 rfl ?_
      refine z_isub hC dX0_runBody_134 ?_
      exact riA (fin := fun z => A_put_ran_bodies z u) hC hr rfl dX0_runBody_135 hm rfl
    · refine z_ite hm (fun h10_2 hm => ?_) (fun h10_2 hm => ?_)
      · refine z_lin hC dX0_runBody_10 h10_2 kc_12 rfl (off := 126) rfl (tgt := 136) (by decide) ?_
        refine z_aload_n hC dX0_runBody_136 rfl 1 rfl ?_
        refine z_iload hC dX0_runBody_137 0 rfl ?_
        refine z_iconst hC dX0_runBody_139 kI_1 ?_
        refine z_iload_n hC dX0_runBody_140 rfl 3 rfl ?_
        refine z_iload_n hC dX0_runBody_141 rfl 4 rfl ?_
        refine xA_X0_34_o hI.2 hI.1 hC (by omega) (fun _ h => h) hm dX0_runBody_142 (Nat.le_of_ble_eq_true rfl) (fun q2 hm => ?_)
        refine zuA (u2 := (A_put_ran_bodies (q2.2.1, q2.2.2) u)) rfl ?_
        refine z_iconst hC dX0_runBody_145 kI_2 ?_
        refine z_imul hC dX0_runBody_146 ?_
        exact riA (fin := fun z => A_put_ran_bodies z u) hC hr rfl dX0_runBody_147 hm rfl
      · refine z_ite hm (fun h10_3 hm => ?_) (fun h10_3 hm => ?_)
        · refine z_lin hC dX0_runBody_10 h10_3 kc_20 rfl (off := 138) rfl (tgt := 148) (by decide) ?_
          refine z_aload_n hC dX0_runBody_148 rfl 1 rfl ?_
          refine z_iconst hC dX0_runBody_149 kI_0 ?_
          refine z_iconst hC dX0_runBody_150 kI_1 ?_
          refine z_iload_n hC dX0_runBody_151 rfl 3 rfl ?_
          refine z_iload_n hC dX0_runBody_152 rfl 4 rfl ?_
          refine xA_X0_34_o hI.2 hI.1 hC (by omega) (fun _ h => h) hm dX0_runBody_153 (Nat.le_of_ble_eq_true rfl) (fun q3 hm => ?_)
          refine zuA (u2 := (A_put_ran_bodies (q3.2.1, q3.2.2) u)) rfl ?_
          refine z_bipush hC dX0_runBody_156 kB_6 ?_
          refine z_ixor hC dX0_runBody_158 ?_
          exact riA (fin := fun z => A_put_ran_bodies z u) hC hr rfl dX0_runBody_159 hm rfl
        · refine z_ite hm (fun h10_4 hm => ?_) (fun h10_4 hm => ?_)
          · refine z_lin hC dX0_runBody_10 h10_4 kc_30 rfl (off := 150) rfl (tgt := 160) (by decide) ?_
            refine z_aload_n hC dX0_runBody_160 rfl 1 rfl ?_
            refine z_iconst hC dX0_runBody_161 kI_0 ?_
            refine z_iconst hC dX0_runBody_162 kI_0 ?_
            refine z_iload_n hC dX0_runBody_163 rfl 3 rfl ?_
            refine z_iconst hC dX0_runBody_164 kI_3 ?_
            refine z_imul hC dX0_runBody_165 ?_
            refine z_iload_n hC dX0_runBody_166 rfl 4 rfl ?_
            refine xA_X0_34_o hI.2 hI.1 hC (by omega) (fun _ h => h) hm dX0_runBody_167 (Nat.le_of_ble_eq_true rfl) (fun q4 hm => ?_)
            refine zuA (u2 := (A_put_ran_bodies (q4.2.1, q4.2.2) u)) rfl ?_
            exact riA (fin := fun z => A_put_ran_bodies z u) hC hr rfl dX0_runBody_170 hm rfl
          · refine z_ite hm (fun h10_5 hm => ?_) (fun h10_5 hm => ?_)
            · refine z_lin hC dX0_runBody_10 h10_5 kc_40 rfl (off := 161) rfl (tgt := 171) (by decide) ?_
              refine z_aload_n hC dX0_runBody_171 rfl 1 rfl ?_
              refine z_iconst hC dX0_runBody_172 kI_0 ?_
              refine z_iconst hC dX0_runBody_173 kI_2 ?_
              refine z_iload_n hC dX0_runBody_174 rfl 3 rfl ?_
              refine z_iload_n hC dX0_runBody_175 rfl 4 rfl ?_
              refine xA_X0_34_o hI.2 hI.1 hC (by omega) (fun _ h => h) hm dX0_runBody_176 (Nat.le_of_ble_eq_true rfl) (fun q5 hm => ?_)
              refine zuA (u2 := (A_put_ran_bodies (q5.2.1, q5.2.2) u)) rfl ?_
              refine z_aload_n hC dX0_runBody_179 rfl 1 rfl ?_
              refine z_iload hC dX0_runBody_180 0 rfl ?_
              refine z_iconst hC dX0_runBody_182 kI_1 ?_
              refine z_iconst hC dX0_runBody_183 kI_1 ?_
              refine z_iload_n hC dX0_runBody_184 rfl 4 rfl ?_
              refine xA_X0_34_o hI.2 hI.1 hC (by omega) (fun _ h => h) hm dX0_runBody_185 (Nat.le_of_ble_eq_true rfl) (fun q6 hm => ?_)
              refine zuA (u2 := (A_put_ran_bodies (q6.2.1, q6.2.2) u)) rfl ?_
              refine z_iadd hC dX0_runBody_188 ?_
              exact riA (fin := fun z => A_put_ran_bodies z u) hC hr rfl dX0_runBody_189 hm rfl
            · refine z_ite hm (fun h10_6 hm => ?_) (fun h10_6 hm => ?_)
              · refine z_lin hC dX0_runBody_10 h10_6 kc_50 rfl (off := 180) rfl (tgt := 190) (by decide) ?_
                refine z_aload_n hC dX0_runBody_190 rfl 1 rfl ?_
                refine z_iconst hC dX0_runBody_191 kI_1 ?_
                refine z_iconst hC dX0_runBody_192 kI_0 ?_
                refine z_iload_n hC dX0_runBody_193 rfl 3 rfl ?_
                refine z_iload_n hC dX0_runBody_194 rfl 4 rfl ?_
                refine xA_X0_34_o hI.2 hI.1 hC (by omega) (fun _ h => h) hm dX0_runBody_195 (Nat.le_of_ble_eq_true rfl) (fun q7 hm => ?_)
                refine zuA (u2 := (A_put_ran_bodies (q7.2.1, q7.2.2) u)) rfl ?_
                refine z_ineg hC dX0_runBody_198 ?_
                exact riA (fin := fun z => A_put_ran_bodies z u) hC hr rfl dX0_runBody_199 hm rfl
              · refine z_ite hm (fun h10_7 hm => ?_) (fun h10_7 hm => ?_)
                · refine z_lin hC dX0_runBody_10 h10_7 kc_51 rfl (off := 190) rfl (tgt := 200) (by decide) ?_
                  refine z_aload_n hC dX0_runBody_200 rfl 1 rfl ?_
                  refine z_iconst hC dX0_runBody_201 kI_1 ?_
                  refine z_iconst hC dX0_runBody_202 kI_1 ?_
                  refine z_iload_n hC dX0_runBody_203 rfl 3 rfl ?_
                  refine z_iconst hC dX0_runBody_204 kI_1 ?_
                  refine z_iadd hC dX0_runBody_205 ?_
                  refine z_iload_n hC dX0_runBody_206 rfl 4 rfl ?_
                  refine xA_X0_34_o hI.2 hI.1 hC (by omega) (fun _ h => h) hm dX0_runBody_207 (Nat.le_of_ble_eq_true rfl) (fun q8 hm => ?_)
                  refine zuA (u2 := (A_put_ran_bodies (q8.2.1, q8.2.2) u)) rfl ?_
                  exact riA (fin := fun z => A_put_ran_bodies z u) hC hr rfl dX0_runBody_210 hm rfl
                · refine z_ite hm (fun h10_8 hm => ?_) (fun h10_8 hm => ?_)
                  · refine z_lin hC dX0_runBody_10 h10_8 kc_60 rfl (off := 201) rfl (tgt := 211) (by decide) ?_
                    refine z_aload_n hC dX0_runBody_211 rfl 1 rfl ?_
                    refine z_iconst hC dX0_runBody_212 kI_2 ?_
                    refine z_iconst hC dX0_runBody_213 kI_2 ?_
                    refine z_iload_n hC dX0_runBody_214 rfl 3 rfl ?_
                    refine z_aload_n hC dX0_runBody_215 rfl 1 rfl ?_
                    refine gA_X0_25_o hC dX0_runBody_216 ?_
                    refine gA_X0_51_vo (v := (A_v_number u)) hC dX0_runBody_219 rfl ?_
                    refine z_isub hC dX0_runBody_222 ?_
                    refine z_iload_n hC dX0_runBody_223 rfl 4 rfl ?_
                    refine xA_X0_34_o hI.2 hI.1 hC (by omega) (fun _ h => h) hm dX0_runBody_224 (Nat.le_of_ble_eq_true rfl) (fun q9 hm => ?_)
                    refine zuA (u2 := (A_put_ran_bodies (q9.2.1, q9.2.2) u)) rfl ?_
                    exact riA (fin := fun z => A_put_ran_bodies z u) hC hr rfl dX0_runBody_227 hm rfl
                  · refine z_ite hm (fun h10_9 hm => ?_) (fun h10_9 hm => ?_)
                    · refine z_lin hC dX0_runBody_10 h10_9 kc_70 rfl (off := 218) rfl (tgt := 228) (by decide) ?_
                      refine z_aload_n hC dX0_runBody_228 rfl 1 rfl ?_
                      refine z_iconst hC dX0_runBody_229 kI_3 ?_
                      refine z_iconst hC dX0_runBody_230 kI_1 ?_
                      refine z_iload_n hC dX0_runBody_231 rfl 3 rfl ?_
                      refine z_iload_n hC dX0_runBody_232 rfl 4 rfl ?_
                      refine xA_X0_34_o hI.2 hI.1 hC (by omega) (fun _ h => h) hm dX0_runBody_233 (Nat.le_of_ble_eq_true rfl) (fun q10 hm => ?_)
                      refine zuA (u2 := (A_put_ran_bodies (q10.2.1, q10.2.2) u)) rfl ?_
                      refine z_aload_n hC dX0_runBody_236 rfl 1 rfl ?_
                      refine z_iconst hC dX0_runBody_237 kI_3 ?_
                      refine z_iconst hC dX0_runBody_238 kI_0 ?_
                      refine z_iconst hC dX0_runBody_239 kI_2 ?_
                      refine z_iload_n hC dX0_runBody_240 rfl 4 rfl ?_
                      refine xA_X0_34_o hI.2 hI.1 hC (by omega) (fun _ h => h) hm dX0_runBody_241 (Nat.le_of_ble_eq_true rfl) (fun q11 hm => ?_)
                      refine zuA (u2 := (A_put_ran_bodies (q11.2.1, q11.2.2) u)) rfl ?_
                      refine z_iadd hC dX0_runBody_244 ?_
                      exact riA (fin := fun z => A_put_ran_bodies z u) hC hr rfl dX0_runBody_245 hm rfl
                    · refine z_ite hm (fun h10_10 hm => ?_) (fun h10_10 hm => ?_)
                      · refine z_lin hC dX0_runBody_10 h10_10 kc_71 rfl (off := 236) rfl (tgt := 246) (by decide) ?_
                        refine z_aload_n hC dX0_runBody_246 rfl 1 rfl ?_
                        refine z_iconst hC dX0_runBody_247 kI_3 ?_
                        refine z_iconst hC dX0_runBody_248 kI_0 ?_
                        refine z_iload_n hC dX0_runBody_249 rfl 3 rfl ?_
                        refine z_iload_n hC dX0_runBody_250 rfl 4 rfl ?_
                        refine xA_X0_34_o hI.2 hI.1 hC (by omega) (fun _ h => h) hm dX0_runBody_251 (Nat.le_of_ble_eq_true rfl) (fun q12 hm => ?_)
                        refine zuA (u2 := (A_put_ran_bodies (q12.2.1, q12.2.2) u)) rfl ?_
                        refine z_aload_n hC dX0_runBody_254 rfl 1 rfl ?_
                        refine gA_X0_25_o hC dX0_runBody_255 ?_
                        refine gA_X0_54_vo (v := (A_v_v u)) hC dX0_runBody_258 rfl ?_
                        refine z_ixor hC dX0_runBody_261 ?_
                        exact riA (fin := fun z => A_put_ran_bodies z u) hC hr rfl dX0_runBody_262 hm rfl
                      · refine z_lookup (off := 253) (tgt := 263) hC dX0_runBody_10 rfl ((lv_osw h10_0 kc_10).trans ((lv_osw h10_1 kc_11).trans ((lv_osw h10_2 kc_12).trans ((lv_osw h10_3 kc_20).trans ((lv_osw h10_4 kc_30).trans ((lv_osw h10_5 kc_40).trans ((lv_osw h10_6 kc_50).trans ((lv_osw h10_7 kc_51).trans ((lv_osw h10_8 kc_60).trans ((lv_osw h10_9 kc_70).trans ((lv_osw h10_10 kc_71).trans rfl))))))))))) (by decide) ?_
                        refine z_iconst hC dX0_runBody_263 kI_0 ?_
                        exact riA (fin := fun z => A_put_ran_bodies z u) hC hr rfl dX0_runBody_264 hm rfl
theorem xA_X0_38 {p : Program} {l : Launch} {e : Env} {s : State} {m : MethodId} {args : Array Value} {below : List Frame} {meth : Method} {c : Code} {Q : State → Prop} {D : va_G} {A : Nat → Prop} {cc : ByteArray} {nL : Nat} {lv : List (Nat × Value)} {pc : Nat} {st : List Value} {cA : Nat → ClassId} {ad : Nat → Nat} {tK tB : Nat} {kS vS : Nat → Nat} {vA : Value} {d : Nat} {x0 : Int32} {x1 : Int32} {u : SA} (hI : zInj ad 3) (C : zC p s m args meth c cc nL RX0 zTS D (zTy cA) A (zE tK tB kS vS)) (hdm : 0 + 1 ≤ d) {β : Type} {f : Int32 → Option β} {o : β} (hm : (mN_bodyFrom x0 x1 ()).bind f = some o) (hd : decode cc pc = .ok (.invokestatic 38, 3)) (h8 : (st.map fun v => v.category).sum ≤ 8) (g : ∀ q, f q = some o → zG p l e (zRm d) s m args below meth c nL D A Q (wA cA ad vA u) lv (pc + 3) (.int q :: st)) : zG p l e (zRm d) s m args below meth c nL D A Q (wA cA ad vA u) lv pc (.int x1 :: .int x0 :: st) := by
  obtain ⟨q, h1, h2⟩ := zb_some hm
  exact z_calliS C (cN_bodyFrom (ad := (fun i => i)) (cA := cA) zInj0 x0 x1 () h1) (cwX0_38 C.1.2.2.2.2 rfl rfl ⟨hdm, by have := hdm; simp only [zRm]; omega⟩) hd rfl rfl h8 (fun _ h => nomatch h) (fun _ h => h.elim) zJ_ro (g q h2)
theorem gA_X0_15_o {p : Program} {l : Launch} {e : Env} {R : Room} {s : State} {m : MethodId} {args : Array Value} {below : List Frame} {meth : Method} {c : Code} {Q : State → Prop} {D : va_G} {A : Nat → Prop} {cc : ByteArray} {nL : Nat} {lv : List (Nat × Value)} {pc : Nat} {st : List Value} {cA : Nat → ClassId} {ad : Nat → Nat} {E : zEt} {vA : Value} {u : SA} (C : zC p s m args meth c cc nL RX0 zTS D (zTy cA) A E) (hd : decode cc pc = .ok (.getfield 15, 3)) {v : Int32} (hv : A_ran u = v) (g : zG p l e R s m args below meth c nL D A Q (wA cA ad vA u) lv (pc + 3) (.int v :: st)) : zG p l e R s m args below meth c nL D A Q (wA cA ad vA u) lv pc (.ref (ad 0) :: st) := by
  subst hv; exact fun H locs ls hP hS hL => va_get (D := D) (ci := 0) (C := RX0) (T := TX0) (N := 3) C.1.1 C.1.2.1 C.1.2.2.2.2 inlX0 C.1.2.2.2.1 C.2.1 hP 0 (heA_o cA ad vA u) rfl 1 (by decide) (C.1.2.2.2.2 _ mfX0_15) (fun _ h9 => h9) (v := .int (A_ran u)) rfl hd (g H locs ls hP hS hL)
theorem pA_X0_15_o {p : Program} {l : Launch} {e : Env} {R : Room} {s : State} {m : MethodId} {args : Array Value} {below : List Frame} {meth : Method} {c : Code} {Q : State → Prop} {D : va_G} {A : Nat → Prop} {cc : ByteArray} {nL : Nat} {lv : List (Nat × Value)} {pc : Nat} {st : List Value} {cA : Nat → ClassId} {ad : Nat → Nat} {E : zEt} {vA : Value} {u : SA} {v : Int32} (C : zC p s m args meth c cc nL RX0 zTS D (zTy cA) A E) (hI : zInj ad 3) (hA : ∀ q, zAd ad 3 q → A q) (hd : decode cc pc = .ok (.putfield 15, 3)) (g : zG p l e R s m args below meth c nL D A Q (wA cA ad vA (A_set_ran v u)) lv (pc + 3) st) : zG p l e R s m args below meth c nL D A Q (wA cA ad vA u) lv pc (.int v :: .ref (ad 0) :: st) := fun H locs ls hP hS hL => va_put (D := D) (ci := 0) (C := RX0) (T := TX0) (N := 3) C.1.1 C.1.2.1 C.1.2.2.2.2 inlX0 tyX0 tyX0_ok nmX0 C.1.2.2.2.1 C.2.1 hP (zD_mono (wA_D hI cA vA u) hA) hS 0 (heA_o cA ad vA u) rfl 1 (by decide) (C.1.2.2.2.2 _ mfX0_15) (fun _ h9 => h9) rfl (ty := .int) (by decide +kernel) rfl rfl (Nat.le_of_ble_eq_true rfl) hd (fun H1 locs1 hP1 _ hS1 => g H1 locs1 ls hP1 hS1 hL)
theorem xA_X0_41_o {p : Program} {l : Launch} {e : Env} {s : State} {m : MethodId} {args : Array Value} {below : List Frame} {meth : Method} {c : Code} {Q : State → Prop} {D : va_G} {A : Nat → Prop} {cc : ByteArray} {nL : Nat} {lv : List (Nat × Value)} {pc : Nat} {st : List Value} {cA : Nat → ClassId} {ad : Nat → Nat} {tK tB : Nat} {kS vS : Nat → Nat} {d dF : Nat} {x1 : Int32} {x2 : Int32} {x3 : Int32} {u : SA} {RF : Int32 → Int32 → Int32 → SA → Option (Int32 × Int32 × (Nat → Int32))} (hRF : ∀ (x1 : Int32) (x2 : Int32) (x3 : Int32) (u : SA) (r : Int32) (w1 : Int32 × (Nat → Int32)), RF x1 x2 x3 u = some (r, w1) → Met l yX0_runBody (zWs yX0_runBody cX0_runBody 5 (some .int)) (zRm dF) (va_Pc [.ref (ad 0), .int x1, .int x2, .int x3] (zPre D (zTy cA) (zE tK tB kS vS) (zAd ad 3) (wA cA ad (.ref (ad 2)) u))) (zQi r (zBw D (wA cA ad (.ref (ad 2)) (A_put_ran_bodies w1 u))) (zAd ad 3)) 0 0 (zAd ad 3)) (hI : zInj ad 3) (C : zC p s m args meth c cc nL RX0 zTS D (zTy cA) A (zE tK tB kS vS)) (hdm : dF + 1 ≤ d) (hA : ∀ q, zAd ad 3 q → A q) {β : Type} {f : (Int32 × Int32 × (Nat → Int32)) → Option β} {o : β} (hm : (RF x1 x2 x3 u).bind f = some o) (hd : decode cc pc = .ok (.invokevirtual 41, 3)) (h8 : (st.map fun v => v.category).sum ≤ 8) (g : ∀ q, f q = some o → zG p l e (zRm d) s m args below meth c nL D A Q (wA cA ad (.ref (ad 2)) (A_put_ran_bodies q.2 u)) lv (pc + 3) (.int q.1 :: st)) : zG p l e (zRm d) s m args below meth c nL D A Q (wA cA ad (.ref (ad 2)) u) lv pc (.int x3 :: .int x2 :: .int x1 :: .ref (ad 0) :: st) := by
  obtain ⟨q, h1, h2⟩ := zb_some hm
  exact z_calliV C (hRF x1 x2 x3 u q.1 q.2 h1) (cwX0_41 C.1.2.2.2.2 rfl rfl ⟨hdm, by have := hdm; simp only [zRm]; omega⟩) hd rfl rfl h8 ⟨_, rfl, rfl⟩ (List.mem_of_getElem? (heA_o cA ad _ u)) (fun _ h => h) hA zJ_same (g q h2)
theorem gA_X0_11_o {p : Program} {l : Launch} {e : Env} {R : Room} {s : State} {m : MethodId} {args : Array Value} {below : List Frame} {meth : Method} {c : Code} {Q : State → Prop} {D : va_G} {A : Nat → Prop} {cc : ByteArray} {nL : Nat} {lv : List (Nat × Value)} {pc : Nat} {st : List Value} {cA : Nat → ClassId} {ad : Nat → Nat} {E : zEt} {vA : Value} {u : SA} (C : zC p s m args meth c cc nL RX0 zTS D (zTy cA) A E) (hd : decode cc pc = .ok (.getfield 11, 3)) (g : zG p l e R s m args below meth c nL D A Q (wA cA ad vA u) lv (pc + 3) (.ref (ad 1) :: st)) : zG p l e R s m args below meth c nL D A Q (wA cA ad vA u) lv pc (.ref (ad 0) :: st) := by
  exact fun H locs ls hP hS hL => va_get (D := D) (ci := 0) (C := RX0) (T := TX0) (N := 3) C.1.1 C.1.2.1 C.1.2.2.2.2 inlX0 C.1.2.2.2.1 C.2.1 hP 0 (heA_o cA ad vA u) rfl 0 (by decide) (C.1.2.2.2.2 _ mfX0_11) (fun _ h9 => h9) (v := .ref (ad 1)) rfl hd (g H locs ls hP hS hL)
theorem sA_bodies {p : Program} {l : Launch} {e : Env} {R : Room} {s : State} {m : MethodId} {args : Array Value} {below : List Frame} {meth : Method} {c : Code} {Q : State → Prop} {D : va_G} {A : Nat → Prop} {cc : ByteArray} {nL : Nat} {lv : List (Nat × Value)} {pc : Nat} {st : List Value} {cA : Nat → ClassId} {ad : Nat → Nat} {E : zEt} {vA : Value} {own : String} {u : SA} {i : Int32} {x : Int32} {β : Type} {k : Option β} {r : β} (C : zC p s m args meth c cc nL own zTS D (zTy cA) A E) (hI : zInj ad 3) (hA : ∀ q, zAd ad 3 q → A q) (hm : zgi i 20 k = some r) (hd : decode cc pc = .ok (.iastore, 1)) (g : k = some r → zG p l e R s m args below meth c nL D A Q (wA cA ad vA (A_set_bodies (upd (A_bodies u) i.toNatClampNeg x) u)) lv (pc + 1) st) : zG p l e R s m args below meth c nL D A Q (wA cA ad vA u) lv pc (.int x :: .int i :: .ref (ad 1) :: st) := fun H locs ls hP hS hL => va_iast C.1.1 C.1.2.1 C.2.1 hP (zD_mono (wA_D hI cA vA u) hA) hS 1 0 (heA_bodies cA ad vA u) rfl (zgi_some hm).1 hd (fun H1 locs1 hP1 _ hS1 => g (zgi_some hm).2 H1 locs1 ls hP1 hS1 hL)
def mA_runFrom_J36 (RB : Int32 → Int32 → Int32 → SA → Option (Int32 × Int32 × (Nat → Int32))) (x3 : Int32) (x4 : Int32) (x5 : Int32) (u : SA) : Option (Int32 × Int32 × (Nat → Int32)) :=
  (RB x5 x3 (x4 + (1 : Int32)) (A_put_ran_bodies (((A_ran u) + (1 : Int32)), (A_bodies u)) u)).bind fun q2 => (some (q2.1, (q2.2.1, q2.2.2)))
set_option maxRecDepth 100000 in
set_option maxHeartbeats 4000000 in
theorem jA_runFrom_36 {l : Launch} {D : va_G} {cA : Nat → ClassId} {ad : Nat → Nat} {p : Program} {e : Env} {s : State} {m : MethodId} {args : Array Value} {below : List Frame} {meth : Method} {c : Code} {tK tB : Nat} {kS vS : Nat → Nat} {dF : Nat} {r : Int32} {w' : Int32 × (Nat → Int32)}  {RB : Int32 → Int32 → Int32 → SA → Option (Int32 × Int32 × (Nat → Int32))} {x3 : Int32} {x4 : Int32} {x5 : Int32} {u : SA} (hI : zInj ad 3 ∧ (∀ (x1 : Int32) (x2 : Int32) (x3 : Int32) (u : SA) (r : Int32) (w1 : Int32 × (Nat → Int32)), RB x1 x2 x3 u = some (r, w1) → Met l yX0_runBody (zWs yX0_runBody cX0_runBody 5 (some .int)) (zRm dF) (va_Pc [.ref (ad 0), .int x1, .int x2, .int x3] (zPre D (zTy cA) (zE tK tB kS vS) (zAd ad 3) (wA cA ad (.ref (ad 2)) u))) (zQi r (zBw D (wA cA ad (.ref (ad 2)) (A_put_ran_bodies w1 u))) (zAd ad 3)) 0 0 (zAd ad 3))) (hC : zC p s m args meth c cX0_runFrom 6 RX0 zTS D (zTy cA) (zAd ad 3) (zE tK tB kS vS)) (hr : meth.sig.returnType = (some .int)) (hm : mA_runFrom_J36 RB x3 x4 x5 u = some (r, w')) : zG p l e (zRm (dF + 1)) s m args below meth c 6 D (zAd ad 3) (MQ below (zQi r (zBw D (wA cA ad (.ref (ad 2)) (A_put_ran_bodies w' u))) (zAd ad 3)) args s 0 0 (zAd ad 3)) (wA cA ad (.ref (ad 2)) u) [(0, .ref (ad 0)), (3, .int x3), (4, .int x4), (5, .int x5)] 36 [] := by
  unfold mA_runFrom_J36 at hm
  refine z_aload_n hC dX0_runFrom_36 rfl 0 rfl ?_
  refine z_dup hC dX0_runFrom_37 rfl ?_
  refine gA_X0_15_o (v := (A_ran u)) hC dX0_runFrom_38 rfl ?_
  refine z_iconst hC dX0_runFrom_41 kI_1 ?_
  refine z_iadd hC dX0_runFrom_42 ?_
  refine pA_X0_15_o hC hI.1 (fun _ h => h) dX0_runFrom_43 ?_
  refine zuA (u2 := (A_put_ran_bodies (((A_ran u) + (1 : Int32)), (A_bodies u)) u)) rfl ?_
  refine z_aload_n hC dX0_runFrom_46 rfl 0 rfl ?_
  refine z_iload hC dX0_runFrom_47 3 rfl ?_
  refine z_iload_n hC dX0_runFrom_49 rfl 1 rfl ?_
  refine z_iload hC dX0_runFrom_50 2 rfl ?_
  refine z_iconst hC dX0_runFrom_52 kI_1 ?_
  refine z_iadd hC dX0_runFrom_53 ?_
  refine xA_X0_41_o hI.2 hI.1 hC (by omega) (fun _ h => h) hm dX0_runFrom_54 (Nat.le_of_ble_eq_true rfl) (fun q2 hm => ?_)
  refine zuA (u2 := (A_put_ran_bodies (q2.2.1, q2.2.2) u)) rfl ?_
  exact riA (fin := fun z => A_put_ran_bodies z u) hC hr rfl dX0_runFrom_57 hm rfl
def mA_runFrom (RB : Int32 → Int32 → Int32 → SA → Option (Int32 × Int32 × (Nat → Int32))) (x1 : Int32) (x2 : Int32) (x3 : Int32) (x4 : Int32) (u : SA) : Option (Int32 × Int32 × (Nat → Int32)) :=
  if x4 ≤ (30 : Int32) then ((mN_bodyFrom x1 x2 ()).bind fun q1 => (if (20 : Int32) ≤ (A_ran u) then (mA_runFrom_J36 RB x3 x4 q1 u) else (zgi (A_ran u) 20 (mA_runFrom_J36 RB x3 x4 q1 (A_put_ran_bodies ((A_ran u), (upd (A_bodies u) ((A_ran u)).toNatClampNeg q1)) u))))) else (some ((0 : Int32), ((A_ran u), (A_bodies u))))
set_option maxRecDepth 100000 in
set_option maxHeartbeats 4000000 in
theorem cA_runFrom {l : Launch} {D : va_G} {cA : Nat → ClassId} {ad : Nat → Nat} {tK tB : Nat} {kS vS : Nat → Nat} {dF : Nat} {RB : Int32 → Int32 → Int32 → SA → Option (Int32 × Int32 × (Nat → Int32))} (hI : zInj ad 3 ∧ (∀ (x1 : Int32) (x2 : Int32) (x3 : Int32) (u : SA) (r : Int32) (w1 : Int32 × (Nat → Int32)), RB x1 x2 x3 u = some (r, w1) → Met l yX0_runBody (zWs yX0_runBody cX0_runBody 5 (some .int)) (zRm dF) (va_Pc [.ref (ad 0), .int x1, .int x2, .int x3] (zPre D (zTy cA) (zE tK tB kS vS) (zAd ad 3) (wA cA ad (.ref (ad 2)) u))) (zQi r (zBw D (wA cA ad (.ref (ad 2)) (A_put_ran_bodies w1 u))) (zAd ad 3)) 0 0 (zAd ad 3))) (x1 : Int32) (x2 : Int32) (x3 : Int32) (x4 : Int32) (u : SA) {r : Int32} {w' : Int32 × (Nat → Int32)} (hm : mA_runFrom RB x1 x2 x3 x4 u = some (r, w')) : Met l yX0_runFrom (zWs yX0_runFrom cX0_runFrom 6 (some .int)) (zRm (dF + 1)) (va_Pc [.ref (ad 0), .int x1, .int x2, .int x3, .int x4] (zPre D (zTy cA) (zE tK tB kS vS) (zAd ad 3) (wA cA ad (.ref (ad 2)) u))) (zQi r (zBw D (wA cA ad (.ref (ad 2)) (A_put_ran_bodies w' u))) (zAd ad 3)) 0 0 (zAd ad 3) := by
  refine z_met (lv := [(0, .ref (ad 0)), (1, .int x1), (2, .int x2), (3, .int x3), (4, .int x4)]) plX0 rfl rfl (Nat.le_of_ble_eq_true rfl) rfl ?_
  intro p e s m below meth c hC hr hin
  unfold mA_runFrom at hm
  refine z_iload hC dX0_runFrom_0 4 rfl ?_
  refine z_bipush hC dX0_runFrom_2 kB_30 ?_
  refine z_icmp_le (tgt := 9) hC hm dX0_runFrom_4 (by decide) (fun hm => ?_) (fun hm => ?_)
  · refine z_iload_n hC dX0_runFrom_9 rfl 1 rfl ?_
    refine z_iload_n hC dX0_runFrom_10 rfl 2 rfl ?_
    refine xA_X0_38 hI.1 hC (by omega) hm dX0_runFrom_11 (Nat.le_of_ble_eq_true rfl) (fun q1 hm => ?_)
    refine z_istore (lv' := [(5, .int q1), (0, .ref (ad 0)), (1, .int x1), (2, .int x2), (3, .int x3), (4, .int x4)]) hC dX0_runFrom_14 (by decide) rfl ?_
    refine z_aload_n hC dX0_runFrom_16 rfl 1 rfl ?_
    refine gA_X0_15_o (v := (A_ran u)) hC dX0_runFrom_17 rfl ?_
    refine z_bipush hC dX0_runFrom_20 kB_20 ?_
    refine z_icmp_ge (tgt := 36) hC hm dX0_runFrom_22 (by decide) (fun hm => ?_) (fun hm => ?_)
    · refine z_lv hC [1, 4, 5, 0] rfl ?_
      exact jA_runFrom_36 hI hC hr hm
    · refine z_aload_n hC dX0_runFrom_25 rfl 1 rfl ?_
      refine gA_X0_11_o hC dX0_runFrom_26 ?_
      refine z_aload_n hC dX0_runFrom_29 rfl 1 rfl ?_
      refine gA_X0_15_o (v := (A_ran u)) hC dX0_runFrom_30 rfl ?_
      refine z_iload hC dX0_runFrom_33 0 rfl ?_
      refine sA_bodies hC hI.1 (fun _ h => h) hm dX0_runFrom_35 (fun hm => ?_)
      refine zuA (u2 := (A_put_ran_bodies ((A_ran u), (upd (A_bodies u) ((A_ran u)).toNatClampNeg q1)) u)) rfl ?_
      refine z_lv hC [1, 4, 5, 0] rfl ?_
      exact jA_runFrom_36 hI hC hr hm
  · refine z_iconst hC dX0_runFrom_7 kI_0 ?_
    exact riA (fin := fun z => A_put_ran_bodies z u) hC hr rfl dX0_runFrom_8 hm rfl
def mA_F : Nat → Int32 → Int32 → Int32 → Int32 → SA → Option (Int32 × Int32 × (Nat → Int32))
  | 0, _, _, _, _, _ => none
  | n + 1, k, a, x, d, u => mA_runFrom (mA_runBody (mA_F n)) k a x d u
def mA_dF : Nat → Nat
  | 0 => 0
  | n + 1 => mA_dF n + 2
theorem cA_F {l : Launch} {D : va_G} {cA : Nat → ClassId} {ad : Nat → Nat} {tK tB : Nat} {kS vS : Nat → Nat} (hI : zInj ad 3) : ∀ (n : Nat) (x1 x2 x3 x4 : Int32) (u : SA) (r : Int32) (w1 : Int32 × (Nat → Int32)), mA_F n x1 x2 x3 x4 u = some (r, w1) → Met l yX0_runFrom (zWs yX0_runFrom cX0_runFrom 6 (some .int)) (zRm (mA_dF n)) (va_Pc [.ref (ad 0), .int x1, .int x2, .int x3, .int x4] (zPre D (zTy cA) (zE tK tB kS vS) (zAd ad 3) (wA cA ad (.ref (ad 2)) u))) (zQi r (zBw D (wA cA ad (.ref (ad 2)) (A_put_ran_bodies w1 u))) (zAd ad 3)) 0 0 (zAd ad 3) := by
  intro n
  induction n with
  | zero => intro x1 x2 x3 x4 u r w1 hm; exact z_none hm
  | succ n ih =>
    intro x1 x2 x3 x4 u r w1 hm
    exact cA_runFrom (dF := mA_dF n + 1) ⟨hI, fun x1 x2 x3 u r w1 h => cA_runBody ⟨hI, ih⟩ x1 x2 x3 u h⟩ x1 x2 x3 x4 u hm
def mA_runFromC (x1 x2 x3 x4 : Int32) (u : SA) : Option (Int32 × Int32 × (Nat → Int32)) := mA_F 12 x1 x2 x3 x4 u
theorem cA_runFromC {l : Launch} {D : va_G} {cA : Nat → ClassId} {ad : Nat → Nat} {tK tB : Nat} {kS vS : Nat → Nat} (hI : zInj ad 3) (x1 x2 x3 x4 : Int32) (u : SA) {r : Int32} {w1 : Int32 × (Nat → Int32)} (hm : mA_runFromC x1 x2 x3 x4 u = some (r, w1)) : Met l yX0_runFrom (zWs yX0_runFrom cX0_runFrom 6 (some .int)) (zRm 24) (va_Pc [.ref (ad 0), .int x1, .int x2, .int x3, .int x4] (zPre D (zTy cA) (zE tK tB kS vS) (zAd ad 3) (wA cA ad (.ref (ad 2)) u))) (zQi r (zBw D (wA cA ad (.ref (ad 2)) (A_put_ran_bodies w1 u))) (zAd ad 3)) 0 0 (zAd ad 3) := cA_F hI 12 x1 x2 x3 x4 u r w1 hm
theorem pA_X0_25_o {p : Program} {l : Launch} {e : Env} {R : Room} {s : State} {m : MethodId} {args : Array Value} {below : List Frame} {meth : Method} {c : Code} {Q : State → Prop} {D : va_G} {A : Nat → Prop} {cc : ByteArray} {nL : Nat} {lv : List (Nat × Value)} {pc : Nat} {st : List Value} {cA : Nat → ClassId} {ad : Nat → Nat} {E : zEt} {vA : Value} {u : SA} {v : Nat} (C : zC p s m args meth c cc nL RX0 zTS D (zTy cA) A E) (hI : zInj ad 3) (hA : ∀ q, zAd ad 3 q → A q) (hd : decode cc pc = .ok (.putfield 25, 3)) (g : zG p l e R s m args below meth c nL D A Q (wA cA ad (.ref v) u) lv (pc + 3) st) : zG p l e R s m args below meth c nL D A Q (wA cA ad vA u) lv pc (.ref v :: .ref (ad 0) :: st) := fun H locs ls hP hS hL => va_put (D := D) (ci := 0) (C := RX0) (T := TX0) (N := 3) C.1.1 C.1.2.1 C.1.2.2.2.2 inlX0 tyX0 tyX0_ok nmX0 C.1.2.2.2.1 C.2.1 hP (zD_mono (wA_D hI cA vA u) hA) hS 0 (heA_o cA ad vA u) rfl 2 (by decide) (C.1.2.2.2.2 _ mfX0_25) (fun _ h9 => h9) rfl (ty := (.object "FarVoice$Voice")) (by decide +kernel) rfl rfl (Nat.le_of_ble_eq_true rfl) hd (fun H1 locs1 hP1 _ hS1 => g H1 locs1 ls hP1 hS1 hL)
theorem xA_X0_34 {p : Program} {l : Launch} {e : Env} {s : State} {m : MethodId} {args : Array Value} {below : List Frame} {meth : Method} {c : Code} {Q : State → Prop} {D : va_G} {A : Nat → Prop} {cc : ByteArray} {nL : Nat} {lv : List (Nat × Value)} {pc : Nat} {st : List Value} {cA : Nat → ClassId} {ad : Nat → Nat} {tK tB : Nat} {kS vS : Nat → Nat} {d : Nat} {x1 : Int32} {x2 : Int32} {x3 : Int32} {x4 : Int32} {u : SA} (hI : zInj ad 3) (C : zC p s m args meth c cc nL RX0 zTS D (zTy cA) A (zE tK tB kS vS)) (hdm : 24 + 1 ≤ d) (hA : ∀ q, zAd ad 3 q → A q) {β : Type} {f : (Int32 × Int32 × (Nat → Int32)) → Option β} {o : β} (hm : (mA_runFromC x1 x2 x3 x4 u).bind f = some o) (hd : decode cc pc = .ok (.invokevirtual 34, 3)) (h8 : (st.map fun v => v.category).sum ≤ 8) (g : ∀ q, f q = some o → zG p l e (zRm d) s m args below meth c nL D A Q (wA cA ad (.ref (ad 2)) (A_put_ran_bodies q.2 u)) lv (pc + 3) (.int q.1 :: st)) : zG p l e (zRm d) s m args below meth c nL D A Q (wA cA ad (.ref (ad 2)) u) lv pc (.int x4 :: .int x3 :: .int x2 :: .int x1 :: .ref (ad 0) :: st) := by
  obtain ⟨q, h1, h2⟩ := zb_some hm
  exact z_calliV C (cA_runFromC (ad := ad) (cA := cA) hI x1 x2 x3 x4 u h1) (cwX0_34 C.1.2.2.2.2 rfl rfl ⟨hdm, by have := hdm; simp only [zRm]; omega⟩) hd rfl rfl h8 ⟨_, rfl, rfl⟩ (List.mem_of_getElem? (heA_o cA ad _ u)) (fun _ h => h) hA zJ_same (g q h2)
def mA_run (x2 : Int32) (x3 : Int32) (u : SA) : Option (Int32 × Int32 × (Nat → Int32)) :=
  (mA_runFromC (A_v_kind u) x2 x3 (0 : Int32) u).bind fun q1 => (some (q1.1, (q1.2.1, q1.2.2)))
set_option maxRecDepth 100000 in
set_option maxHeartbeats 4000000 in
theorem cA_run {l : Launch} {D : va_G} {cA : Nat → ClassId} {ad : Nat → Nat} {tK tB : Nat} {kS vS : Nat → Nat} {vA : Value} (hI : zInj ad 3) (x2 : Int32) (x3 : Int32) (u : SA) {r : Int32} {w' : Int32 × (Nat → Int32)} (hm : mA_run x2 x3 u = some (r, w')) : Met l yX0_run (zWs yX0_run cX0_run 4 (some .int)) (zRm 25) (va_Pc [.ref (ad 0), .ref (ad 2), .int x2, .int x3] (zPre D (zTy cA) (zE tK tB kS vS) (zAd ad 3) (wA cA ad vA u))) (zQi r (zBw D (wA cA ad (.ref (ad 2)) (A_put_ran_bodies w' u))) (zAd ad 3)) 0 0 (zAd ad 3) := by
  refine z_met (lv := [(0, .ref (ad 0)), (1, .ref (ad 2)), (2, .int x2), (3, .int x3)]) plX0 rfl rfl (Nat.le_of_ble_eq_true rfl) rfl ?_
  intro p e s m below meth c hC hr hin
  unfold mA_run at hm
  refine z_aload_n hC dX0_run_0 rfl 0 rfl ?_
  refine z_aload_n hC dX0_run_1 rfl 1 rfl ?_
  refine pA_X0_25_o hC hI (fun _ h => h) dX0_run_2 ?_
  refine z_aload_n hC dX0_run_5 rfl 0 rfl ?_
  refine z_aload_n hC dX0_run_6 rfl 1 rfl ?_
  refine gA_X0_29_vo (v := (A_v_kind u)) hC dX0_run_7 rfl ?_
  refine z_iload_n hC dX0_run_10 rfl 2 rfl ?_
  refine z_iload_n hC dX0_run_11 rfl 3 rfl ?_
  refine z_iconst hC dX0_run_12 kI_0 ?_
  refine xA_X0_34 hI hC (Nat.le_of_ble_eq_true rfl) (fun _ h => h) hm dX0_run_13 (Nat.le_of_ble_eq_true rfl) (fun q1 hm => ?_)
  refine zuA (u2 := (A_put_ran_bodies (q1.2.1, q1.2.2) u)) rfl ?_
  exact riA (fin := fun z => A_put_ran_bodies z u) hC hr rfl dX0_run_16 hm rfl
