def mM_latest_L31 (K21 : Int32 → SM → Option (Int32 × (Nat → Int32))) (x1 : Int32) (x2 : Int32) (x3 : Int32) : Nat → Int32 → Int32 → SM → Option (Int32 × (Nat → Int32))
  | 0, _, _, _ => none
  | n + 1, x4, x5, u => if ((2 : Int32) * (M_letters u)) ≤ x5 then (if x4 = 0 then (K21 (x3 + (-1 : Int32)) u) else (some (x3, ((M_pile u))))) else (if x4 = 0 then (if x4 = 0 then (K21 (x3 + (-1 : Int32)) u) else (some (x3, ((M_pile u))))) else ((mM_joined x1 x2 x5 (M_jaw u) x3 u).bind fun q1 => (mM_latest_L31 K21 x1 x2 x3 n q1.1 (x5 + (1 : Int32)) (M_put_pile (q1.2) u))))
set_option maxRecDepth 100000 in
set_option maxHeartbeats 4000000 in
theorem lM_latest_31 {l : Launch} {D : va_G} {cA : Nat → ClassId} {ad : Nat → Nat} {p : Program} {e : Env} {s : State} {m : MethodId} {args : Array Value} {below : List Frame} {meth : Method} {c : Code} {E : zEt} {r : Int32} {w' : (Nat → Int32)}  {K21 : Int32 → SM → Option (Int32 × (Nat → Int32))} {x1 : Int32} {x2 : Int32} {x3 : Int32} (hI : zInj ad 23) (hC : zC p s m args meth c cX8_latest 6 RX8 zTS D (zTy cA) (zAd ad 23) E) (hr : meth.sig.returnType = (some .int)) (hK21 : ∀ (x3 : Int32) (u : SM), K21 x3 u = some (r, w') → zG p l e (zRm 7) s m args below meth c 6 D (zAd ad 23) (MQ below (zQi r (zBw D (wM cA ad (M_put_pile w' u))) (zAd ad 23)) args s 0 0 (zAd ad 23)) (wM cA ad u) [(0, .ref (ad 0)), (1, .int x1), (2, .int x2), (3, .int x3)] 21 []) : ∀ (n : Nat) (x4 : Int32) (x5 : Int32) (u : SM), mM_latest_L31 K21 x1 x2 x3 n x4 x5 u = some (r, w') → zG p l e (zRm 7) s m args below meth c 6 D (zAd ad 23) (MQ below (zQi r (zBw D (wM cA ad (M_put_pile w' u))) (zAd ad 23)) args s 0 0 (zAd ad 23)) (wM cA ad u) [(0, .ref (ad 0)), (1, .int x1), (2, .int x2), (3, .int x3), (4, .int x4), (5, .int x5)] 31 [] := by
  intro n
  induction n with
  | zero => intro x4 x5 u hm; exact z_none hm
  | succ n ih =>
    intro x4 x5 u hm
    rw [mM_latest_L31] at hm
    refine z_iload hC dX8_latest_31 5 rfl ?_
    refine z_iconst hC dX8_latest_33 kI_2 ?_
    refine z_aload_n hC dX8_latest_34 rfl 0 rfl ?_
    refine gM_X8_19_o (v := (M_letters u)) hC dX8_latest_35 rfl ?_
    refine z_imul hC dX8_latest_38 ?_
    refine z_icmp_ge (tgt := 68) hC hm dX8_latest_39 (by decide) (fun hm => ?_) (fun hm => ?_)
    · refine z_iload hC dX8_latest_68 4 rfl ?_
      refine z_if_eq (tgt := 75) hC hm dX8_latest_70 (by decide) (fun hm => ?_) (fun hm => ?_)
      · refine z_iinc (lv' := [(3, .int (x3 + (-1 : Int32))), (0, .ref (ad 0)), (1, .int x1), (2, .int x2), (4, .int x4), (5, .int x5)]) (k := 3) (v := (x3 + (-1 : Int32))) hC dX8_latest_75 rfl rfl (by decide) rfl ?_
        refine z_goto (tgt := 21) hC dX8_latest_78 (by decide) ?_
        refine z_lv hC [1, 2, 3, 0] rfl ?_
        exact hK21 _ _ hm
      · refine z_iload_n hC dX8_latest_73 rfl 3 rfl ?_
        exact riM (fin := fun z => M_put_pile z u) hC hr rfl dX8_latest_74 hm rfl
    · refine z_iload hC dX8_latest_42 4 rfl ?_
      refine z_if_eq (tgt := 68) hC hm dX8_latest_44 (by decide) (fun hm => ?_) (fun hm => ?_)
      · refine z_iload hC dX8_latest_68 4 rfl ?_
        refine z_if_eq (tgt := 75) hC hm dX8_latest_70 (by decide) (fun hm => ?_) (fun hm => ?_)
        · refine z_iinc (lv' := [(3, .int (x3 + (-1 : Int32))), (0, .ref (ad 0)), (1, .int x1), (2, .int x2), (4, .int x4), (5, .int x5)]) (k := 3) (v := (x3 + (-1 : Int32))) hC dX8_latest_75 rfl rfl (by decide) rfl ?_
          refine z_goto (tgt := 21) hC dX8_latest_78 (by decide) ?_
          refine z_lv hC [1, 2, 3, 0] rfl ?_
          exact hK21 _ _ hm
        · refine z_iload_n hC dX8_latest_73 rfl 3 rfl ?_
          exact riM (fin := fun z => M_put_pile z u) hC hr rfl dX8_latest_74 hm rfl
      · refine z_aload_n hC dX8_latest_47 rfl 0 rfl ?_
        refine z_iload_n hC dX8_latest_48 rfl 1 rfl ?_
        refine z_iload_n hC dX8_latest_49 rfl 2 rfl ?_
        refine z_iload hC dX8_latest_50 5 rfl ?_
        refine z_aload_n hC dX8_latest_52 rfl 0 rfl ?_
        refine gM_X8_13_o (v := (M_jaw u)) hC dX8_latest_53 rfl ?_
        refine z_iload_n hC dX8_latest_56 rfl 3 rfl ?_
        refine xM_X8_265 hI hC (Nat.le_of_ble_eq_true rfl) (fun _ h => h) hm dX8_latest_57 (Nat.le_of_ble_eq_true rfl) (fun q1 hm => ?_)
        refine zuM (u2 := (M_put_pile (q1.2) u)) rfl ?_
        refine z_istore (lv' := [(4, .int q1.1), (0, .ref (ad 0)), (1, .int x1), (2, .int x2), (3, .int x3), (5, .int x5)]) hC dX8_latest_60 (by decide) rfl ?_
        refine z_iinc (lv' := [(5, .int (x5 + (1 : Int32))), (4, .int q1.1), (0, .ref (ad 0)), (1, .int x1), (2, .int x2), (3, .int x3)]) (k := 5) (v := (x5 + (1 : Int32))) hC dX8_latest_62 rfl rfl (by decide) rfl ?_
        refine z_goto (tgt := 31) hC dX8_latest_65 (by decide) ?_
        refine z_lv hC [2, 3, 4, 5, 1, 0] rfl ?_
        exact ih _ _ _ hm
def mM_latest_L21 (x1 : Int32) (x2 : Int32) : Nat → Int32 → SM → Option (Int32 × (Nat → Int32))
  | 0, _, _ => none
  | n + 1, x3, u => if x3 < 0 then (some ((-5 : Int32), ((M_pile u)))) else (mM_latest_L31 (mM_latest_L21 x1 x2 n) x1 x2 x3 256 (1 : Int32) (0 : Int32) u)
set_option maxRecDepth 100000 in
set_option maxHeartbeats 4000000 in
theorem lM_latest_21 {l : Launch} {D : va_G} {cA : Nat → ClassId} {ad : Nat → Nat} {p : Program} {e : Env} {s : State} {m : MethodId} {args : Array Value} {below : List Frame} {meth : Method} {c : Code} {E : zEt} {r : Int32} {w' : (Nat → Int32)}  {x1 : Int32} {x2 : Int32} (hI : zInj ad 23) (hC : zC p s m args meth c cX8_latest 6 RX8 zTS D (zTy cA) (zAd ad 23) E) (hr : meth.sig.returnType = (some .int)) : ∀ (n : Nat) (x3 : Int32) (u : SM), mM_latest_L21 x1 x2 n x3 u = some (r, w') → zG p l e (zRm 7) s m args below meth c 6 D (zAd ad 23) (MQ below (zQi r (zBw D (wM cA ad (M_put_pile w' u))) (zAd ad 23)) args s 0 0 (zAd ad 23)) (wM cA ad u) [(0, .ref (ad 0)), (1, .int x1), (2, .int x2), (3, .int x3)] 21 [] := by
  intro n
  induction n with
  | zero => intro x3 u hm; exact z_none hm
  | succ n ih =>
    intro x3 u hm
    rw [mM_latest_L21] at hm
    refine z_iload_n hC dX8_latest_21 rfl 3 rfl ?_
    refine z_if_lt (tgt := 81) hC hm dX8_latest_22 (by decide) (fun hm => ?_) (fun hm => ?_)
    · refine z_bipush hC dX8_latest_81 kB_m5 ?_
      exact riM (fin := fun z => M_put_pile z u) hC hr rfl dX8_latest_83 hm rfl
    · refine z_iconst hC dX8_latest_25 kI_1 ?_
      refine z_istore (lv' := [(4, .int (1 : Int32)), (0, .ref (ad 0)), (1, .int x1), (2, .int x2), (3, .int x3)]) hC dX8_latest_26 (by decide) rfl ?_
      refine z_iconst hC dX8_latest_28 kI_0 ?_
      refine z_istore (lv' := [(5, .int (0 : Int32)), (4, .int (1 : Int32)), (0, .ref (ad 0)), (1, .int x1), (2, .int x2), (3, .int x3)]) hC dX8_latest_29 (by decide) rfl ?_
      refine z_lv hC [2, 3, 4, 5, 1, 0] rfl ?_
      exact lM_latest_31 hI hC hr (ih) _ _ _ _ hm
def mM_latest (x1 : Int32) (x2 : Int32) (u : SM) : Option (Int32 × (Nat → Int32)) :=
  if (mM_isVoice x1 u) = 0 then (some ((-1 : Int32), ((M_pile u)))) else (if (mM_isSeat x2 u) = 0 then (some ((-1 : Int32), ((M_pile u)))) else (mM_latest_L21 x1 x2 256 (20 : Int32) u))
set_option maxRecDepth 100000 in
set_option maxHeartbeats 4000000 in
theorem cM_latest {l : Launch} {D : va_G} {cA : Nat → ClassId} {ad : Nat → Nat} {E : zEt} (hI : zInj ad 23) (x1 : Int32) (x2 : Int32) (u : SM) {r : Int32} {w' : (Nat → Int32)} (hm : mM_latest x1 x2 u = some (r, w')) : Met l yX8_latest (zWs yX8_latest cX8_latest 6 (some .int)) (zRm 7) (va_Pc [.ref (ad 0), .int x1, .int x2] (zPre D (zTy cA) E (zAd ad 23) (wM cA ad u))) (zQi r (zBw D (wM cA ad (M_put_pile w' u))) (zAd ad 23)) 0 0 (zAd ad 23) := by
  refine z_met (lv := [(0, .ref (ad 0)), (1, .int x1), (2, .int x2)]) plX8 rfl rfl (Nat.le_of_ble_eq_true rfl) rfl ?_
  intro p e s m below meth c hC hr hin
  unfold mM_latest at hm
  refine z_aload_n hC dX8_latest_0 rfl 0 rfl ?_
  refine z_iload_n hC dX8_latest_1 rfl 1 rfl ?_
  refine xM_X8_272 hI hC (Nat.le_of_ble_eq_true rfl) dX8_latest_2 (Nat.le_of_ble_eq_true rfl) ?_
  refine z_if_eq (tgt := 16) hC hm dX8_latest_5 (by decide) (fun hm => ?_) (fun hm => ?_)
  · refine z_iconst hC dX8_latest_16 kI_m1 ?_
    exact riM (fin := fun z => M_put_pile z u) hC hr rfl dX8_latest_17 hm rfl
  · refine z_aload_n hC dX8_latest_8 rfl 0 rfl ?_
    refine z_iload_n hC dX8_latest_9 rfl 2 rfl ?_
    refine xM_X8_160 hI hC (Nat.le_of_ble_eq_true rfl) dX8_latest_10 (Nat.le_of_ble_eq_true rfl) ?_
    refine z_if_ne (tgt := 18) hC hm dX8_latest_13 (by decide) (fun hm => ?_) (fun hm => ?_)
    · refine z_iconst hC dX8_latest_16 kI_m1 ?_
      exact riM (fin := fun z => M_put_pile z u) hC hr rfl dX8_latest_17 hm rfl
    · refine z_bipush hC dX8_latest_18 kB_20 ?_
      refine z_istore_n (lv' := [(3, .int (20 : Int32)), (0, .ref (ad 0)), (1, .int x1), (2, .int x2)]) hC dX8_latest_20 rfl (by decide) rfl ?_
      refine z_lv hC [1, 2, 3, 0] rfl ?_
      exact lM_latest_21 hI hC hr _ _ _ hm
def mM_wrong_L23 (x1 : Int32) (x2 : Int32) : Nat → Int32 → Int32 → SM → Option (Int32 × (Nat → Int32))
  | 0, _, _, _ => none
  | n + 1, x3, x4, u => if (M_letters u) ≤ x4 then (some (x3, ((M_pile u)))) else ((mM_isRight x1 x2 x4 u).bind fun q1 => (if q1.1 = 0 then (mM_wrong_L23 x1 x2 n (x3 + (1 : Int32)) (x4 + (1 : Int32)) (M_put_pile (q1.2) u)) else (mM_wrong_L23 x1 x2 n (x3 + (0 : Int32)) (x4 + (1 : Int32)) (M_put_pile (q1.2) u))))
set_option maxRecDepth 100000 in
set_option maxHeartbeats 4000000 in
theorem lM_wrong_23 {l : Launch} {D : va_G} {cA : Nat → ClassId} {ad : Nat → Nat} {p : Program} {e : Env} {s : State} {m : MethodId} {args : Array Value} {below : List Frame} {meth : Method} {c : Code} {E : zEt} {r : Int32} {w' : (Nat → Int32)}  {x1 : Int32} {x2 : Int32} (hI : zInj ad 23) (hC : zC p s m args meth c cX8_wrong 5 RX8 zTS D (zTy cA) (zAd ad 23) E) (hr : meth.sig.returnType = (some .int)) : ∀ (n : Nat) (x3 : Int32) (x4 : Int32) (u : SM), mM_wrong_L23 x1 x2 n x3 x4 u = some (r, w') → zG p l e (zRm 9) s m args below meth c 5 D (zAd ad 23) (MQ below (zQi r (zBw D (wM cA ad (M_put_pile w' u))) (zAd ad 23)) args s 0 0 (zAd ad 23)) (wM cA ad u) [(0, .ref (ad 0)), (1, .int x1), (2, .int x2), (3, .int x3), (4, .int x4)] 23 [] := by
  intro n
  induction n with
  | zero => intro x3 x4 u hm; exact z_none hm
  | succ n ih =>
    intro x3 x4 u hm
    rw [mM_wrong_L23] at hm
    refine z_iload hC dX8_wrong_23 4 rfl ?_
    refine z_aload_n hC dX8_wrong_25 rfl 0 rfl ?_
    refine gM_X8_19_o (v := (M_letters u)) hC dX8_wrong_26 rfl ?_
    refine z_icmp_ge (tgt := 57) hC hm dX8_wrong_29 (by decide) (fun hm => ?_) (fun hm => ?_)
    · refine z_iload_n hC dX8_wrong_57 rfl 3 rfl ?_
      exact riM (fin := fun z => M_put_pile z u) hC hr rfl dX8_wrong_58 hm rfl
    · refine z_iload_n hC dX8_wrong_32 rfl 3 rfl ?_
      refine z_aload_n hC dX8_wrong_33 rfl 0 rfl ?_
      refine z_iload_n hC dX8_wrong_34 rfl 1 rfl ?_
      refine z_iload_n hC dX8_wrong_35 rfl 2 rfl ?_
      refine z_iload hC dX8_wrong_36 4 rfl ?_
      refine xM_X8_284 hI hC (Nat.le_of_ble_eq_true rfl) (fun _ h => h) hm dX8_wrong_38 (Nat.le_of_ble_eq_true rfl) (fun q1 hm => ?_)
      refine zuM (u2 := (M_put_pile (q1.2) u)) rfl ?_
      refine z_if_eq (tgt := 48) hC hm dX8_wrong_41 (by decide) (fun hm => ?_) (fun hm => ?_)
      · refine z_iconst hC dX8_wrong_48 kI_1 ?_
        refine z_iadd hC dX8_wrong_49 ?_
        refine z_istore_n (lv' := [(3, .int (x3 + (1 : Int32))), (0, .ref (ad 0)), (1, .int x1), (2, .int x2), (4, .int x4)]) hC dX8_wrong_50 rfl (by decide) rfl ?_
        refine z_iinc (lv' := [(4, .int (x4 + (1 : Int32))), (3, .int (x3 + (1 : Int32))), (0, .ref (ad 0)), (1, .int x1), (2, .int x2)]) (k := 4) (v := (x4 + (1 : Int32))) hC dX8_wrong_51 rfl rfl (by decide) rfl ?_
        refine z_goto (tgt := 23) hC dX8_wrong_54 (by decide) ?_
        refine z_lv hC [2, 3, 4, 1, 0] rfl ?_
        exact ih _ _ _ hm
      · refine z_iconst hC dX8_wrong_44 kI_0 ?_
        refine z_goto (tgt := 49) hC dX8_wrong_45 (by decide) ?_
        refine z_iadd hC dX8_wrong_49 ?_
        refine z_istore_n (lv' := [(3, .int (x3 + (0 : Int32))), (0, .ref (ad 0)), (1, .int x1), (2, .int x2), (4, .int x4)]) hC dX8_wrong_50 rfl (by decide) rfl ?_
        refine z_iinc (lv' := [(4, .int (x4 + (1 : Int32))), (3, .int (x3 + (0 : Int32))), (0, .ref (ad 0)), (1, .int x1), (2, .int x2)]) (k := 4) (v := (x4 + (1 : Int32))) hC dX8_wrong_51 rfl rfl (by decide) rfl ?_
        refine z_goto (tgt := 23) hC dX8_wrong_54 (by decide) ?_
        refine z_lv hC [2, 3, 4, 1, 0] rfl ?_
        exact ih _ _ _ hm
def mM_wrong (x1 : Int32) (x2 : Int32) (u : SM) : Option (Int32 × (Nat → Int32)) :=
  if (mM_isVoice x1 u) = 0 then (some ((-1 : Int32), ((M_pile u)))) else (if (mM_isSeat x2 u) = 0 then (some ((-1 : Int32), ((M_pile u)))) else (mM_wrong_L23 x1 x2 256 (0 : Int32) (0 : Int32) u))
set_option maxRecDepth 100000 in
set_option maxHeartbeats 4000000 in
theorem cM_wrong {l : Launch} {D : va_G} {cA : Nat → ClassId} {ad : Nat → Nat} {E : zEt} (hI : zInj ad 23) (x1 : Int32) (x2 : Int32) (u : SM) {r : Int32} {w' : (Nat → Int32)} (hm : mM_wrong x1 x2 u = some (r, w')) : Met l yX8_wrong (zWs yX8_wrong cX8_wrong 5 (some .int)) (zRm 9) (va_Pc [.ref (ad 0), .int x1, .int x2] (zPre D (zTy cA) E (zAd ad 23) (wM cA ad u))) (zQi r (zBw D (wM cA ad (M_put_pile w' u))) (zAd ad 23)) 0 0 (zAd ad 23) := by
  refine z_met (lv := [(0, .ref (ad 0)), (1, .int x1), (2, .int x2)]) plX8 rfl rfl (Nat.le_of_ble_eq_true rfl) rfl ?_
  intro p e s m below meth c hC hr hin
  unfold mM_wrong at hm
  refine z_aload_n hC dX8_wrong_0 rfl 0 rfl ?_
  refine z_iload_n hC dX8_wrong_1 rfl 1 rfl ?_
  refine xM_X8_272 hI hC (Nat.le_of_ble_eq_true rfl) dX8_wrong_2 (Nat.le_of_ble_eq_true rfl) ?_
  refine z_if_eq (tgt := 16) hC hm dX8_wrong_5 (by decide) (fun hm => ?_) (fun hm => ?_)
  · refine z_iconst hC dX8_wrong_16 kI_m1 ?_
    exact riM (fin := fun z => M_put_pile z u) hC hr rfl dX8_wrong_17 hm rfl
  · refine z_aload_n hC dX8_wrong_8 rfl 0 rfl ?_
    refine z_iload_n hC dX8_wrong_9 rfl 2 rfl ?_
    refine xM_X8_160 hI hC (Nat.le_of_ble_eq_true rfl) dX8_wrong_10 (Nat.le_of_ble_eq_true rfl) ?_
    refine z_if_ne (tgt := 18) hC hm dX8_wrong_13 (by decide) (fun hm => ?_) (fun hm => ?_)
    · refine z_iconst hC dX8_wrong_16 kI_m1 ?_
      exact riM (fin := fun z => M_put_pile z u) hC hr rfl dX8_wrong_17 hm rfl
    · refine z_iconst hC dX8_wrong_18 kI_0 ?_
      refine z_istore_n (lv' := [(3, .int (0 : Int32)), (0, .ref (ad 0)), (1, .int x1), (2, .int x2)]) hC dX8_wrong_19 rfl (by decide) rfl ?_
      refine z_iconst hC dX8_wrong_20 kI_0 ?_
      refine z_istore (lv' := [(4, .int (0 : Int32)), (3, .int (0 : Int32)), (0, .ref (ad 0)), (1, .int x1), (2, .int x2)]) hC dX8_wrong_21 (by decide) rfl ?_
      refine z_lv hC [2, 3, 4, 1, 0] rfl ?_
      exact lM_wrong_23 hI hC hr _ _ _ _ hm
def mM_swap_L57 (K44 : Int32 → Int32 → Int32 → SM → Option (Int32 × (Nat → Int32))) (x1 : Int32) (x2 : Int32) (x3 : Int32) (x4 : Int32) (x5 : Int32) (x6 : Int32) : Nat → Int32 → Int32 → SM → Option (Int32 × (Nat → Int32))
  | 0, _, _, _ => none
  | n + 1, x7, x8, u => if (M_seats u) ≤ x8 then (if x5 < x7 then (K44 x6 x7 (x6 + (1 : Int32)) u) else (K44 x4 x5 (x6 + (1 : Int32)) u)) else ((mM_heardOf x1 x8 x2 x6 u).bind fun q1 => (zgi x2 20 (if q1.1 = ((M_letter u) (x2).toNatClampNeg) then (mM_swap_L57 K44 x1 x2 x3 x4 x5 x6 n (x7 + (1 : Int32)) (x8 + (1 : Int32)) (M_put_pile (q1.2) u)) else (mM_swap_L57 K44 x1 x2 x3 x4 x5 x6 n (x7 + (0 : Int32)) (x8 + (1 : Int32)) (M_put_pile (q1.2) u)))))
set_option maxRecDepth 100000 in
set_option maxHeartbeats 4000000 in
theorem lM_swap_57 {l : Launch} {D : va_G} {cA : Nat → ClassId} {ad : Nat → Nat} {p : Program} {e : Env} {s : State} {m : MethodId} {args : Array Value} {below : List Frame} {meth : Method} {c : Code} {E : zEt} {r : Int32} {w' : (Nat → Int32)}  {K44 : Int32 → Int32 → Int32 → SM → Option (Int32 × (Nat → Int32))} {x1 : Int32} {x2 : Int32} {x3 : Int32} {x4 : Int32} {x5 : Int32} {x6 : Int32} (hI : zInj ad 23) (hC : zC p s m args meth c cX8_swap 9 RX8 zTS D (zTy cA) (zAd ad 23) E) (hr : meth.sig.returnType = (some .int)) (hK44 : ∀ (x4 : Int32) (x5 : Int32) (x6 : Int32) (u : SM), K44 x4 x5 x6 u = some (r, w') → zG p l e (zRm 8) s m args below meth c 9 D (zAd ad 23) (MQ below (zQi r (zBw D (wM cA ad (M_put_pile w' u))) (zAd ad 23)) args s 0 0 (zAd ad 23)) (wM cA ad u) [(0, .ref (ad 0)), (1, .int x1), (2, .int x2), (3, .int x3), (4, .int x4), (5, .int x5), (6, .int x6)] 44 []) : ∀ (n : Nat) (x7 : Int32) (x8 : Int32) (u : SM), mM_swap_L57 K44 x1 x2 x3 x4 x5 x6 n x7 x8 u = some (r, w') → zG p l e (zRm 8) s m args below meth c 9 D (zAd ad 23) (MQ below (zQi r (zBw D (wM cA ad (M_put_pile w' u))) (zAd ad 23)) args s 0 0 (zAd ad 23)) (wM cA ad u) [(0, .ref (ad 0)), (1, .int x1), (2, .int x2), (3, .int x3), (4, .int x4), (5, .int x5), (6, .int x6), (7, .int x7), (8, .int x8)] 57 [] := by
  intro n
  induction n with
  | zero => intro x7 x8 u hm; exact z_none hm
  | succ n ih =>
    intro x7 x8 u hm
    rw [mM_swap_L57] at hm
    refine z_iload hC dX8_swap_57 8 rfl ?_
    refine z_aload_n hC dX8_swap_59 rfl 0 rfl ?_
    refine gM_X8_16_o (v := (M_seats u)) hC dX8_swap_60 rfl ?_
    refine z_icmp_ge (tgt := 101) hC hm dX8_swap_63 (by decide) (fun hm => ?_) (fun hm => ?_)
    · refine z_iload hC dX8_swap_101 7 rfl ?_
      refine z_iload hC dX8_swap_103 5 rfl ?_
      refine z_icmp_gt (tgt := 111) hC hm dX8_swap_105 (by decide) (fun hm => ?_) (fun hm => ?_)
      · refine z_iload hC dX8_swap_111 6 rfl ?_
        refine z_istore (lv' := [(4, .int x6), (0, .ref (ad 0)), (1, .int x1), (2, .int x2), (3, .int x3), (5, .int x5), (6, .int x6), (7, .int x7), (8, .int x8)]) hC dX8_swap_113 (by decide) rfl ?_
        refine z_iload hC dX8_swap_115 7 rfl ?_
        refine z_istore (lv' := [(5, .int x7), (4, .int x6), (0, .ref (ad 0)), (1, .int x1), (2, .int x2), (3, .int x3), (6, .int x6), (7, .int x7), (8, .int x8)]) hC dX8_swap_117 (by decide) rfl ?_
        refine z_iinc (lv' := [(6, .int (x6 + (1 : Int32))), (5, .int x7), (4, .int x6), (0, .ref (ad 0)), (1, .int x1), (2, .int x2), (3, .int x3), (7, .int x7), (8, .int x8)]) (k := 6) (v := (x6 + (1 : Int32))) hC dX8_swap_119 rfl rfl (by decide) rfl ?_
        refine z_goto (tgt := 44) hC dX8_swap_122 (by decide) ?_
        refine z_lv hC [3, 4, 5, 6, 2, 1, 0] rfl ?_
        exact hK44 _ _ _ _ hm
      · refine z_goto (tgt := 119) hC dX8_swap_108 (by decide) ?_
        refine z_iinc (lv' := [(6, .int (x6 + (1 : Int32))), (0, .ref (ad 0)), (1, .int x1), (2, .int x2), (3, .int x3), (4, .int x4), (5, .int x5), (7, .int x7), (8, .int x8)]) (k := 6) (v := (x6 + (1 : Int32))) hC dX8_swap_119 rfl rfl (by decide) rfl ?_
        refine z_goto (tgt := 44) hC dX8_swap_122 (by decide) ?_
        refine z_lv hC [1, 2, 3, 4, 5, 6, 0] rfl ?_
        exact hK44 _ _ _ _ hm
    · refine z_iload hC dX8_swap_66 7 rfl ?_
      refine z_aload_n hC dX8_swap_68 rfl 0 rfl ?_
      refine z_iload_n hC dX8_swap_69 rfl 1 rfl ?_
      refine z_iload hC dX8_swap_70 8 rfl ?_
      refine z_iload_n hC dX8_swap_72 rfl 2 rfl ?_
      refine z_iload hC dX8_swap_73 6 rfl ?_
      refine xM_X8_281 hI hC (Nat.le_of_ble_eq_true rfl) (fun _ h => h) hm dX8_swap_75 (Nat.le_of_ble_eq_true rfl) (fun q1 hm => ?_)
      refine zuM (u2 := (M_put_pile (q1.2) u)) rfl ?_
      refine z_aload_n hC dX8_swap_78 rfl 0 rfl ?_
      refine gM_X8_36_o hC dX8_swap_79 ?_
      refine z_iload_n hC dX8_swap_82 rfl 2 rfl ?_
      refine aM_letter hC hm dX8_swap_83 (fun hm => ?_)
      refine z_icmp_ne (tgt := 91) hC hm dX8_swap_84 (by decide) (fun hm => ?_) (fun hm => ?_)
      · refine z_iconst hC dX8_swap_87 kI_1 ?_
        refine z_goto (tgt := 92) hC dX8_swap_88 (by decide) ?_
        refine z_iadd hC dX8_swap_92 ?_
        refine z_istore (lv' := [(7, .int (x7 + (1 : Int32))), (0, .ref (ad 0)), (1, .int x1), (2, .int x2), (3, .int x3), (4, .int x4), (5, .int x5), (6, .int x6), (8, .int x8)]) hC dX8_swap_93 (by decide) rfl ?_
        refine z_iinc (lv' := [(8, .int (x8 + (1 : Int32))), (7, .int (x7 + (1 : Int32))), (0, .ref (ad 0)), (1, .int x1), (2, .int x2), (3, .int x3), (4, .int x4), (5, .int x5), (6, .int x6)]) (k := 8) (v := (x8 + (1 : Int32))) hC dX8_swap_95 rfl rfl (by decide) rfl ?_
        refine z_goto (tgt := 57) hC dX8_swap_98 (by decide) ?_
        refine z_lv hC [2, 3, 4, 5, 6, 7, 8, 1, 0] rfl ?_
        exact ih _ _ _ hm
      · refine z_iconst hC dX8_swap_91 kI_0 ?_
        refine z_iadd hC dX8_swap_92 ?_
        refine z_istore (lv' := [(7, .int (x7 + (0 : Int32))), (0, .ref (ad 0)), (1, .int x1), (2, .int x2), (3, .int x3), (4, .int x4), (5, .int x5), (6, .int x6), (8, .int x8)]) hC dX8_swap_93 (by decide) rfl ?_
        refine z_iinc (lv' := [(8, .int (x8 + (1 : Int32))), (7, .int (x7 + (0 : Int32))), (0, .ref (ad 0)), (1, .int x1), (2, .int x2), (3, .int x3), (4, .int x4), (5, .int x5), (6, .int x6)]) (k := 8) (v := (x8 + (1 : Int32))) hC dX8_swap_95 rfl rfl (by decide) rfl ?_
        refine z_goto (tgt := 57) hC dX8_swap_98 (by decide) ?_
        refine z_lv hC [2, 3, 4, 5, 6, 7, 8, 1, 0] rfl ?_
        exact ih _ _ _ hm
def mM_swap_L44 (x1 : Int32) (x2 : Int32) (x3 : Int32) : Nat → Int32 → Int32 → Int32 → SM → Option (Int32 × (Nat → Int32))
  | 0, _, _, _, _ => none
  | n + 1, x4, x5, x6, u => if (10 : Int32) ≤ x6 then (if x3 = 0 then (some (x4, ((M_pile u)))) else (some (x5, ((M_pile u))))) else (mM_swap_L57 (mM_swap_L44 x1 x2 x3 n) x1 x2 x3 x4 x5 x6 256 (0 : Int32) (0 : Int32) u)
set_option maxRecDepth 100000 in
set_option maxHeartbeats 4000000 in
theorem lM_swap_44 {l : Launch} {D : va_G} {cA : Nat → ClassId} {ad : Nat → Nat} {p : Program} {e : Env} {s : State} {m : MethodId} {args : Array Value} {below : List Frame} {meth : Method} {c : Code} {E : zEt} {r : Int32} {w' : (Nat → Int32)}  {x1 : Int32} {x2 : Int32} {x3 : Int32} (hI : zInj ad 23) (hC : zC p s m args meth c cX8_swap 9 RX8 zTS D (zTy cA) (zAd ad 23) E) (hr : meth.sig.returnType = (some .int)) : ∀ (n : Nat) (x4 : Int32) (x5 : Int32) (x6 : Int32) (u : SM), mM_swap_L44 x1 x2 x3 n x4 x5 x6 u = some (r, w') → zG p l e (zRm 8) s m args below meth c 9 D (zAd ad 23) (MQ below (zQi r (zBw D (wM cA ad (M_put_pile w' u))) (zAd ad 23)) args s 0 0 (zAd ad 23)) (wM cA ad u) [(0, .ref (ad 0)), (1, .int x1), (2, .int x2), (3, .int x3), (4, .int x4), (5, .int x5), (6, .int x6)] 44 [] := by
  intro n
  induction n with
  | zero => intro x4 x5 x6 u hm; exact z_none hm
  | succ n ih =>
    intro x4 x5 x6 u hm
    rw [mM_swap_L44] at hm
    refine z_iload hC dX8_swap_44 6 rfl ?_
    refine z_bipush hC dX8_swap_46 kB_10 ?_
    refine z_icmp_ge (tgt := 125) hC hm dX8_swap_48 (by decide) (fun hm => ?_) (fun hm => ?_)
    · refine z_iload_n hC dX8_swap_125 rfl 3 rfl ?_
      refine z_if_ne (tgt := 134) hC hm dX8_swap_126 (by decide) (fun hm => ?_) (fun hm => ?_)
      · refine z_iload hC dX8_swap_129 4 rfl ?_
        refine z_goto (tgt := 136) hC dX8_swap_131 (by decide) ?_
        exact riM (fin := fun z => M_put_pile z u) hC hr rfl dX8_swap_136 hm rfl
      · refine z_iload hC dX8_swap_134 5 rfl ?_
        exact riM (fin := fun z => M_put_pile z u) hC hr rfl dX8_swap_136 hm rfl
    · refine z_iconst hC dX8_swap_51 kI_0 ?_
      refine z_istore (lv' := [(7, .int (0 : Int32)), (0, .ref (ad 0)), (1, .int x1), (2, .int x2), (3, .int x3), (4, .int x4), (5, .int x5), (6, .int x6)]) hC dX8_swap_52 (by decide) rfl ?_
      refine z_iconst hC dX8_swap_54 kI_0 ?_
      refine z_istore (lv' := [(8, .int (0 : Int32)), (7, .int (0 : Int32)), (0, .ref (ad 0)), (1, .int x1), (2, .int x2), (3, .int x3), (4, .int x4), (5, .int x5), (6, .int x6)]) hC dX8_swap_55 (by decide) rfl ?_
      refine z_lv hC [2, 3, 4, 5, 6, 7, 8, 1, 0] rfl ?_
      exact lM_swap_57 hI hC hr (ih) _ _ _ _ hm
def mM_swap (x1 : Int32) (x2 : Int32) (x3 : Int32) (u : SM) : Option (Int32 × (Nat → Int32)) :=
  if (mM_isVoice x1 u) = 0 then (some ((-1 : Int32), ((M_pile u)))) else (if (mM_in x2 (0 : Int32) ((M_letters u) - (1 : Int32))) = 0 then (some ((-1 : Int32), ((M_pile u)))) else (if (mM_in x3 (0 : Int32) (1 : Int32)) = 0 then (some ((-1 : Int32), ((M_pile u)))) else (mM_swap_L44 x1 x2 x3 256 (0 : Int32) (-1 : Int32) (0 : Int32) u)))
set_option maxRecDepth 100000 in
set_option maxHeartbeats 4000000 in
theorem cM_swap {l : Launch} {D : va_G} {cA : Nat → ClassId} {ad : Nat → Nat} {E : zEt} (hI : zInj ad 23) (x1 : Int32) (x2 : Int32) (x3 : Int32) (u : SM) {r : Int32} {w' : (Nat → Int32)} (hm : mM_swap x1 x2 x3 u = some (r, w')) : Met l yX8_swap (zWs yX8_swap cX8_swap 9 (some .int)) (zRm 8) (va_Pc [.ref (ad 0), .int x1, .int x2, .int x3] (zPre D (zTy cA) E (zAd ad 23) (wM cA ad u))) (zQi r (zBw D (wM cA ad (M_put_pile w' u))) (zAd ad 23)) 0 0 (zAd ad 23) := by
  refine z_met (lv := [(0, .ref (ad 0)), (1, .int x1), (2, .int x2), (3, .int x3)]) plX8 rfl rfl (Nat.le_of_ble_eq_true rfl) rfl ?_
  intro p e s m below meth c hC hr hin
  unfold mM_swap at hm
  refine z_aload_n hC dX8_swap_0 rfl 0 rfl ?_
  refine z_iload_n hC dX8_swap_1 rfl 1 rfl ?_
  refine xM_X8_272 hI hC (Nat.le_of_ble_eq_true rfl) dX8_swap_2 (Nat.le_of_ble_eq_true rfl) ?_
  refine z_if_eq (tgt := 33) hC hm dX8_swap_5 (by decide) (fun hm => ?_) (fun hm => ?_)
  · refine z_iconst hC dX8_swap_33 kI_m1 ?_
    exact riM (fin := fun z => M_put_pile z u) hC hr rfl dX8_swap_34 hm rfl
  · refine z_aload_n hC dX8_swap_8 rfl 0 rfl ?_
    refine z_iload_n hC dX8_swap_9 rfl 2 rfl ?_
    refine z_iconst hC dX8_swap_10 kI_0 ?_
    refine z_aload_n hC dX8_swap_11 rfl 0 rfl ?_
    refine gM_X8_19_o (v := (M_letters u)) hC dX8_swap_12 rfl ?_
    refine z_iconst hC dX8_swap_15 kI_1 ?_
    refine z_isub hC dX8_swap_16 ?_
    refine xM_X8_150 hI hC (Nat.le_of_ble_eq_true rfl) dX8_swap_17 (Nat.le_of_ble_eq_true rfl) ?_
    refine z_if_eq (tgt := 33) hC hm dX8_swap_20 (by decide) (fun hm => ?_) (fun hm => ?_)
    · refine z_iconst hC dX8_swap_33 kI_m1 ?_
      exact riM (fin := fun z => M_put_pile z u) hC hr rfl dX8_swap_34 hm rfl
    · refine z_aload_n hC dX8_swap_23 rfl 0 rfl ?_
      refine z_iload_n hC dX8_swap_24 rfl 3 rfl ?_
      refine z_iconst hC dX8_swap_25 kI_0 ?_
      refine z_iconst hC dX8_swap_26 kI_1 ?_
      refine xM_X8_150 hI hC (Nat.le_of_ble_eq_true rfl) dX8_swap_27 (Nat.le_of_ble_eq_true rfl) ?_
      refine z_if_ne (tgt := 35) hC hm dX8_swap_30 (by decide) (fun hm => ?_) (fun hm => ?_)
      · refine z_iconst hC dX8_swap_33 kI_m1 ?_
        exact riM (fin := fun z => M_put_pile z u) hC hr rfl dX8_swap_34 hm rfl
      · refine z_iconst hC dX8_swap_35 kI_0 ?_
        refine z_istore (lv' := [(4, .int (0 : Int32)), (0, .ref (ad 0)), (1, .int x1), (2, .int x2), (3, .int x3)]) hC dX8_swap_36 (by decide) rfl ?_
        refine z_iconst hC dX8_swap_38 kI_m1 ?_
        refine z_istore (lv' := [(5, .int (-1 : Int32)), (4, .int (0 : Int32)), (0, .ref (ad 0)), (1, .int x1), (2, .int x2), (3, .int x3)]) hC dX8_swap_39 (by decide) rfl ?_
        refine z_iconst hC dX8_swap_41 kI_0 ?_
        refine z_istore (lv' := [(6, .int (0 : Int32)), (5, .int (-1 : Int32)), (4, .int (0 : Int32)), (0, .ref (ad 0)), (1, .int x1), (2, .int x2), (3, .int x3)]) hC dX8_swap_42 (by decide) rfl ?_
        refine z_lv hC [3, 4, 5, 6, 2, 1, 0] rfl ?_
        exact lM_swap_44 hI hC hr _ _ _ _ _ hm
def mM_changed_L45 (K23 : Int32 → Int32 → SM → Option (Int32 × (Nat → Int32))) (x1 : Int32) (x2 : Int32) (x3 : Int32) (x4 : Int32) : Nat → Int32 → Int32 → SM → Option (Int32 × (Nat → Int32))
  | 0, _, _, _ => none
  | n + 1, x5, x6, u => if (10 : Int32) ≤ x6 then (if x5 = 0 then (K23 (x3 + (1 : Int32)) (x4 + (1 : Int32)) u) else (K23 (x3 + (0 : Int32)) (x4 + (1 : Int32)) u)) else (if x5 = 0 then ((mM_heardOf x1 x2 x4 x6 u).bind fun q2 => (zgi x4 20 (if q2.1 = ((M_letter u) (x4).toNatClampNeg) then (mM_changed_L45 K23 x1 x2 x3 x4 n (1 : Int32) (x6 + (1 : Int32)) (M_put_pile (q2.2) u)) else (mM_changed_L45 K23 x1 x2 x3 x4 n (0 : Int32) (x6 + (1 : Int32)) (M_put_pile (q2.2) u))))) else (mM_changed_L45 K23 x1 x2 x3 x4 n (1 : Int32) (x6 + (1 : Int32)) u))
set_option maxRecDepth 100000 in
set_option maxHeartbeats 4000000 in
theorem lM_changed_45 {l : Launch} {D : va_G} {cA : Nat → ClassId} {ad : Nat → Nat} {p : Program} {e : Env} {s : State} {m : MethodId} {args : Array Value} {below : List Frame} {meth : Method} {c : Code} {E : zEt} {r : Int32} {w' : (Nat → Int32)}  {K23 : Int32 → Int32 → SM → Option (Int32 × (Nat → Int32))} {x1 : Int32} {x2 : Int32} {x3 : Int32} {x4 : Int32} (hI : zInj ad 23) (hC : zC p s m args meth c cX8_changed 7 RX8 zTS D (zTy cA) (zAd ad 23) E) (hr : meth.sig.returnType = (some .int)) (hK23 : ∀ (x3 : Int32) (x4 : Int32) (u : SM), K23 x3 x4 u = some (r, w') → zG p l e (zRm 9) s m args below meth c 7 D (zAd ad 23) (MQ below (zQi r (zBw D (wM cA ad (M_put_pile w' u))) (zAd ad 23)) args s 0 0 (zAd ad 23)) (wM cA ad u) [(0, .ref (ad 0)), (1, .int x1), (2, .int x2), (3, .int x3), (4, .int x4)] 23 []) : ∀ (n : Nat) (x5 : Int32) (x6 : Int32) (u : SM), mM_changed_L45 K23 x1 x2 x3 x4 n x5 x6 u = some (r, w') → zG p l e (zRm 9) s m args below meth c 7 D (zAd ad 23) (MQ below (zQi r (zBw D (wM cA ad (M_put_pile w' u))) (zAd ad 23)) args s 0 0 (zAd ad 23)) (wM cA ad u) [(0, .ref (ad 0)), (1, .int x1), (2, .int x2), (3, .int x3), (4, .int x4), (5, .int x5), (6, .int x6)] 45 [] := by
  intro n
  induction n with
  | zero => intro x5 x6 u hm; exact z_none hm
  | succ n ih =>
    intro x5 x6 u hm
    rw [mM_changed_L45] at hm
    refine z_iload hC dX8_changed_45 6 rfl ?_
    refine z_bipush hC dX8_changed_47 kB_10 ?_
    refine z_icmp_ge (tgt := 90) hC hm dX8_changed_49 (by decide) (fun hm => ?_) (fun hm => ?_)
    · refine z_iload_n hC dX8_changed_90 rfl 3 rfl ?_
      refine z_iload hC dX8_changed_91 5 rfl ?_
      refine z_if_eq (tgt := 100) hC hm dX8_changed_93 (by decide) (fun hm => ?_) (fun hm => ?_)
      · refine z_iconst hC dX8_changed_100 kI_1 ?_
        refine z_iadd hC dX8_changed_101 ?_
        refine z_istore_n (lv' := [(3, .int (x3 + (1 : Int32))), (0, .ref (ad 0)), (1, .int x1), (2, .int x2), (4, .int x4), (5, .int x5), (6, .int x6)]) hC dX8_changed_102 rfl (by decide) rfl ?_
        refine z_iinc (lv' := [(4, .int (x4 + (1 : Int32))), (3, .int (x3 + (1 : Int32))), (0, .ref (ad 0)), (1, .int x1), (2, .int x2), (5, .int x5), (6, .int x6)]) (k := 4) (v := (x4 + (1 : Int32))) hC dX8_changed_103 rfl rfl (by decide) rfl ?_
        refine z_goto (tgt := 23) hC dX8_changed_106 (by decide) ?_
        refine z_lv hC [2, 3, 4, 1, 0] rfl ?_
        exact hK23 _ _ _ hm
      · refine z_iconst hC dX8_changed_96 kI_0 ?_
        refine z_goto (tgt := 101) hC dX8_changed_97 (by decide) ?_
        refine z_iadd hC dX8_changed_101 ?_
        refine z_istore_n (lv' := [(3, .int (x3 + (0 : Int32))), (0, .ref (ad 0)), (1, .int x1), (2, .int x2), (4, .int x4), (5, .int x5), (6, .int x6)]) hC dX8_changed_102 rfl (by decide) rfl ?_
        refine z_iinc (lv' := [(4, .int (x4 + (1 : Int32))), (3, .int (x3 + (0 : Int32))), (0, .ref (ad 0)), (1, .int x1), (2, .int x2), (5, .int x5), (6, .int x6)]) (k := 4) (v := (x4 + (1 : Int32))) hC dX8_changed_103 rfl rfl (by decide) rfl ?_
        refine z_goto (tgt := 23) hC dX8_changed_106 (by decide) ?_
        refine z_lv hC [2, 3, 4, 1, 0] rfl ?_
        exact hK23 _ _ _ hm
    · refine z_iload hC dX8_changed_52 5 rfl ?_
      refine z_if_ne (tgt := 77) hC hm dX8_changed_54 (by decide) (fun hm => ?_) (fun hm => ?_)
      · refine z_aload_n hC dX8_changed_57 rfl 0 rfl ?_
        refine z_iload_n hC dX8_changed_58 rfl 1 rfl ?_
        refine z_iload_n hC dX8_changed_59 rfl 2 rfl ?_
        refine z_iload hC dX8_changed_60 4 rfl ?_
        refine z_iload hC dX8_changed_62 6 rfl ?_
        refine xM_X8_281 hI hC (Nat.le_of_ble_eq_true rfl) (fun _ h => h) hm dX8_changed_64 (Nat.le_of_ble_eq_true rfl) (fun q2 hm => ?_)
        refine zuM (u2 := (M_put_pile (q2.2) u)) rfl ?_
        refine z_aload_n hC dX8_changed_67 rfl 0 rfl ?_
        refine gM_X8_36_o hC dX8_changed_68 ?_
        refine z_iload hC dX8_changed_71 4 rfl ?_
        refine aM_letter hC hm dX8_changed_73 (fun hm => ?_)
        refine z_icmp_ne (tgt := 81) hC hm dX8_changed_74 (by decide) (fun hm => ?_) (fun hm => ?_)
        · refine z_iconst hC dX8_changed_77 kI_1 ?_
          refine z_goto (tgt := 82) hC dX8_changed_78 (by decide) ?_
          refine z_istore (lv' := [(5, .int (1 : Int32)), (0, .ref (ad 0)), (1, .int x1), (2, .int x2), (3, .int x3), (4, .int x4), (6, .int x6)]) hC dX8_changed_82 (by decide) rfl ?_
          refine z_iinc (lv' := [(6, .int (x6 + (1 : Int32))), (5, .int (1 : Int32)), (0, .ref (ad 0)), (1, .int x1), (2, .int x2), (3, .int x3), (4, .int x4)]) (k := 6) (v := (x6 + (1 : Int32))) hC dX8_changed_84 rfl rfl (by decide) rfl ?_
          refine z_goto (tgt := 45) hC dX8_changed_87 (by decide) ?_
          refine z_lv hC [2, 3, 4, 5, 6, 1, 0] rfl ?_
          exact ih _ _ _ hm
        · refine z_iconst hC dX8_changed_81 kI_0 ?_
          refine z_istore (lv' := [(5, .int (0 : Int32)), (0, .ref (ad 0)), (1, .int x1), (2, .int x2), (3, .int x3), (4, .int x4), (6, .int x6)]) hC dX8_changed_82 (by decide) rfl ?_
          refine z_iinc (lv' := [(6, .int (x6 + (1 : Int32))), (5, .int (0 : Int32)), (0, .ref (ad 0)), (1, .int x1), (2, .int x2), (3, .int x3), (4, .int x4)]) (k := 6) (v := (x6 + (1 : Int32))) hC dX8_changed_84 rfl rfl (by decide) rfl ?_
          refine z_goto (tgt := 45) hC dX8_changed_87 (by decide) ?_
          refine z_lv hC [2, 3, 4, 5, 6, 1, 0] rfl ?_
          exact ih _ _ _ hm
      · refine z_iconst hC dX8_changed_77 kI_1 ?_
        refine z_goto (tgt := 82) hC dX8_changed_78 (by decide) ?_
        refine z_istore (lv' := [(5, .int (1 : Int32)), (0, .ref (ad 0)), (1, .int x1), (2, .int x2), (3, .int x3), (4, .int x4), (6, .int x6)]) hC dX8_changed_82 (by decide) rfl ?_
        refine z_iinc (lv' := [(6, .int (x6 + (1 : Int32))), (5, .int (1 : Int32)), (0, .ref (ad 0)), (1, .int x1), (2, .int x2), (3, .int x3), (4, .int x4)]) (k := 6) (v := (x6 + (1 : Int32))) hC dX8_changed_84 rfl rfl (by decide) rfl ?_
        refine z_goto (tgt := 45) hC dX8_changed_87 (by decide) ?_
        refine z_lv hC [2, 3, 4, 5, 6, 1, 0] rfl ?_
        exact ih _ _ _ hm
def mM_changed_L23 (x1 : Int32) (x2 : Int32) : Nat → Int32 → Int32 → SM → Option (Int32 × (Nat → Int32))
  | 0, _, _, _ => none
  | n + 1, x3, x4, u => if (M_letters u) ≤ x4 then (some (x3, ((M_pile u)))) else ((mM_isRight x1 x2 x4 u).bind fun q1 => (mM_changed_L45 (mM_changed_L23 x1 x2 n) x1 x2 x3 x4 256 q1.1 (0 : Int32) (M_put_pile (q1.2) u)))
set_option maxRecDepth 100000 in
set_option maxHeartbeats 4000000 in
theorem lM_changed_23 {l : Launch} {D : va_G} {cA : Nat → ClassId} {ad : Nat → Nat} {p : Program} {e : Env} {s : State} {m : MethodId} {args : Array Value} {below : List Frame} {meth : Method} {c : Code} {E : zEt} {r : Int32} {w' : (Nat → Int32)}  {x1 : Int32} {x2 : Int32} (hI : zInj ad 23) (hC : zC p s m args meth c cX8_changed 7 RX8 zTS D (zTy cA) (zAd ad 23) E) (hr : meth.sig.returnType = (some .int)) : ∀ (n : Nat) (x3 : Int32) (x4 : Int32) (u : SM), mM_changed_L23 x1 x2 n x3 x4 u = some (r, w') → zG p l e (zRm 9) s m args below meth c 7 D (zAd ad 23) (MQ below (zQi r (zBw D (wM cA ad (M_put_pile w' u))) (zAd ad 23)) args s 0 0 (zAd ad 23)) (wM cA ad u) [(0, .ref (ad 0)), (1, .int x1), (2, .int x2), (3, .int x3), (4, .int x4)] 23 [] := by
  intro n
  induction n with
  | zero => intro x3 x4 u hm; exact z_none hm
  | succ n ih =>
    intro x3 x4 u hm
    rw [mM_changed_L23] at hm
    refine z_iload hC dX8_changed_23 4 rfl ?_
    refine z_aload_n hC dX8_changed_25 rfl 0 rfl ?_
    refine gM_X8_19_o (v := (M_letters u)) hC dX8_changed_26 rfl ?_
    refine z_icmp_ge (tgt := 109) hC hm dX8_changed_29 (by decide) (fun hm => ?_) (fun hm => ?_)
    · refine z_iload_n hC dX8_changed_109 rfl 3 rfl ?_
      exact riM (fin := fun z => M_put_pile z u) hC hr rfl dX8_changed_110 hm rfl
    · refine z_aload_n hC dX8_changed_32 rfl 0 rfl ?_
      refine z_iload_n hC dX8_changed_33 rfl 1 rfl ?_
      refine z_iload_n hC dX8_changed_34 rfl 2 rfl ?_
      refine z_iload hC dX8_changed_35 4 rfl ?_
      refine xM_X8_284 hI hC (Nat.le_of_ble_eq_true rfl) (fun _ h => h) hm dX8_changed_37 (Nat.le_of_ble_eq_true rfl) (fun q1 hm => ?_)
      refine zuM (u2 := (M_put_pile (q1.2) u)) rfl ?_
      refine z_istore (lv' := [(5, .int q1.1), (0, .ref (ad 0)), (1, .int x1), (2, .int x2), (3, .int x3), (4, .int x4)]) hC dX8_changed_40 (by decide) rfl ?_
      refine z_iconst hC dX8_changed_42 kI_0 ?_
      refine z_istore (lv' := [(6, .int (0 : Int32)), (5, .int q1.1), (0, .ref (ad 0)), (1, .int x1), (2, .int x2), (3, .int x3), (4, .int x4)]) hC dX8_changed_43 (by decide) rfl ?_
      refine z_lv hC [2, 3, 4, 5, 6, 1, 0] rfl ?_
      exact lM_changed_45 hI hC hr (ih) _ _ _ _ hm
def mM_changed (x1 : Int32) (x2 : Int32) (u : SM) : Option (Int32 × (Nat → Int32)) :=
  if (mM_isVoice x1 u) = 0 then (some ((-1 : Int32), ((M_pile u)))) else (if (mM_isSeat x2 u) = 0 then (some ((-1 : Int32), ((M_pile u)))) else (mM_changed_L23 x1 x2 256 (0 : Int32) (0 : Int32) u))
set_option maxRecDepth 100000 in
set_option maxHeartbeats 4000000 in
theorem cM_changed {l : Launch} {D : va_G} {cA : Nat → ClassId} {ad : Nat → Nat} {E : zEt} (hI : zInj ad 23) (x1 : Int32) (x2 : Int32) (u : SM) {r : Int32} {w' : (Nat → Int32)} (hm : mM_changed x1 x2 u = some (r, w')) : Met l yX8_changed (zWs yX8_changed cX8_changed 7 (some .int)) (zRm 9) (va_Pc [.ref (ad 0), .int x1, .int x2] (zPre D (zTy cA) E (zAd ad 23) (wM cA ad u))) (zQi r (zBw D (wM cA ad (M_put_pile w' u))) (zAd ad 23)) 0 0 (zAd ad 23) := by
  refine z_met (lv := [(0, .ref (ad 0)), (1, .int x1), (2, .int x2)]) plX8 rfl rfl (Nat.le_of_ble_eq_true rfl) rfl ?_
  intro p e s m below meth c hC hr hin
  unfold mM_changed at hm
  refine z_aload_n hC dX8_changed_0 rfl 0 rfl ?_
  refine z_iload_n hC dX8_changed_1 rfl 1 rfl ?_
  refine xM_X8_272 hI hC (Nat.le_of_ble_eq_true rfl) dX8_changed_2 (Nat.le_of_ble_eq_true rfl) ?_
  refine z_if_eq (tgt := 16) hC hm dX8_changed_5 (by decide) (fun hm => ?_) (fun hm => ?_)
  · refine z_iconst hC dX8_changed_16 kI_m1 ?_
    exact riM (fin := fun z => M_put_pile z u) hC hr rfl dX8_changed_17 hm rfl
  · refine z_aload_n hC dX8_changed_8 rfl 0 rfl ?_
    refine z_iload_n hC dX8_changed_9 rfl 2 rfl ?_
    refine xM_X8_160 hI hC (Nat.le_of_ble_eq_true rfl) dX8_changed_10 (Nat.le_of_ble_eq_true rfl) ?_
    refine z_if_ne (tgt := 18) hC hm dX8_changed_13 (by decide) (fun hm => ?_) (fun hm => ?_)
    · refine z_iconst hC dX8_changed_16 kI_m1 ?_
      exact riM (fin := fun z => M_put_pile z u) hC hr rfl dX8_changed_17 hm rfl
    · refine z_iconst hC dX8_changed_18 kI_0 ?_
      refine z_istore_n (lv' := [(3, .int (0 : Int32)), (0, .ref (ad 0)), (1, .int x1), (2, .int x2)]) hC dX8_changed_19 rfl (by decide) rfl ?_
      refine z_iconst hC dX8_changed_20 kI_0 ?_
      refine z_istore (lv' := [(4, .int (0 : Int32)), (3, .int (0 : Int32)), (0, .ref (ad 0)), (1, .int x1), (2, .int x2)]) hC dX8_changed_21 (by decide) rfl ?_
      refine z_lv hC [2, 3, 4, 1, 0] rfl ?_
      exact lM_changed_23 hI hC hr _ _ _ _ hm
def mM_boxes_J157 (K59 : Int32 → Int32 → Int32 → Int32 → Option Int32) (x1 : Int32) (x2 : Int32) (x6 : Int32) (x7 : Int32) (x8 : Int32) (u : SM) : Option Int32 :=
  K59 x6 x7 x8 (x7 + (1 : Int32))
set_option maxRecDepth 100000 in
set_option maxHeartbeats 4000000 in
theorem jM_boxes_157 {l : Launch} {D : va_G} {cA : Nat → ClassId} {ad : Nat → Nat} {p : Program} {e : Env} {s : State} {m : MethodId} {args : Array Value} {below : List Frame} {meth : Method} {c : Code} {E : zEt} {r : Int32}  {K59 : Int32 → Int32 → Int32 → Int32 → Option Int32} {x1 : Int32} {x2 : Int32} {x6 : Int32} {x7 : Int32} {x8 : Int32} {u : SM} (hI : zInj ad 23) (hC : zC p s m args meth c cX8_boxes 10 RX8 zTS D (zTy cA) zA0 E) (hr : meth.sig.returnType = (some .int)) (hK59 : ∀ (x3 : Int32) (x4 : Int32) (x5 : Int32) (x7 : Int32), K59 x3 x4 x5 x7 = some r → zG p l e (zRm 1) s m args below meth c 10 D zA0 (MQ below (zQi r zB0 zA0) args s 0 0 zA0) (wM cA ad u) [(0, .ref (ad 0)), (1, .int x1), (2, .int x2), (3, .int x3), (4, .int x4), (5, .int x5), (6, .int x6), (7, .int x7)] 59 []) (hm : mM_boxes_J157 K59 x1 x2 x6 x7 x8 u = some r) : zG p l e (zRm 1) s m args below meth c 10 D zA0 (MQ below (zQi r zB0 zA0) args s 0 0 zA0) (wM cA ad u) [(0, .ref (ad 0)), (1, .int x1), (2, .int x2), (6, .int x6), (7, .int x7), (8, .int x8)] 157 [] := by
  unfold mM_boxes_J157 at hm
  refine z_iload hC dX8_boxes_157 5 rfl ?_
  refine z_istore (lv' := [(5, .int x8), (0, .ref (ad 0)), (1, .int x1), (2, .int x2), (6, .int x6), (7, .int x7), (8, .int x8)]) hC dX8_boxes_159 (by decide) rfl ?_
  refine z_iload hC dX8_boxes_161 4 rfl ?_
  refine z_istore_n (lv' := [(3, .int x6), (5, .int x8), (0, .ref (ad 0)), (1, .int x1), (2, .int x2), (6, .int x6), (7, .int x7), (8, .int x8)]) hC dX8_boxes_163 rfl (by decide) rfl ?_
  refine z_iload hC dX8_boxes_164 6 rfl ?_
  refine z_istore (lv' := [(4, .int x7), (3, .int x6), (5, .int x8), (0, .ref (ad 0)), (1, .int x1), (2, .int x2), (6, .int x6), (7, .int x7), (8, .int x8)]) hC dX8_boxes_166 (by decide) rfl ?_
  refine z_iinc (lv' := [(7, .int (x7 + (1 : Int32))), (4, .int x7), (3, .int x6), (5, .int x8), (0, .ref (ad 0)), (1, .int x1), (2, .int x2), (6, .int x6), (8, .int x8)]) (k := 7) (v := (x7 + (1 : Int32))) hC dX8_boxes_168 rfl rfl (by decide) rfl ?_
  refine z_goto (tgt := 59) hC dX8_boxes_171 (by decide) ?_
  refine z_lv hC [4, 5, 6, 2, 1, 3, 7, 0] rfl ?_
  exact hK59 _ _ _ _ hm
def mM_boxes_L84 (K59 : Int32 → Int32 → Int32 → Int32 → Option Int32) (x1 : Int32) (x2 : Int32) (x3 : Int32) (x4 : Int32) (x5 : Int32) (x6 : Int32) (x7 : Int32) (u : SM) : Nat → Int32 → Int32 → Option Int32
  | 0, _, _ => none
  | n + 1, x8, x9 => if (M_seats u) ≤ x9 then (if x5 < 0 then (mM_boxes_J157 (K59) x1 x2 x6 x7 x8 u) else (if x8 < x5 then (mM_boxes_J157 (K59) x1 x2 x6 x7 x8 u) else (K59 x3 x4 x5 (x7 + (1 : Int32))))) else (zgi x9 8 (zgi x9 8 (zgi x9 8 (mM_boxes_L84 K59 x1 x2 x3 x4 x5 x6 x7 u n (x8 + ((mM_min (mM_apart x6 ((M_side u) (x9).toNatClampNeg)) (mM_apart x7 ((M_side u) (x9).toNatClampNeg))) * ((M_far u) (x9).toNatClampNeg))) (x9 + (1 : Int32))))))
set_option maxRecDepth 100000 in
set_option maxHeartbeats 4000000 in
theorem lM_boxes_84 {l : Launch} {D : va_G} {cA : Nat → ClassId} {ad : Nat → Nat} {p : Program} {e : Env} {s : State} {m : MethodId} {args : Array Value} {below : List Frame} {meth : Method} {c : Code} {E : zEt} {r : Int32}  {K59 : Int32 → Int32 → Int32 → Int32 → Option Int32} {x1 : Int32} {x2 : Int32} {x3 : Int32} {x4 : Int32} {x5 : Int32} {x6 : Int32} {x7 : Int32} {u : SM} (hI : zInj ad 23) (hC : zC p s m args meth c cX8_boxes 10 RX8 zTS D (zTy cA) zA0 E) (hr : meth.sig.returnType = (some .int)) (hK59 : ∀ (x3 : Int32) (x4 : Int32) (x5 : Int32) (x7 : Int32), K59 x3 x4 x5 x7 = some r → zG p l e (zRm 1) s m args below meth c 10 D zA0 (MQ below (zQi r zB0 zA0) args s 0 0 zA0) (wM cA ad u) [(0, .ref (ad 0)), (1, .int x1), (2, .int x2), (3, .int x3), (4, .int x4), (5, .int x5), (6, .int x6), (7, .int x7)] 59 []) : ∀ (n : Nat) (x8 : Int32) (x9 : Int32), mM_boxes_L84 K59 x1 x2 x3 x4 x5 x6 x7 u n x8 x9 = some r → zG p l e (zRm 1) s m args below meth c 10 D zA0 (MQ below (zQi r zB0 zA0) args s 0 0 zA0) (wM cA ad u) [(0, .ref (ad 0)), (1, .int x1), (2, .int x2), (3, .int x3), (4, .int x4), (5, .int x5), (6, .int x6), (7, .int x7), (8, .int x8), (9, .int x9)] 84 [] := by
  intro n
  induction n with
  | zero => intro x8 x9 hm; exact z_none hm
  | succ n ih =>
    intro x8 x9 hm
    rw [mM_boxes_L84] at hm
    refine z_iload hC dX8_boxes_84 9 rfl ?_
    refine z_aload_n hC dX8_boxes_86 rfl 0 rfl ?_
    refine gM_X8_16_o (v := (M_seats u)) hC dX8_boxes_87 rfl ?_
    refine z_icmp_ge (tgt := 142) hC hm dX8_boxes_90 (by decide) (fun hm => ?_) (fun hm => ?_)
    · refine z_iload hC dX8_boxes_142 5 rfl ?_
      refine z_if_lt (tgt := 157) hC hm dX8_boxes_144 (by decide) (fun hm => ?_) (fun hm => ?_)
      · refine z_lv hC [0, 1, 2, 6, 7, 8] rfl ?_
        exact jM_boxes_157 hI hC hr (hK59) hm
      · refine z_iload hC dX8_boxes_147 8 rfl ?_
        refine z_iload hC dX8_boxes_149 5 rfl ?_
        refine z_icmp_lt (tgt := 157) hC hm dX8_boxes_151 (by decide) (fun hm => ?_) (fun hm => ?_)
        · refine z_lv hC [0, 1, 2, 6, 7, 8] rfl ?_
          exact jM_boxes_157 hI hC hr (hK59) hm
        · refine z_goto (tgt := 168) hC dX8_boxes_154 (by decide) ?_
          refine z_iinc (lv' := [(7, .int (x7 + (1 : Int32))), (0, .ref (ad 0)), (1, .int x1), (2, .int x2), (3, .int x3), (4, .int x4), (5, .int x5), (6, .int x6), (8, .int x8), (9, .int x9)]) (k := 7) (v := (x7 + (1 : Int32))) hC dX8_boxes_168 rfl rfl (by decide) rfl ?_
          refine z_goto (tgt := 59) hC dX8_boxes_171 (by decide) ?_
          refine z_lv hC [1, 2, 3, 4, 5, 6, 7, 0] rfl ?_
          exact hK59 _ _ _ _ hm
    · refine z_iload hC dX8_boxes_93 8 rfl ?_
      refine z_aload_n hC dX8_boxes_95 rfl 0 rfl ?_
      refine z_aload_n hC dX8_boxes_96 rfl 0 rfl ?_
      refine z_iload hC dX8_boxes_97 6 rfl ?_
      refine z_aload_n hC dX8_boxes_99 rfl 0 rfl ?_
      refine gM_X8_33_o hC dX8_boxes_100 ?_
      refine z_iload hC dX8_boxes_103 9 rfl ?_
      refine aM_side hC hm dX8_boxes_105 (fun hm => ?_)
      refine xM_X8_233 hI hC (Nat.le_of_ble_eq_true rfl) dX8_boxes_106 (Nat.le_of_ble_eq_true rfl) ?_
      refine z_aload_n hC dX8_boxes_109 rfl 0 rfl ?_
      refine z_iload hC dX8_boxes_110 7 rfl ?_
      refine z_aload_n hC dX8_boxes_112 rfl 0 rfl ?_
      refine gM_X8_33_o hC dX8_boxes_113 ?_
      refine z_iload hC dX8_boxes_116 9 rfl ?_
      refine aM_side hC hm dX8_boxes_118 (fun hm => ?_)
      refine xM_X8_233 hI hC (Nat.le_of_ble_eq_true rfl) dX8_boxes_119 (Nat.le_of_ble_eq_true rfl) ?_
      refine xM_X8_247 hI hC (Nat.le_of_ble_eq_true rfl) dX8_boxes_122 (Nat.le_of_ble_eq_true rfl) ?_
      refine z_aload_n hC dX8_boxes_125 rfl 0 rfl ?_
      refine gM_X8_29_o hC dX8_boxes_126 ?_
      refine z_iload hC dX8_boxes_129 9 rfl ?_
      refine aM_far hC hm dX8_boxes_131 (fun hm => ?_)
      refine z_imul hC dX8_boxes_132 ?_
      refine z_iadd hC dX8_boxes_133 ?_
      refine z_istore (lv' := [(8, .int (x8 + ((mM_min (mM_apart x6 ((M_side u) (x9).toNatClampNeg)) (mM_apart x7 ((M_side u) (x9).toNatClampNeg))) * ((M_far u) (x9).toNatClampNeg)))), (0, .ref (ad 0)), (1, .int x1), (2, .int x2), (3, .int x3), (4, .int x4), (5, .int x5), (6, .int x6), (7, .int x7), (9, .int x9)]) hC dX8_boxes_134 (by decide) rfl ?_
      refine z_iinc (lv' := [(9, .int (x9 + (1 : Int32))), (8, .int (x8 + ((mM_min (mM_apart x6 ((M_side u) (x9).toNatClampNeg)) (mM_apart x7 ((M_side u) (x9).toNatClampNeg))) * ((M_far u) (x9).toNatClampNeg)))), (0, .ref (ad 0)), (1, .int x1), (2, .int x2), (3, .int x3), (4, .int x4), (5, .int x5), (6, .int x6), (7, .int x7)]) (k := 9) (v := (x9 + (1 : Int32))) hC dX8_boxes_136 rfl rfl (by decide) rfl ?_
      refine z_goto (tgt := 84) hC dX8_boxes_139 (by decide) ?_
      refine z_lv hC [2, 3, 4, 5, 6, 7, 8, 9, 1, 0] rfl ?_
      exact ih _ _ hm
def mM_boxes_L59 (K36 : Int32 → Int32 → Int32 → Int32 → Option Int32) (x1 : Int32) (x2 : Int32) (x6 : Int32) (u : SM) : Nat → Int32 → Int32 → Int32 → Int32 → Option Int32
  | 0, _, _, _, _ => none
  | n + 1, x3, x4, x5, x7 => if x1 = (1 : Int32) then (if (x6 + (1 : Int32)) ≤ x7 then (K36 x3 x4 x5 (x6 + (1 : Int32))) else (mM_boxes_L84 (mM_boxes_L59 K36 x1 x2 x6 u n) x1 x2 x3 x4 x5 x6 x7 u 256 (0 : Int32) (0 : Int32))) else (if (41 : Int32) ≤ x7 then (K36 x3 x4 x5 (x6 + (1 : Int32))) else (mM_boxes_L84 (mM_boxes_L59 K36 x1 x2 x6 u n) x1 x2 x3 x4 x5 x6 x7 u 256 (0 : Int32) (0 : Int32)))
set_option maxRecDepth 100000 in
set_option maxHeartbeats 4000000 in
theorem lM_boxes_59 {l : Launch} {D : va_G} {cA : Nat → ClassId} {ad : Nat → Nat} {p : Program} {e : Env} {s : State} {m : MethodId} {args : Array Value} {below : List Frame} {meth : Method} {c : Code} {E : zEt} {r : Int32}  {K36 : Int32 → Int32 → Int32 → Int32 → Option Int32} {x1 : Int32} {x2 : Int32} {x6 : Int32} {u : SM} (hI : zInj ad 23) (hC : zC p s m args meth c cX8_boxes 10 RX8 zTS D (zTy cA) zA0 E) (hr : meth.sig.returnType = (some .int)) (hK36 : ∀ (x3 : Int32) (x4 : Int32) (x5 : Int32) (x6 : Int32), K36 x3 x4 x5 x6 = some r → zG p l e (zRm 1) s m args below meth c 10 D zA0 (MQ below (zQi r zB0 zA0) args s 0 0 zA0) (wM cA ad u) [(0, .ref (ad 0)), (1, .int x1), (2, .int x2), (3, .int x3), (4, .int x4), (5, .int x5), (6, .int x6)] 36 []) : ∀ (n : Nat) (x3 : Int32) (x4 : Int32) (x5 : Int32) (x7 : Int32), mM_boxes_L59 K36 x1 x2 x6 u n x3 x4 x5 x7 = some r → zG p l e (zRm 1) s m args below meth c 10 D zA0 (MQ below (zQi r zB0 zA0) args s 0 0 zA0) (wM cA ad u) [(0, .ref (ad 0)), (1, .int x1), (2, .int x2), (3, .int x3), (4, .int x4), (5, .int x5), (6, .int x6), (7, .int x7)] 59 [] := by
  intro n
  induction n with
  | zero => intro x3 x4 x5 x7 hm; exact z_none hm
  | succ n ih =>
    intro x3 x4 x5 x7 hm
    rw [mM_boxes_L59] at hm
    refine z_iload hC dX8_boxes_59 7 rfl ?_
    refine z_iload_n hC dX8_boxes_61 rfl 1 rfl ?_
    refine z_iconst hC dX8_boxes_62 kI_1 ?_
    refine z_icmp_ne (tgt := 73) hC hm dX8_boxes_63 (by decide) (fun hm => ?_) (fun hm => ?_)
    · refine z_iload hC dX8_boxes_66 6 rfl ?_
      refine z_iconst hC dX8_boxes_68 kI_1 ?_
      refine z_iadd hC dX8_boxes_69 ?_
      refine z_goto (tgt := 75) hC dX8_boxes_70 (by decide) ?_
      refine z_icmp_ge (tgt := 174) hC hm dX8_boxes_75 (by decide) (fun hm => ?_) (fun hm => ?_)
      · refine z_iinc (lv' := [(6, .int (x6 + (1 : Int32))), (0, .ref (ad 0)), (1, .int x1), (2, .int x2), (3, .int x3), (4, .int x4), (5, .int x5), (7, .int x7)]) (k := 6) (v := (x6 + (1 : Int32))) hC dX8_boxes_174 rfl rfl (by decide) rfl ?_
        refine z_goto (tgt := 36) hC dX8_boxes_177 (by decide) ?_
        refine z_lv hC [1, 2, 3, 4, 5, 6, 0] rfl ?_
        exact hK36 _ _ _ _ hm
      · refine z_iconst hC dX8_boxes_78 kI_0 ?_
        refine z_istore (lv' := [(8, .int (0 : Int32)), (0, .ref (ad 0)), (1, .int x1), (2, .int x2), (3, .int x3), (4, .int x4), (5, .int x5), (6, .int x6), (7, .int x7)]) hC dX8_boxes_79 (by decide) rfl ?_
        refine z_iconst hC dX8_boxes_81 kI_0 ?_
        refine z_istore (lv' := [(9, .int (0 : Int32)), (8, .int (0 : Int32)), (0, .ref (ad 0)), (1, .int x1), (2, .int x2), (3, .int x3), (4, .int x4), (5, .int x5), (6, .int x6), (7, .int x7)]) hC dX8_boxes_82 (by decide) rfl ?_
        refine z_lv hC [2, 3, 4, 5, 6, 7, 8, 9, 1, 0] rfl ?_
        exact lM_boxes_84 hI hC hr (ih) _ _ _ hm
    · refine z_bipush hC dX8_boxes_73 kB_41 ?_
      refine z_icmp_ge (tgt := 174) hC hm dX8_boxes_75 (by decide) (fun hm => ?_) (fun hm => ?_)
      · refine z_iinc (lv' := [(6, .int (x6 + (1 : Int32))), (0, .ref (ad 0)), (1, .int x1), (2, .int x2), (3, .int x3), (4, .int x4), (5, .int x5), (7, .int x7)]) (k := 6) (v := (x6 + (1 : Int32))) hC dX8_boxes_174 rfl rfl (by decide) rfl ?_
        refine z_goto (tgt := 36) hC dX8_boxes_177 (by decide) ?_
        refine z_lv hC [1, 2, 3, 4, 5, 6, 0] rfl ?_
        exact hK36 _ _ _ _ hm
      · refine z_iconst hC dX8_boxes_78 kI_0 ?_
        refine z_istore (lv' := [(8, .int (0 : Int32)), (0, .ref (ad 0)), (1, .int x1), (2, .int x2), (3, .int x3), (4, .int x4), (5, .int x5), (6, .int x6), (7, .int x7)]) hC dX8_boxes_79 (by decide) rfl ?_
        refine z_iconst hC dX8_boxes_81 kI_0 ?_
        refine z_istore (lv' := [(9, .int (0 : Int32)), (8, .int (0 : Int32)), (0, .ref (ad 0)), (1, .int x1), (2, .int x2), (3, .int x3), (4, .int x4), (5, .int x5), (6, .int x6), (7, .int x7)]) hC dX8_boxes_82 (by decide) rfl ?_
        refine z_lv hC [2, 3, 4, 5, 6, 7, 8, 9, 1, 0] rfl ?_
        exact lM_boxes_84 hI hC hr (ih) _ _ _ hm
def mM_boxes_L36 (x1 : Int32) (x2 : Int32) (u : SM) : Nat → Int32 → Int32 → Int32 → Int32 → Option Int32
  | 0, _, _, _, _ => none
  | n + 1, x3, x4, x5, x6 => if (41 : Int32) ≤ x6 then (if x2 = 0 then (some x3) else (if x2 = (2 : Int32) then (some x5) else (if x1 = (1 : Int32) then (some (-5 : Int32)) else (some x4)))) else (if x1 = (1 : Int32) then (mM_boxes_L59 (mM_boxes_L36 x1 x2 u n) x1 x2 x6 u 256 x3 x4 x5 x6) else (mM_boxes_L59 (mM_boxes_L36 x1 x2 u n) x1 x2 x6 u 256 x3 x4 x5 (x6 + (1 : Int32))))
set_option maxRecDepth 100000 in
set_option maxHeartbeats 4000000 in
theorem lM_boxes_36 {l : Launch} {D : va_G} {cA : Nat → ClassId} {ad : Nat → Nat} {p : Program} {e : Env} {s : State} {m : MethodId} {args : Array Value} {below : List Frame} {meth : Method} {c : Code} {E : zEt} {r : Int32}  {x1 : Int32} {x2 : Int32} {u : SM} (hI : zInj ad 23) (hC : zC p s m args meth c cX8_boxes 10 RX8 zTS D (zTy cA) zA0 E) (hr : meth.sig.returnType = (some .int)) : ∀ (n : Nat) (x3 : Int32) (x4 : Int32) (x5 : Int32) (x6 : Int32), mM_boxes_L36 x1 x2 u n x3 x4 x5 x6 = some r → zG p l e (zRm 1) s m args below meth c 10 D zA0 (MQ below (zQi r zB0 zA0) args s 0 0 zA0) (wM cA ad u) [(0, .ref (ad 0)), (1, .int x1), (2, .int x2), (3, .int x3), (4, .int x4), (5, .int x5), (6, .int x6)] 36 [] := by
  intro n
  induction n with
  | zero => intro x3 x4 x5 x6 hm; exact z_none hm
  | succ n ih =>
    intro x3 x4 x5 x6 hm
    rw [mM_boxes_L36] at hm
    refine z_iload hC dX8_boxes_36 6 rfl ?_
    refine z_bipush hC dX8_boxes_38 kB_41 ?_
    refine z_icmp_ge (tgt := 180) hC hm dX8_boxes_40 (by decide) (fun hm => ?_) (fun hm => ?_)
    · refine z_iload_n hC dX8_boxes_180 rfl 2 rfl ?_
      refine z_if_ne (tgt := 188) hC hm dX8_boxes_181 (by decide) (fun hm => ?_) (fun hm => ?_)
      · refine z_iload_n hC dX8_boxes_184 rfl 3 rfl ?_
        refine z_goto (tgt := 210) hC dX8_boxes_185 (by decide) ?_
        exact z_iret hC hr rfl dX8_boxes_210 (fun _ _ => trivial) (Option.some.inj hm)
      · refine z_iload_n hC dX8_boxes_188 rfl 2 rfl ?_
        refine z_iconst hC dX8_boxes_189 kI_2 ?_
        refine z_icmp_ne (tgt := 198) hC hm dX8_boxes_190 (by decide) (fun hm => ?_) (fun hm => ?_)
        · refine z_iload hC dX8_boxes_193 5 rfl ?_
          refine z_goto (tgt := 210) hC dX8_boxes_195 (by decide) ?_
          exact z_iret hC hr rfl dX8_boxes_210 (fun _ _ => trivial) (Option.some.inj hm)
        · refine z_iload_n hC dX8_boxes_198 rfl 1 rfl ?_
          refine z_iconst hC dX8_boxes_199 kI_1 ?_
          refine z_icmp_ne (tgt := 208) hC hm dX8_boxes_200 (by decide) (fun hm => ?_) (fun hm => ?_)
          · refine z_bipush hC dX8_boxes_203 kB_m5 ?_
            refine z_goto (tgt := 210) hC dX8_boxes_205 (by decide) ?_
            exact z_iret hC hr rfl dX8_boxes_210 (fun _ _ => trivial) (Option.some.inj hm)
          · refine z_iload hC dX8_boxes_208 4 rfl ?_
            exact z_iret hC hr rfl dX8_boxes_210 (fun _ _ => trivial) (Option.some.inj hm)
    · refine z_iload_n hC dX8_boxes_43 rfl 1 rfl ?_
      refine z_iconst hC dX8_boxes_44 kI_1 ?_
      refine z_icmp_ne (tgt := 53) hC hm dX8_boxes_45 (by decide) (fun hm => ?_) (fun hm => ?_)
      · refine z_iload hC dX8_boxes_48 6 rfl ?_
        refine z_goto (tgt := 57) hC dX8_boxes_50 (by decide) ?_
        refine z_istore (lv' := [(7, .int x6), (0, .ref (ad 0)), (1, .int x1), (2, .int x2), (3, .int x3), (4, .int x4), (5, .int x5), (6, .int x6)]) hC dX8_boxes_57 (by decide) rfl ?_
        refine z_lv hC [1, 2, 3, 4, 5, 6, 7, 0] rfl ?_
        exact lM_boxes_59 hI hC hr (ih) _ _ _ _ _ hm
      · refine z_iload hC dX8_boxes_53 6 rfl ?_
        refine z_iconst hC dX8_boxes_55 kI_1 ?_
        refine z_iadd hC dX8_boxes_56 ?_
        refine z_istore (lv' := [(7, .int (x6 + (1 : Int32))), (0, .ref (ad 0)), (1, .int x1), (2, .int x2), (3, .int x3), (4, .int x4), (5, .int x5), (6, .int x6)]) hC dX8_boxes_57 (by decide) rfl ?_
        refine z_lv hC [1, 2, 3, 4, 5, 6, 7, 0] rfl ?_
        exact lM_boxes_59 hI hC hr (ih) _ _ _ _ _ hm
def mM_boxes (x1 : Int32) (x2 : Int32) (u : SM) : Option Int32 :=
  if (mM_in x2 (0 : Int32) (2 : Int32)) = 0 then (some (-1 : Int32)) else (if (mM_in x1 (1 : Int32) (2 : Int32)) = 0 then (some (-2 : Int32)) else (mM_boxes_L36 x1 x2 u 256 (0 : Int32) (0 : Int32) (-1 : Int32) (0 : Int32)))
set_option maxRecDepth 100000 in
set_option maxHeartbeats 4000000 in
theorem cM_boxes {l : Launch} {D : va_G} {cA : Nat → ClassId} {ad : Nat → Nat} {E : zEt} (hI : zInj ad 23) (x1 : Int32) (x2 : Int32) (u : SM) {r : Int32} (hm : mM_boxes x1 x2 u = some r) : Met l yX8_boxes (zWs yX8_boxes cX8_boxes 10 (some .int)) (zRm 1) (va_Pc [.ref (ad 0), .int x1, .int x2] (zPre D (zTy cA) E zA0 (wM cA ad u))) (zQi r zB0 zA0) 0 0 zA0 := by
  refine z_met (lv := [(0, .ref (ad 0)), (1, .int x1), (2, .int x2)]) plX8 rfl rfl (Nat.le_of_ble_eq_true rfl) rfl ?_
  intro p e s m below meth c hC hr hin
  unfold mM_boxes at hm
  refine z_aload_n hC dX8_boxes_0 rfl 0 rfl ?_
  refine z_iload_n hC dX8_boxes_1 rfl 2 rfl ?_
  refine z_iconst hC dX8_boxes_2 kI_0 ?_
  refine z_iconst hC dX8_boxes_3 kI_2 ?_
  refine xM_X8_150 hI hC (Nat.le_of_ble_eq_true rfl) dX8_boxes_4 (Nat.le_of_ble_eq_true rfl) ?_
  refine z_if_ne (tgt := 12) hC hm dX8_boxes_7 (by decide) (fun hm => ?_) (fun hm => ?_)
  · refine z_iconst hC dX8_boxes_10 kI_m1 ?_
    exact z_iret hC hr rfl dX8_boxes_11 (fun _ _ => trivial) (Option.some.inj hm)
  · refine z_aload_n hC dX8_boxes_12 rfl 0 rfl ?_
    refine z_iload_n hC dX8_boxes_13 rfl 1 rfl ?_
    refine z_iconst hC dX8_boxes_14 kI_1 ?_
    refine z_iconst hC dX8_boxes_15 kI_2 ?_
    refine xM_X8_150 hI hC (Nat.le_of_ble_eq_true rfl) dX8_boxes_16 (Nat.le_of_ble_eq_true rfl) ?_
    refine z_if_ne (tgt := 25) hC hm dX8_boxes_19 (by decide) (fun hm => ?_) (fun hm => ?_)
    · refine z_bipush hC dX8_boxes_22 kB_m2 ?_
      exact z_iret hC hr rfl dX8_boxes_24 (fun _ _ => trivial) (Option.some.inj hm)
    · refine z_iconst hC dX8_boxes_25 kI_0 ?_
      refine z_istore_n (lv' := [(3, .int (0 : Int32)), (0, .ref (ad 0)), (1, .int x1), (2, .int x2)]) hC dX8_boxes_26 rfl (by decide) rfl ?_
      refine z_iconst hC dX8_boxes_27 kI_0 ?_
      refine z_istore (lv' := [(4, .int (0 : Int32)), (3, .int (0 : Int32)), (0, .ref (ad 0)), (1, .int x1), (2, .int x2)]) hC dX8_boxes_28 (by decide) rfl ?_
      refine z_iconst hC dX8_boxes_30 kI_m1 ?_
      refine z_istore (lv' := [(5, .int (-1 : Int32)), (4, .int (0 : Int32)), (3, .int (0 : Int32)), (0, .ref (ad 0)), (1, .int x1), (2, .int x2)]) hC dX8_boxes_31 (by decide) rfl ?_
      refine z_iconst hC dX8_boxes_33 kI_0 ?_
      refine z_istore (lv' := [(6, .int (0 : Int32)), (5, .int (-1 : Int32)), (4, .int (0 : Int32)), (3, .int (0 : Int32)), (0, .ref (ad 0)), (1, .int x1), (2, .int x2)]) hC dX8_boxes_34 (by decide) rfl ?_
      refine z_lv hC [4, 5, 6, 3, 2, 1, 0] rfl ?_
      exact lM_boxes_36 hI hC hr _ _ _ _ _ hm
def M_put_slips (p : Int32) (u : SM) : SM := ((((u.1.1.1.1, (u.1.1.1.2.1, (u.1.1.1.2.2.1, p))), u.1.1.2), u.1.2), u.2)
theorem gM_X8_22_o {p : Program} {l : Launch} {e : Env} {R : Room} {s : State} {m : MethodId} {args : Array Value} {below : List Frame} {meth : Method} {c : Code} {Q : State → Prop} {D : va_G} {A : Nat → Prop} {cc : ByteArray} {nL : Nat} {lv : List (Nat × Value)} {pc : Nat} {st : List Value} {cA : Nat → ClassId} {ad : Nat → Nat} {E : zEt} {u : SM} (C : zC p s m args meth c cc nL RX8 zTS D (zTy cA) A E) (hd : decode cc pc = .ok (.getfield 22, 3)) {v : Int32} (hv : M_slips u = v) (g : zG p l e R s m args below meth c nL D A Q (wM cA ad u) lv (pc + 3) (.int v :: st)) : zG p l e R s m args below meth c nL D A Q (wM cA ad u) lv pc (.ref (ad 0) :: st) := by
  subst hv; exact fun H locs ls hP hS hL => va_get (D := D) (ci := 8) (C := RX8) (T := TX8) (N := 45) C.1.1 C.1.2.1 C.1.2.2.2.2 inlX8 C.1.2.2.2.1 C.2.1 hP 0 (heM_o cA ad u) rfl 4 (by decide) (C.1.2.2.2.2 _ mfX8_22) (fun _ h9 => h9) (v := .int (M_slips u)) rfl hd (g H locs ls hP hS hL)
theorem pM_X8_22_o {p : Program} {l : Launch} {e : Env} {R : Room} {s : State} {m : MethodId} {args : Array Value} {below : List Frame} {meth : Method} {c : Code} {Q : State → Prop} {D : va_G} {A : Nat → Prop} {cc : ByteArray} {nL : Nat} {lv : List (Nat × Value)} {pc : Nat} {st : List Value} {cA : Nat → ClassId} {ad : Nat → Nat} {E : zEt} {u : SM} {v : Int32} (C : zC p s m args meth c cc nL RX8 zTS D (zTy cA) A E) (hI : zInj ad 23) (hA : ∀ q, zAd ad 23 q → A q) (hd : decode cc pc = .ok (.putfield 22, 3)) (g : zG p l e R s m args below meth c nL D A Q (wM cA ad (M_set_slips v u)) lv (pc + 3) st) : zG p l e R s m args below meth c nL D A Q (wM cA ad u) lv pc (.int v :: .ref (ad 0) :: st) := fun H locs ls hP hS hL => va_put (D := D) (ci := 8) (C := RX8) (T := TX8) (N := 45) C.1.1 C.1.2.1 C.1.2.2.2.2 inlX8 tyX8 tyX8_ok nmX8 C.1.2.2.2.1 C.2.1 hP (zD_mono (wM_D hI cA u) hA) hS 0 (heM_o cA ad u) rfl 4 (by decide) (C.1.2.2.2.2 _ mfX8_22) (fun _ h9 => h9) rfl (ty := .int) (by decide +kernel) rfl rfl (Nat.le_of_ble_eq_true rfl) hd (fun H1 locs1 hP1 _ hS1 => g H1 locs1 ls hP1 hS1 hL)
def mM_slips (x1 : Int32) (u : SM) : Option (Int32 × Int32) :=
  if (mM_in x1 (0 : Int32) (10 : Int32)) = 0 then (some ((-2 : Int32), ((M_slips u)))) else (some ((M_slips u), (x1)))
set_option maxRecDepth 100000 in
set_option maxHeartbeats 4000000 in
theorem cM_slips {l : Launch} {D : va_G} {cA : Nat → ClassId} {ad : Nat → Nat} {E : zEt} (hI : zInj ad 23) (x1 : Int32) (u : SM) {r : Int32} {w' : Int32} (hm : mM_slips x1 u = some (r, w')) : Met l yX8_slips (zWs yX8_slips cX8_slips 3 (some .int)) (zRm 1) (va_Pc [.ref (ad 0), .int x1] (zPre D (zTy cA) E (zAd ad 23) (wM cA ad u))) (zQi r (zBw D (wM cA ad (M_put_slips w' u))) (zAd ad 23)) 0 0 (zAd ad 23) := by
  refine z_met (lv := [(0, .ref (ad 0)), (1, .int x1)]) plX8 rfl rfl (Nat.le_of_ble_eq_true rfl) rfl ?_
  intro p e s m below meth c hC hr hin
  unfold mM_slips at hm
  refine z_aload_n hC dX8_slips_0 rfl 0 rfl ?_
  refine z_iload_n hC dX8_slips_1 rfl 1 rfl ?_
  refine z_iconst hC dX8_slips_2 kI_0 ?_
  refine z_bipush hC dX8_slips_3 kB_10 ?_
  refine xM_X8_150 hI hC (Nat.le_of_ble_eq_true rfl) dX8_slips_5 (Nat.le_of_ble_eq_true rfl) ?_
  refine z_if_ne (tgt := 14) hC hm dX8_slips_8 (by decide) (fun hm => ?_) (fun hm => ?_)
  · refine z_bipush hC dX8_slips_11 kB_m2 ?_
    exact riM (fin := fun z => M_put_slips z u) hC hr rfl dX8_slips_13 hm rfl
  · refine z_aload_n hC dX8_slips_14 rfl 0 rfl ?_
    refine gM_X8_22_o (v := (M_slips u)) hC dX8_slips_15 rfl ?_
    refine z_istore_n (lv' := [(2, .int (M_slips u)), (0, .ref (ad 0)), (1, .int x1)]) hC dX8_slips_18 rfl (by decide) rfl ?_
    refine z_aload_n hC dX8_slips_19 rfl 1 rfl ?_
    refine z_iload_n hC dX8_slips_20 rfl 2 rfl ?_
    refine pM_X8_22_o hC hI (fun _ h => h) dX8_slips_21 ?_
    refine zuM (u2 := (M_put_slips (x1) u)) rfl ?_
    refine z_iload_n hC dX8_slips_24 rfl 0 rfl ?_
    exact riM (fin := fun z => M_put_slips z u) hC hr rfl dX8_slips_25 hm rfl
def mM_divisor_L6 : Nat → Int64 → Int64 → Option Int64
  | 0, _, _ => none
  | n + 1, x5, x7 => if (lg_cmp x7 (0 : Int64)) = 0 then (some x5) else (zgl x7 (mM_divisor_L6 n x7 (x5 - x5 / x7 * x7)))
set_option maxRecDepth 100000 in
set_option maxHeartbeats 4000000 in
theorem lM_divisor_6 {l : Launch} {D : va_G} {cA : Nat → ClassId} {ad : Nat → Nat} {p : Program} {e : Env} {s : State} {m : MethodId} {args : Array Value} {below : List Frame} {meth : Method} {c : Code} {E : zEt} {r : Int64}  {u : SM} (hI : zInj ad 23) (hC : zC p s m args meth c cX8_divisor 11 RX8 zTS D (zTy cA) zA0 E) (hr : meth.sig.returnType = (some .long)) : ∀ (n : Nat) (x5 : Int64) (x7 : Int64), mM_divisor_L6 n x5 x7 = some r → zG p l e (zRm 0) s m args below meth c 11 D zA0 (MQ below (zQl r zB0 zA0) args s 0 0 zA0) (wM cA ad u) [(5, .long x5), (7, .long x7)] 6 [] := by
  intro n
  induction n with
  | zero => intro x5 x7 hm; exact z_none hm
  | succ n ih =>
    intro x5 x7 hm
    rw [mM_divisor_L6] at hm
    refine z_lload hC dX8_divisor_6 1 rfl ?_
    refine z_lconst hC dX8_divisor_8 kL_0 ?_
    refine z_lcmp hC dX8_divisor_9 ?_
    refine z_if_eq (tgt := 31) hC hm dX8_divisor_10 (by decide) (fun hm => ?_) (fun hm => ?_)
    · refine z_lload hC dX8_divisor_31 0 rfl ?_
      exact z_lret hC hr dX8_divisor_33 (fun _ _ => trivial) (Option.some.inj hm)
    · refine z_lload hC dX8_divisor_13 0 rfl ?_
      refine z_lload hC dX8_divisor_15 1 rfl ?_
      refine z_g (zgl_some hm) (fun hne hm => ?_)
      refine z_lrem hC dX8_divisor_17 hne ?_
      refine z_lstore (lv' := [(9, .long (x5 - x5 / x7 * x7)), (5, .long x5), (7, .long x7)]) hC dX8_divisor_18 (by decide) rfl ?_
      refine z_lload hC dX8_divisor_20 2 rfl ?_
      refine z_lstore (lv' := [(5, .long x7), (9, .long (x5 - x5 / x7 * x7)), (7, .long x7)]) hC dX8_divisor_22 (by decide) rfl ?_
      refine z_lload hC dX8_divisor_24 1 rfl ?_
      refine z_lstore (lv' := [(7, .long (x5 - x5 / x7 * x7)), (5, .long x7), (9, .long (x5 - x5 / x7 * x7))]) hC dX8_divisor_26 (by decide) rfl ?_
      refine z_goto (tgt := 6) hC dX8_divisor_28 (by decide) ?_
      refine z_lv hC [1, 0] rfl ?_
      exact ih _ _ hm
def mM_divisor (x1 : Int64) (x3 : Int64) : Option Int64 :=
  mM_divisor_L6 256 x1 x3
set_option maxRecDepth 100000 in
set_option maxHeartbeats 4000000 in
theorem cM_divisor {l : Launch} {D : va_G} {cA : Nat → ClassId} {ad : Nat → Nat} {E : zEt} (hI : zInj ad 23) (x1 : Int64) (x3 : Int64) (u : SM) {r : Int64} (hm : mM_divisor x1 x3 = some r) : Met l yX8_divisor (zWs yX8_divisor cX8_divisor 11 (some .long)) (zRm 0) (va_Pc [.ref (ad 0), .long x1, .long x3] (zPre D (zTy cA) E zA0 (wM cA ad u))) (zQl r zB0 zA0) 0 0 zA0 := by
  refine z_met (lv := [(0, .ref (ad 0)), (1, .long x1), (3, .long x3)]) plX8 rfl rfl (Nat.le_of_ble_eq_true rfl) rfl ?_
  intro p e s m below meth c hC hr hin
  unfold mM_divisor at hm
  refine z_lload_n hC dX8_divisor_0 rfl 1 rfl ?_
  refine z_lstore (lv' := [(5, .long x1), (0, .ref (ad 0)), (1, .long x1), (3, .long x3)]) hC dX8_divisor_1 (by decide) rfl ?_
  refine z_lload_n hC dX8_divisor_3 rfl 3 rfl ?_
  refine z_lstore (lv' := [(7, .long x3), (5, .long x1), (0, .ref (ad 0)), (1, .long x1), (3, .long x3)]) hC dX8_divisor_4 (by decide) rfl ?_
  refine z_lv hC [1, 0] rfl ?_
  exact lM_divisor_6 hI hC hr _ _ _ hm
theorem xM_X8_291 {p : Program} {l : Launch} {e : Env} {s : State} {m : MethodId} {args : Array Value} {below : List Frame} {meth : Method} {c : Code} {Q : State → Prop} {D : va_G} {A : Nat → Prop} {cc : ByteArray} {nL : Nat} {lv : List (Nat × Value)} {pc : Nat} {st : List Value} {cA : Nat → ClassId} {ad : Nat → Nat} {E : zEt} {d : Nat} {x1 : Int64} {x3 : Int64} {u : SM} (hI : zInj ad 23) (C : zC p s m args meth c cc nL RX8 zTS D (zTy cA) A E) (hdm : 0 + 1 ≤ d) {β : Type} {f : Int64 → Option β} {o : β} (hm : (mM_divisor x1 x3).bind f = some o) (hd : decode cc pc = .ok (.invokevirtual 291, 3)) (h8 : (st.map fun v => v.category).sum ≤ 8) (g : ∀ q, f q = some o → zG p l e (zRm d) s m args below meth c nL D A Q (wM cA ad u) lv (pc + 3) (.long q :: st)) : zG p l e (zRm d) s m args below meth c nL D A Q (wM cA ad u) lv pc (.long x3 :: .long x1 :: .ref (ad 0) :: st) := by
  obtain ⟨q, h1, h2⟩ := zb_some hm
  exact z_calllV C (cM_divisor hI x1 x3 u h1) (cwX8_291 C.1.2.2.2.2 rfl rfl ⟨hdm, by have := hdm; simp only [zRm]; omega⟩) hd rfl rfl h8 ⟨_, rfl, rfl⟩ (List.mem_of_getElem? (heM_o cA ad u)) (fun _ h => h) (fun _ h => h.elim) zJ_ro (g q h2)
def mM_sure_J125 (x4 : Int32) (x8 : Int64) (s0 : Int64) (u : SM) : Option (Int64 × (Nat → Int32)) :=
  (mM_divisor s0 x8).bind fun q3 => (if x4 = 0 then (zgl q3 (some ((s0 / q3), ((M_pile u))))) else (zgl q3 (some ((x8 / q3), ((M_pile u))))))
set_option maxRecDepth 100000 in
set_option maxHeartbeats 4000000 in
theorem jM_sure_125 {l : Launch} {D : va_G} {cA : Nat → ClassId} {ad : Nat → Nat} {p : Program} {e : Env} {s : State} {m : MethodId} {args : Array Value} {below : List Frame} {meth : Method} {c : Code} {E : zEt} {r : Int64} {w' : (Nat → Int32)}  {x4 : Int32} {x8 : Int64} {s0 : Int64} {u : SM} (hI : zInj ad 23) (hC : zC p s m args meth c cX8_sure 14 RX8 zTS D (zTy cA) (zAd ad 23) E) (hr : meth.sig.returnType = (some .long)) (hm : mM_sure_J125 x4 x8 s0 u = some (r, w')) : zG p l e (zRm 6) s m args below meth c 14 D (zAd ad 23) (MQ below (zQl r (zBw D (wM cA ad (M_put_pile w' u))) (zAd ad 23)) args s 0 0 (zAd ad 23)) (wM cA ad u) [(0, .ref (ad 0)), (4, .int x4), (8, .long x8)] 125 [.long s0] := by
  unfold mM_sure_J125 at hm
  refine z_lstore (lv' := [(10, .long s0), (0, .ref (ad 0)), (4, .int x4), (8, .long x8)]) hC dX8_sure_125 (by decide) rfl ?_
  refine z_aload_n hC dX8_sure_127 rfl 1 rfl ?_
  refine z_lload hC dX8_sure_128 0 rfl ?_
  refine z_lload hC dX8_sure_130 3 rfl ?_
  refine xM_X8_291 hI hC (Nat.le_of_ble_eq_true rfl) hm dX8_sure_132 (Nat.le_of_ble_eq_true rfl) (fun q3 hm => ?_)
  refine z_lstore (lv' := [(12, .long q3), (10, .long s0), (0, .ref (ad 0)), (4, .int x4), (8, .long x8)]) hC dX8_sure_135 (by decide) rfl ?_
  refine z_iload hC dX8_sure_137 3 rfl ?_
  refine z_if_ne (tgt := 150) hC hm dX8_sure_139 (by decide) (fun hm => ?_) (fun hm => ?_)
  · refine z_lload hC dX8_sure_142 1 rfl ?_
    refine z_lload hC dX8_sure_144 0 rfl ?_
    refine z_g (zgl_some hm) (fun hne hm => ?_)
    refine z_ldiv hC dX8_sure_146 hne ?_
    refine z_goto (tgt := 155) hC dX8_sure_147 (by decide) ?_
    exact rlM (fin := fun z => M_put_pile z u) hC hr dX8_sure_155 hm rfl
  · refine z_lload hC dX8_sure_150 4 rfl ?_
    refine z_lload hC dX8_sure_152 0 rfl ?_
    refine z_g (zgl_some hm) (fun hne hm => ?_)
    refine z_ldiv hC dX8_sure_154 hne ?_
    exact rlM (fin := fun z => M_put_pile z u) hC hr dX8_sure_155 hm rfl
def mM_sure_L71 (x1 : Int32) (x2 : Int32) (x3 : Int32) (x4 : Int32) (x5 : Int32) : Nat → Int64 → Int64 → Int32 → SM → Option (Int64 × (Nat → Int32))
  | 0, _, _, _, _ => none
  | n + 1, x6, x8, x10, u => if x5 ≤ x10 then ((mM_mayJoin x1 x2 x3 (M_jaw u) u).bind fun q2 => (if q2.1 = 0 then (mM_sure_J125 x4 x8 (0 : Int64) (M_put_pile (q2.2) u)) else (mM_sure_J125 x4 x8 (x8 - x6) (M_put_pile (q2.2) u)))) else (mM_sure_L71 x1 x2 x3 x4 x5 n (x6 * (((M_slips u)).toInt64)) (x8 * (10 : Int64)) (x10 + (1 : Int32)) u)
set_option maxRecDepth 100000 in
set_option maxHeartbeats 4000000 in
theorem lM_sure_71 {l : Launch} {D : va_G} {cA : Nat → ClassId} {ad : Nat → Nat} {p : Program} {e : Env} {s : State} {m : MethodId} {args : Array Value} {below : List Frame} {meth : Method} {c : Code} {E : zEt} {r : Int64} {w' : (Nat → Int32)}  {x1 : Int32} {x2 : Int32} {x3 : Int32} {x4 : Int32} {x5 : Int32} (hI : zInj ad 23) (hC : zC p s m args meth c cX8_sure 14 RX8 zTS D (zTy cA) (zAd ad 23) E) (hr : meth.sig.returnType = (some .long)) : ∀ (n : Nat) (x6 : Int64) (x8 : Int64) (x10 : Int32) (u : SM), mM_sure_L71 x1 x2 x3 x4 x5 n x6 x8 x10 u = some (r, w') → zG p l e (zRm 6) s m args below meth c 14 D (zAd ad 23) (MQ below (zQl r (zBw D (wM cA ad (M_put_pile w' u))) (zAd ad 23)) args s 0 0 (zAd ad 23)) (wM cA ad u) [(0, .ref (ad 0)), (1, .int x1), (2, .int x2), (3, .int x3), (4, .int x4), (5, .int x5), (6, .long x6), (8, .long x8), (10, .int x10)] 71 [] := by
  intro n
  induction n with
  | zero => intro x6 x8 x10 u hm; exact z_none hm
  | succ n ih =>
    intro x6 x8 x10 u hm
    rw [mM_sure_L71] at hm
    refine z_iload hC dX8_sure_71 8 rfl ?_
    refine z_iload hC dX8_sure_73 5 rfl ?_
    refine z_icmp_ge (tgt := 102) hC hm dX8_sure_75 (by decide) (fun hm => ?_) (fun hm => ?_)
    · refine z_aload_n hC dX8_sure_102 rfl 0 rfl ?_
      refine z_iload_n hC dX8_sure_103 rfl 1 rfl ?_
      refine z_iload_n hC dX8_sure_104 rfl 2 rfl ?_
      refine z_iload_n hC dX8_sure_105 rfl 3 rfl ?_
      refine z_aload_n hC dX8_sure_106 rfl 0 rfl ?_
      refine gM_X8_13_o (v := (M_jaw u)) hC dX8_sure_107 rfl ?_
      refine xM_X8_259 hI hC (Nat.le_of_ble_eq_true rfl) (fun _ h => h) hm dX8_sure_110 (Nat.le_of_ble_eq_true rfl) (fun q2 hm => ?_)
      refine zuM (u2 := (M_put_pile (q2.2) u)) rfl ?_
      refine z_if_eq (tgt := 124) hC hm dX8_sure_113 (by decide) (fun hm => ?_) (fun hm => ?_)
      · refine z_lconst hC dX8_sure_124 kL_0 ?_
        refine z_lv hC [0, 4, 7] rfl ?_
        exact jM_sure_125 hI hC hr hm
      · refine z_lload hC dX8_sure_116 7 rfl ?_
        refine z_lload hC dX8_sure_118 6 rfl ?_
        refine z_lsub hC dX8_sure_120 ?_
        refine z_goto (tgt := 125) hC dX8_sure_121 (by decide) ?_
        refine z_lv hC [0, 4, 7] rfl ?_
        exact jM_sure_125 hI hC hr hm
    · refine z_lload hC dX8_sure_78 6 rfl ?_
      refine z_aload_n hC dX8_sure_80 rfl 0 rfl ?_
      refine gM_X8_22_o (v := (M_slips u)) hC dX8_sure_81 rfl ?_
      refine z_i2l hC dX8_sure_84 ?_
      refine z_lmul hC dX8_sure_85 ?_
      refine z_lstore (lv' := [(6, .long (x6 * (((M_slips u)).toInt64))), (0, .ref (ad 0)), (1, .int x1), (2, .int x2), (3, .int x3), (4, .int x4), (5, .int x5), (8, .long x8), (10, .int x10)]) hC dX8_sure_86 (by decide) rfl ?_
      refine z_lload hC dX8_sure_88 7 rfl ?_
      refine z_ldc2 hC mcX8_289 dX8_sure_90 ?_
      refine z_lmul hC dX8_sure_93 ?_
      refine z_lstore (lv' := [(8, .long (x8 * (10 : Int64))), (6, .long (x6 * (((M_slips u)).toInt64))), (0, .ref (ad 0)), (1, .int x1), (2, .int x2), (3, .int x3), (4, .int x4), (5, .int x5), (10, .int x10)]) hC dX8_sure_94 (by decide) rfl ?_
      refine z_iinc (lv' := [(10, .int (x10 + (1 : Int32))), (8, .long (x8 * (10 : Int64))), (6, .long (x6 * (((M_slips u)).toInt64))), (0, .ref (ad 0)), (1, .int x1), (2, .int x2), (3, .int x3), (4, .int x4), (5, .int x5)]) (k := 8) (v := (x10 + (1 : Int32))) hC dX8_sure_96 rfl rfl (by decide) rfl ?_
      refine z_goto (tgt := 71) hC dX8_sure_99 (by decide) ?_
      refine z_lv hC [3, 4, 5, 6, 7, 8, 2, 1, 0] rfl ?_
      exact ih _ _ _ _ hm
def mM_sure (x1 : Int32) (x2 : Int32) (x3 : Int32) (x4 : Int32) (u : SM) : Option (Int64 × (Nat → Int32)) :=
  if (mM_isVoice x1 u) = 0 then (some ((-9223372036854775808 : Int64), ((M_pile u)))) else (if (mM_isSeat x2 u) = 0 then (some ((-9223372036854775808 : Int64), ((M_pile u)))) else (if (mM_in x3 (0 : Int32) (39 : Int32)) = 0 then (some ((-9223372036854775808 : Int64), ((M_pile u)))) else (if (mM_in x4 (0 : Int32) (1 : Int32)) = 0 then (some ((-9223372036854775808 : Int64), ((M_pile u)))) else ((mM_movesBy x1 x3 (0 : Int32) u).bind fun q1 => (if q1 ≤ (15 : Int32) then (mM_sure_L71 x1 x2 x3 x4 q1 256 (1 : Int64) (1 : Int64) (0 : Int32) u) else (some ((-9223372036854775808 : Int64), ((M_pile u)))))))))
set_option maxRecDepth 100000 in
set_option maxHeartbeats 4000000 in
theorem cM_sure {l : Launch} {D : va_G} {cA : Nat → ClassId} {ad : Nat → Nat} {E : zEt} (hI : zInj ad 23) (x1 : Int32) (x2 : Int32) (x3 : Int32) (x4 : Int32) (u : SM) {r : Int64} {w' : (Nat → Int32)} (hm : mM_sure x1 x2 x3 x4 u = some (r, w')) : Met l yX8_sure (zWs yX8_sure cX8_sure 14 (some .long)) (zRm 6) (va_Pc [.ref (ad 0), .int x1, .int x2, .int x3, .int x4] (zPre D (zTy cA) E (zAd ad 23) (wM cA ad u))) (zQl r (zBw D (wM cA ad (M_put_pile w' u))) (zAd ad 23)) 0 0 (zAd ad 23) := by
  refine z_met (lv := [(0, .ref (ad 0)), (1, .int x1), (2, .int x2), (3, .int x3), (4, .int x4)]) plX8 rfl rfl (Nat.le_of_ble_eq_true rfl) rfl ?_
  intro p e s m below meth c hC hr hin
  unfold mM_sure at hm
  refine z_aload_n hC dX8_sure_0 rfl 0 rfl ?_
  refine z_iload_n hC dX8_sure_1 rfl 1 rfl ?_
  refine xM_X8_272 hI hC (Nat.le_of_ble_eq_true rfl) dX8_sure_2 (Nat.le_of_ble_eq_true rfl) ?_
  refine z_if_eq (tgt := 38) hC hm dX8_sure_5 (by decide) (fun hm => ?_) (fun hm => ?_)
  · refine z_ldc2 hC mcX8_287 dX8_sure_38 ?_
    exact rlM (fin := fun z => M_put_pile z u) hC hr dX8_sure_41 hm rfl
  · refine z_aload_n hC dX8_sure_8 rfl 0 rfl ?_
    refine z_iload_n hC dX8_sure_9 rfl 2 rfl ?_
    refine xM_X8_160 hI hC (Nat.le_of_ble_eq_true rfl) dX8_sure_10 (Nat.le_of_ble_eq_true rfl) ?_
    refine z_if_eq (tgt := 38) hC hm dX8_sure_13 (by decide) (fun hm => ?_) (fun hm => ?_)
    · refine z_ldc2 hC mcX8_287 dX8_sure_38 ?_
      exact rlM (fin := fun z => M_put_pile z u) hC hr dX8_sure_41 hm rfl
    · refine z_aload_n hC dX8_sure_16 rfl 0 rfl ?_
      refine z_iload_n hC dX8_sure_17 rfl 3 rfl ?_
      refine z_iconst hC dX8_sure_18 kI_0 ?_
      refine z_bipush hC dX8_sure_19 kB_39 ?_
      refine xM_X8_150 hI hC (Nat.le_of_ble_eq_true rfl) dX8_sure_21 (Nat.le_of_ble_eq_true rfl) ?_
      refine z_if_eq (tgt := 38) hC hm dX8_sure_24 (by decide) (fun hm => ?_) (fun hm => ?_)
      · refine z_ldc2 hC mcX8_287 dX8_sure_38 ?_
        exact rlM (fin := fun z => M_put_pile z u) hC hr dX8_sure_41 hm rfl
      · refine z_aload_n hC dX8_sure_27 rfl 0 rfl ?_
        refine z_iload hC dX8_sure_28 4 rfl ?_
        refine z_iconst hC dX8_sure_30 kI_0 ?_
        refine z_iconst hC dX8_sure_31 kI_1 ?_
        refine xM_X8_150 hI hC (Nat.le_of_ble_eq_true rfl) dX8_sure_32 (Nat.le_of_ble_eq_true rfl) ?_
        refine z_if_ne (tgt := 42) hC hm dX8_sure_35 (by decide) (fun hm => ?_) (fun hm => ?_)
        · refine z_ldc2 hC mcX8_287 dX8_sure_38 ?_
          exact rlM (fin := fun z => M_put_pile z u) hC hr dX8_sure_41 hm rfl
        · refine z_aload_n hC dX8_sure_42 rfl 0 rfl ?_
          refine z_iload_n hC dX8_sure_43 rfl 1 rfl ?_
          refine z_iload_n hC dX8_sure_44 rfl 3 rfl ?_
          refine z_iconst hC dX8_sure_45 kI_0 ?_
          refine xM_X8_262 hI hC (Nat.le_of_ble_eq_true rfl) hm dX8_sure_46 (Nat.le_of_ble_eq_true rfl) (fun q1 hm => ?_)
          refine z_istore (lv' := [(5, .int q1), (0, .ref (ad 0)), (1, .int x1), (2, .int x2), (3, .int x3), (4, .int x4)]) hC dX8_sure_49 (by decide) rfl ?_
          refine z_iload hC dX8_sure_51 0 rfl ?_
          refine z_bipush hC dX8_sure_53 kB_15 ?_
          refine z_icmp_le (tgt := 62) hC hm dX8_sure_55 (by decide) (fun hm => ?_) (fun hm => ?_)
          · refine z_lconst hC dX8_sure_62 kL_1 ?_
            refine z_lstore (lv' := [(6, .long (1 : Int64)), (5, .int q1), (0, .ref (ad 0)), (1, .int x1), (2, .int x2), (3, .int x3), (4, .int x4)]) hC dX8_sure_63 (by decide) rfl ?_
            refine z_lconst hC dX8_sure_65 kL_1 ?_
            refine z_lstore (lv' := [(8, .long (1 : Int64)), (6, .long (1 : Int64)), (5, .int q1), (0, .ref (ad 0)), (1, .int x1), (2, .int x2), (3, .int x3), (4, .int x4)]) hC dX8_sure_66 (by decide) rfl ?_
            refine z_iconst hC dX8_sure_68 kI_0 ?_
            refine z_istore (lv' := [(10, .int (0 : Int32)), (8, .long (1 : Int64)), (6, .long (1 : Int64)), (5, .int q1), (0, .ref (ad 0)), (1, .int x1), (2, .int x2), (3, .int x3), (4, .int x4)]) hC dX8_sure_69 (by decide) rfl ?_
            refine z_lv hC [4, 5, 6, 7, 8, 3, 2, 1, 0] rfl ?_
            exact lM_sure_71 hI hC hr _ _ _ _ _ hm
          · refine z_ldc2 hC mcX8_287 dX8_sure_58 ?_
            exact rlM (fin := fun z => M_put_pile z u) hC hr dX8_sure_61 hm rfl
def mM_changes_J96 (K47 : Int32 → Int32 → SM → Option (Int32 × (Nat → Int32))) (x1 : Int32) (x2 : Int32) (x3 : Int32) (x4 : Int32) (x5 : Int32) (x6 : Int32) (x7 : Int32) (s1 : Int32) (u : SM) : Option (Int32 × (Nat → Int32)) :=
  (mM_heldOf s1 x3 ((2 : Int32) * x6) u).bind fun q2 => (if (mM_apart x7 q2.1) ≤ x4 then (K47 (x5 + (0 : Int32)) (x6 + (1 : Int32)) (M_put_pile (q2.2) u)) else (K47 (x5 + (1 : Int32)) (x6 + (1 : Int32)) (M_put_pile (q2.2) u)))
set_option maxRecDepth 100000 in
set_option maxHeartbeats 4000000 in
theorem jM_changes_96 {l : Launch} {D : va_G} {cA : Nat → ClassId} {ad : Nat → Nat} {p : Program} {e : Env} {s : State} {m : MethodId} {args : Array Value} {below : List Frame} {meth : Method} {c : Code} {E : zEt} {r : Int32} {w' : (Nat → Int32)}  {K47 : Int32 → Int32 → SM → Option (Int32 × (Nat → Int32))} {x1 : Int32} {x2 : Int32} {x3 : Int32} {x4 : Int32} {x5 : Int32} {x6 : Int32} {x7 : Int32} {s1 : Int32} {u : SM} (hI : zInj ad 23) (hC : zC p s m args meth c cX8_changes 9 RX8 zTS D (zTy cA) (zAd ad 23) E) (hr : meth.sig.returnType = (some .int)) (hK47 : ∀ (x5 : Int32) (x6 : Int32) (u : SM), K47 x5 x6 u = some (r, w') → zG p l e (zRm 8) s m args below meth c 9 D (zAd ad 23) (MQ below (zQi r (zBw D (wM cA ad (M_put_pile w' u))) (zAd ad 23)) args s 0 0 (zAd ad 23)) (wM cA ad u) [(0, .ref (ad 0)), (1, .int x1), (2, .int x2), (3, .int x3), (4, .int x4), (5, .int x5), (6, .int x6)] 47 []) (hm : mM_changes_J96 K47 x1 x2 x3 x4 x5 x6 x7 s1 u = some (r, w')) : zG p l e (zRm 8) s m args below meth c 9 D (zAd ad 23) (MQ below (zQi r (zBw D (wM cA ad (M_put_pile w' u))) (zAd ad 23)) args s 0 0 (zAd ad 23)) (wM cA ad u) [(0, .ref (ad 0)), (1, .int x1), (2, .int x2), (3, .int x3), (4, .int x4), (5, .int x5), (6, .int x6), (7, .int x7)] 96 [.int s1, .ref (ad 0)] := by
  unfold mM_changes_J96 at hm
  refine z_iload_n hC dX8_changes_96 rfl 3 rfl ?_
  refine z_iconst hC dX8_changes_97 kI_2 ?_
  refine z_iload hC dX8_changes_98 6 rfl ?_
  refine z_imul hC dX8_changes_100 ?_
  refine xM_X8_269 hI hC (Nat.le_of_ble_eq_true rfl) (fun _ h => h) hm dX8_changes_101 (Nat.le_of_ble_eq_true rfl) (fun q2 hm => ?_)
  refine zuM (u2 := (M_put_pile (q2.2) u)) rfl ?_
  refine z_istore (lv' := [(8, .int q2.1), (0, .ref (ad 0)), (1, .int x1), (2, .int x2), (3, .int x3), (4, .int x4), (5, .int x5), (6, .int x6), (7, .int x7)]) hC dX8_changes_104 (by decide) rfl ?_
  refine z_iload hC dX8_changes_106 6 rfl ?_
  refine z_aload_n hC dX8_changes_108 rfl 1 rfl ?_
  refine z_iload hC dX8_changes_109 8 rfl ?_
  refine z_iload hC dX8_changes_111 0 rfl ?_
  refine xM_X8_233 hI hC (Nat.le_of_ble_eq_true rfl) dX8_changes_113 (Nat.le_of_ble_eq_true rfl) ?_
  refine z_iload hC dX8_changes_116 5 rfl ?_
  refine z_icmp_le (tgt := 125) hC hm dX8_changes_118 (by decide) (fun hm => ?_) (fun hm => ?_)
  · refine z_iconst hC dX8_changes_125 kI_0 ?_
    refine z_iadd hC dX8_changes_126 ?_
    refine z_istore (lv' := [(5, .int (x5 + (0 : Int32))), (8, .int q2.1), (0, .ref (ad 0)), (1, .int x1), (2, .int x2), (3, .int x3), (4, .int x4), (6, .int x6), (7, .int x7)]) hC dX8_changes_127 (by decide) rfl ?_
    refine z_iinc (lv' := [(6, .int (x6 + (1 : Int32))), (5, .int (x5 + (0 : Int32))), (8, .int q2.1), (0, .ref (ad 0)), (1, .int x1), (2, .int x2), (3, .int x3), (4, .int x4), (7, .int x7)]) (k := 7) (v := (x6 + (1 : Int32))) hC dX8_changes_129 rfl rfl (by decide) rfl ?_
    refine z_goto (tgt := 47) hC dX8_changes_132 (by decide) ?_
    refine z_lv hC [3, 4, 5, 6, 7, 1, 0] rfl ?_
    exact hK47 _ _ _ hm
  · refine z_iconst hC dX8_changes_121 kI_1 ?_
    refine z_goto (tgt := 126) hC dX8_changes_122 (by decide) ?_
    refine z_iadd hC dX8_changes_126 ?_
    refine z_istore (lv' := [(5, .int (x5 + (1 : Int32))), (8, .int q2.1), (0, .ref (ad 0)), (1, .int x1), (2, .int x2), (3, .int x3), (4, .int x4), (6, .int x6), (7, .int x7)]) hC dX8_changes_127 (by decide) rfl ?_
    refine z_iinc (lv' := [(6, .int (x6 + (1 : Int32))), (5, .int (x5 + (1 : Int32))), (8, .int q2.1), (0, .ref (ad 0)), (1, .int x1), (2, .int x2), (3, .int x3), (4, .int x4), (7, .int x7)]) (k := 7) (v := (x6 + (1 : Int32))) hC dX8_changes_129 rfl rfl (by decide) rfl ?_
    refine z_goto (tgt := 47) hC dX8_changes_132 (by decide) ?_
    refine z_lv hC [3, 4, 5, 6, 7, 1, 0] rfl ?_
    exact hK47 _ _ _ hm
def mM_changes_J70 (K47 : Int32 → Int32 → SM → Option (Int32 × (Nat → Int32))) (x1 : Int32) (x2 : Int32) (x3 : Int32) (x4 : Int32) (x5 : Int32) (x6 : Int32) (s1 : Int32) (u : SM) : Option (Int32 × (Nat → Int32)) :=
  (mM_heldOf s1 x3 (((2 : Int32) * x6) - (2 : Int32)) u).bind fun q1 => (if (x6 - x6 / (2 : Int32) * (2 : Int32)) = (1 : Int32) then (mM_changes_J96 (K47) x1 x2 x3 x4 x5 x6 q1.1 x2 (M_put_pile (q1.2) u)) else (mM_changes_J96 (K47) x1 x2 x3 x4 x5 x6 q1.1 x1 (M_put_pile (q1.2) u)))
set_option maxRecDepth 100000 in
set_option maxHeartbeats 4000000 in
theorem jM_changes_70 {l : Launch} {D : va_G} {cA : Nat → ClassId} {ad : Nat → Nat} {p : Program} {e : Env} {s : State} {m : MethodId} {args : Array Value} {below : List Frame} {meth : Method} {c : Code} {E : zEt} {r : Int32} {w' : (Nat → Int32)}  {K47 : Int32 → Int32 → SM → Option (Int32 × (Nat → Int32))} {x1 : Int32} {x2 : Int32} {x3 : Int32} {x4 : Int32} {x5 : Int32} {x6 : Int32} {s1 : Int32} {u : SM} (hI : zInj ad 23) (hC : zC p s m args meth c cX8_changes 9 RX8 zTS D (zTy cA) (zAd ad 23) E) (hr : meth.sig.returnType = (some .int)) (hK47 : ∀ (x5 : Int32) (x6 : Int32) (u : SM), K47 x5 x6 u = some (r, w') → zG p l e (zRm 8) s m args below meth c 9 D (zAd ad 23) (MQ below (zQi r (zBw D (wM cA ad (M_put_pile w' u))) (zAd ad 23)) args s 0 0 (zAd ad 23)) (wM cA ad u) [(0, .ref (ad 0)), (1, .int x1), (2, .int x2), (3, .int x3), (4, .int x4), (5, .int x5), (6, .int x6)] 47 []) (hm : mM_changes_J70 K47 x1 x2 x3 x4 x5 x6 s1 u = some (r, w')) : zG p l e (zRm 8) s m args below meth c 9 D (zAd ad 23) (MQ below (zQi r (zBw D (wM cA ad (M_put_pile w' u))) (zAd ad 23)) args s 0 0 (zAd ad 23)) (wM cA ad u) [(0, .ref (ad 0)), (1, .int x1), (2, .int x2), (3, .int x3), (4, .int x4), (5, .int x5), (6, .int x6)] 70 [.int s1, .ref (ad 0)] := by
  unfold mM_changes_J70 at hm
  refine z_iload_n hC dX8_changes_70 rfl 3 rfl ?_
  refine z_iconst hC dX8_changes_71 kI_2 ?_
  refine z_iload hC dX8_changes_72 6 rfl ?_
  refine z_imul hC dX8_changes_74 ?_
  refine z_iconst hC dX8_changes_75 kI_2 ?_
  refine z_isub hC dX8_changes_76 ?_
  refine xM_X8_269 hI hC (Nat.le_of_ble_eq_true rfl) (fun _ h => h) hm dX8_changes_77 (Nat.le_of_ble_eq_true rfl) (fun q1 hm => ?_)
  refine zuM (u2 := (M_put_pile (q1.2) u)) rfl ?_
  refine z_istore (lv' := [(7, .int q1.1), (0, .ref (ad 0)), (1, .int x1), (2, .int x2), (3, .int x3), (4, .int x4), (5, .int x5), (6, .int x6)]) hC dX8_changes_80 (by decide) rfl ?_
  refine z_aload_n hC dX8_changes_82 rfl 1 rfl ?_
  refine z_iload hC dX8_changes_83 7 rfl ?_
  refine z_iconst hC dX8_changes_85 kI_2 ?_
  refine z_irem hC dX8_changes_86 (by decide) ?_
  refine z_iconst hC dX8_changes_87 kI_1 ?_
  refine z_icmp_ne (tgt := 95) hC hm dX8_changes_88 (by decide) (fun hm => ?_) (fun hm => ?_)
  · refine z_iload_n hC dX8_changes_91 rfl 3 rfl ?_
    refine z_goto (tgt := 96) hC dX8_changes_92 (by decide) ?_
    refine z_lv hC [1, 2, 3, 4, 5, 6, 7, 0] rfl ?_
    exact jM_changes_96 hI hC hr (hK47) hm
  · refine z_iload_n hC dX8_changes_95 rfl 2 rfl ?_
    refine z_lv hC [1, 2, 3, 4, 5, 6, 7, 0] rfl ?_
    exact jM_changes_96 hI hC hr (hK47) hm
def mM_changes_L47 (x1 : Int32) (x2 : Int32) (x3 : Int32) (x4 : Int32) : Nat → Int32 → Int32 → SM → Option (Int32 × (Nat → Int32))
  | 0, _, _, _ => none
  | n + 1, x5, x6, u => if (M_letters u) ≤ x6 then (some (x5, ((M_pile u)))) else (if (x6 - x6 / (2 : Int32) * (2 : Int32)) = (1 : Int32) then (mM_changes_J70 (mM_changes_L47 x1 x2 x3 x4 n) x1 x2 x3 x4 x5 x6 x1 u) else (mM_changes_J70 (mM_changes_L47 x1 x2 x3 x4 n) x1 x2 x3 x4 x5 x6 x2 u))
set_option maxRecDepth 100000 in
set_option maxHeartbeats 4000000 in
theorem lM_changes_47 {l : Launch} {D : va_G} {cA : Nat → ClassId} {ad : Nat → Nat} {p : Program} {e : Env} {s : State} {m : MethodId} {args : Array Value} {below : List Frame} {meth : Method} {c : Code} {E : zEt} {r : Int32} {w' : (Nat → Int32)}  {x1 : Int32} {x2 : Int32} {x3 : Int32} {x4 : Int32} (hI : zInj ad 23) (hC : zC p s m args meth c cX8_changes 9 RX8 zTS D (zTy cA) (zAd ad 23) E) (hr : meth.sig.returnType = (some .int)) : ∀ (n : Nat) (x5 : Int32) (x6 : Int32) (u : SM), mM_changes_L47 x1 x2 x3 x4 n x5 x6 u = some (r, w') → zG p l e (zRm 8) s m args below meth c 9 D (zAd ad 23) (MQ below (zQi r (zBw D (wM cA ad (M_put_pile w' u))) (zAd ad 23)) args s 0 0 (zAd ad 23)) (wM cA ad u) [(0, .ref (ad 0)), (1, .int x1), (2, .int x2), (3, .int x3), (4, .int x4), (5, .int x5), (6, .int x6)] 47 [] := by
  intro n
  induction n with
  | zero => intro x5 x6 u hm; exact z_none hm
  | succ n ih =>
    intro x5 x6 u hm
    rw [mM_changes_L47] at hm
    refine z_iload hC dX8_changes_47 6 rfl ?_
    refine z_aload_n hC dX8_changes_49 rfl 0 rfl ?_
    refine gM_X8_19_o (v := (M_letters u)) hC dX8_changes_50 rfl ?_
    refine z_icmp_ge (tgt := 135) hC hm dX8_changes_53 (by decide) (fun hm => ?_) (fun hm => ?_)
    · refine z_iload hC dX8_changes_135 5 rfl ?_
      exact riM (fin := fun z => M_put_pile z u) hC hr rfl dX8_changes_137 hm rfl
    · refine z_aload_n hC dX8_changes_56 rfl 0 rfl ?_
      refine z_iload hC dX8_changes_57 6 rfl ?_
      refine z_iconst hC dX8_changes_59 kI_2 ?_
      refine z_irem hC dX8_changes_60 (by decide) ?_
      refine z_iconst hC dX8_changes_61 kI_1 ?_
      refine z_icmp_ne (tgt := 69) hC hm dX8_changes_62 (by decide) (fun hm => ?_) (fun hm => ?_)
      · refine z_iload_n hC dX8_changes_65 rfl 1 rfl ?_
        refine z_goto (tgt := 70) hC dX8_changes_66 (by decide) ?_
        refine z_lv hC [0, 1, 2, 3, 4, 5, 6] rfl ?_
        exact jM_changes_70 hI hC hr (ih) hm
      · refine z_iload_n hC dX8_changes_69 rfl 2 rfl ?_
        refine z_lv hC [0, 1, 2, 3, 4, 5, 6] rfl ?_
        exact jM_changes_70 hI hC hr (ih) hm
def mM_changes (x1 : Int32) (x2 : Int32) (x3 : Int32) (x4 : Int32) (u : SM) : Option (Int32 × (Nat → Int32)) :=
  if (mM_isVoice x1 u) = 0 then (some ((-1 : Int32), ((M_pile u)))) else (if (mM_isVoice x2 u) = 0 then (some ((-1 : Int32), ((M_pile u)))) else (if (mM_isSeat x3 u) = 0 then (some ((-1 : Int32), ((M_pile u)))) else (if (mM_in x4 (0 : Int32) (40 : Int32)) = 0 then (some ((-2 : Int32), ((M_pile u)))) else (mM_changes_L47 x1 x2 x3 x4 256 (0 : Int32) (1 : Int32) u))))
set_option maxRecDepth 100000 in
set_option maxHeartbeats 4000000 in
theorem cM_changes {l : Launch} {D : va_G} {cA : Nat → ClassId} {ad : Nat → Nat} {E : zEt} (hI : zInj ad 23) (x1 : Int32) (x2 : Int32) (x3 : Int32) (x4 : Int32) (u : SM) {r : Int32} {w' : (Nat → Int32)} (hm : mM_changes x1 x2 x3 x4 u = some (r, w')) : Met l yX8_changes (zWs yX8_changes cX8_changes 9 (some .int)) (zRm 8) (va_Pc [.ref (ad 0), .int x1, .int x2, .int x3, .int x4] (zPre D (zTy cA) E (zAd ad 23) (wM cA ad u))) (zQi r (zBw D (wM cA ad (M_put_pile w' u))) (zAd ad 23)) 0 0 (zAd ad 23) := by
  refine z_met (lv := [(0, .ref (ad 0)), (1, .int x1), (2, .int x2), (3, .int x3), (4, .int x4)]) plX8 rfl rfl (Nat.le_of_ble_eq_true rfl) rfl ?_
  intro p e s m below meth c hC hr hin
  unfold mM_changes at hm
  refine z_aload_n hC dX8_changes_0 rfl 0 rfl ?_
  refine z_iload_n hC dX8_changes_1 rfl 1 rfl ?_
  refine xM_X8_272 hI hC (Nat.le_of_ble_eq_true rfl) dX8_changes_2 (Nat.le_of_ble_eq_true rfl) ?_
  refine z_if_eq (tgt := 24) hC hm dX8_changes_5 (by decide) (fun hm => ?_) (fun hm => ?_)
  · refine z_iconst hC dX8_changes_24 kI_m1 ?_
    exact riM (fin := fun z => M_put_pile z u) hC hr rfl dX8_changes_25 hm rfl
  · refine z_aload_n hC dX8_changes_8 rfl 0 rfl ?_
    refine z_iload_n hC dX8_changes_9 rfl 2 rfl ?_
    refine xM_X8_272 hI hC (Nat.le_of_ble_eq_true rfl) dX8_changes_10 (Nat.le_of_ble_eq_true rfl) ?_
    refine z_if_eq (tgt := 24) hC hm dX8_changes_13 (by decide) (fun hm => ?_) (fun hm => ?_)
    · refine z_iconst hC dX8_changes_24 kI_m1 ?_
      exact riM (fin := fun z => M_put_pile z u) hC hr rfl dX8_changes_25 hm rfl
    · refine z_aload_n hC dX8_changes_16 rfl 0 rfl ?_
      refine z_iload_n hC dX8_changes_17 rfl 3 rfl ?_
      refine xM_X8_160 hI hC (Nat.le_of_ble_eq_true rfl) dX8_changes_18 (Nat.le_of_ble_eq_true rfl) ?_
      refine z_if_ne (tgt := 26) hC hm dX8_changes_21 (by decide) (fun hm => ?_) (fun hm => ?_)
      · refine z_iconst hC dX8_changes_24 kI_m1 ?_
        exact riM (fin := fun z => M_put_pile z u) hC hr rfl dX8_changes_25 hm rfl
      · refine z_aload_n hC dX8_changes_26 rfl 0 rfl ?_
        refine z_iload hC dX8_changes_27 4 rfl ?_
        refine z_iconst hC dX8_changes_29 kI_0 ?_
        refine z_bipush hC dX8_changes_30 kB_40 ?_
        refine xM_X8_150 hI hC (Nat.le_of_ble_eq_true rfl) dX8_changes_32 (Nat.le_of_ble_eq_true rfl) ?_
        refine z_if_ne (tgt := 41) hC hm dX8_changes_35 (by decide) (fun hm => ?_) (fun hm => ?_)
        · refine z_bipush hC dX8_changes_38 kB_m2 ?_
          exact riM (fin := fun z => M_put_pile z u) hC hr rfl dX8_changes_40 hm rfl
        · refine z_iconst hC dX8_changes_41 kI_0 ?_
          refine z_istore (lv' := [(5, .int (0 : Int32)), (0, .ref (ad 0)), (1, .int x1), (2, .int x2), (3, .int x3), (4, .int x4)]) hC dX8_changes_42 (by decide) rfl ?_
          refine z_iconst hC dX8_changes_44 kI_1 ?_
          refine z_istore (lv' := [(6, .int (1 : Int32)), (5, .int (0 : Int32)), (0, .ref (ad 0)), (1, .int x1), (2, .int x2), (3, .int x3), (4, .int x4)]) hC dX8_changes_45 (by decide) rfl ?_
          refine z_lv hC [2, 3, 4, 5, 6, 1, 0] rfl ?_
          exact lM_changes_47 hI hC hr _ _ _ _ hm
def mM_isTape (x1 : Int32) : Int32 :=
  (mM_in x1 (0 : Int32) (5 : Int32))
theorem bM_isTape (x1 : Int32) : mM_isTape x1 = 0 ∨ mM_isTape x1 = 1 := by
  unfold mM_isTape
  (repeat' split) <;> first | exact Or.inl rfl | exact Or.inr rfl | exact bM_in ..
set_option maxRecDepth 100000 in
set_option maxHeartbeats 4000000 in
theorem cM_isTape {l : Launch} {D : va_G} {cA : Nat → ClassId} {ad : Nat → Nat} {E : zEt} (hI : zInj ad 23) (x1 : Int32) (u : SM) {r : Int32} (hm : mM_isTape x1 = r) : Met l yX8_isTape (zWs yX8_isTape cX8_isTape 2 (some .boolean)) (zRm 1) (va_Pc [.ref (ad 0), .int x1] (zPre D (zTy cA) E zA0 (wM cA ad u))) (zQi r zB0 zA0) 0 0 zA0 := by
  refine z_met (lv := [(0, .ref (ad 0)), (1, .int x1)]) plX8 rfl rfl (Nat.le_of_ble_eq_true rfl) rfl ?_
  intro p e s m below meth c hC hr hin
  unfold mM_isTape at hm
  refine z_aload_n hC dX8_isTape_0 rfl 0 rfl ?_
  refine z_iload_n hC dX8_isTape_1 rfl 1 rfl ?_
  refine z_iconst hC dX8_isTape_2 kI_0 ?_
  refine z_iconst hC dX8_isTape_3 kI_5 ?_
  refine xM_X8_150 hI hC (Nat.le_of_ble_eq_true rfl) dX8_isTape_4 (Nat.le_of_ble_eq_true rfl) ?_
  exact z_iret hC hr (zb_nar (bM_in ..)) dX8_isTape_7 (fun _ _ => trivial) hm
theorem xM_X8_295 {p : Program} {l : Launch} {e : Env} {s : State} {m : MethodId} {args : Array Value} {below : List Frame} {meth : Method} {c : Code} {Q : State → Prop} {D : va_G} {A : Nat → Prop} {cc : ByteArray} {nL : Nat} {lv : List (Nat × Value)} {pc : Nat} {st : List Value} {cA : Nat → ClassId} {ad : Nat → Nat} {E : zEt} {d : Nat} {x1 : Int32} {u : SM} (hI : zInj ad 23) (C : zC p s m args meth c cc nL RX8 zTS D (zTy cA) A E) (hdm : 1 + 1 ≤ d) (hd : decode cc pc = .ok (.invokevirtual 295, 3)) (h8 : (st.map fun v => v.category).sum ≤ 8) (g : zG p l e (zRm d) s m args below meth c nL D A Q (wM cA ad u) lv (pc + 3) (.int (mM_isTape x1) :: st)) : zG p l e (zRm d) s m args below meth c nL D A Q (wM cA ad u) lv pc (.int x1 :: .ref (ad 0) :: st) :=
  z_calliV C (cM_isTape hI x1 u rfl) (cwX8_295 C.1.2.2.2.2 rfl rfl ⟨hdm, by have := hdm; simp only [zRm]; omega⟩) hd rfl rfl h8 ⟨_, rfl, rfl⟩ (List.mem_of_getElem? (heM_o cA ad u)) (fun _ h => h) (fun _ h => h.elim) zJ_ro g
theorem gM_X8_137_o {p : Program} {l : Launch} {e : Env} {R : Room} {s : State} {m : MethodId} {args : Array Value} {below : List Frame} {meth : Method} {c : Code} {Q : State → Prop} {D : va_G} {A : Nat → Prop} {cc : ByteArray} {nL : Nat} {lv : List (Nat × Value)} {pc : Nat} {st : List Value} {cA : Nat → ClassId} {ad : Nat → Nat} {E : zEt} {u : SM} (C : zC p s m args meth c cc nL RX8 zTS D (zTy cA) A E) (hd : decode cc pc = .ok (.getfield 137, 3)) (g : zG p l e R s m args below meth c nL D A Q (wM cA ad u) lv (pc + 3) (.ref (ad 19) :: st)) : zG p l e R s m args below meth c nL D A Q (wM cA ad u) lv pc (.ref (ad 0) :: st) := by
  exact fun H locs ls hP hS hL => va_get (D := D) (ci := 8) (C := RX8) (T := TX8) (N := 45) C.1.1 C.1.2.1 C.1.2.2.2.2 inlX8 C.1.2.2.2.1 C.2.1 hP 0 (heM_o cA ad u) rfl 41 (by decide) (C.1.2.2.2.2 _ mfX8_137) (fun _ h9 => h9) (v := .ref (ad 19)) rfl hd (g H locs ls hP hS hL)
theorem aM_sort {p : Program} {l : Launch} {e : Env} {R : Room} {s : State} {m : MethodId} {args : Array Value} {below : List Frame} {meth : Method} {c : Code} {Q : State → Prop} {D : va_G} {A : Nat → Prop} {cc : ByteArray} {nL : Nat} {lv : List (Nat × Value)} {pc : Nat} {st : List Value} {cA : Nat → ClassId} {ad : Nat → Nat} {E : zEt} {own : String} {u : SM} {i : Int32} {β : Type} {k : Option β} {r : β} (C : zC p s m args meth c cc nL own zTS D (zTy cA) A E) (hm : zgi i 6 k = some r) (hd : decode cc pc = .ok (.iaload, 1)) (g : k = some r → zG p l e R s m args below meth c nL D A Q (wM cA ad u) lv (pc + 1) (.int (M_sort u i.toNatClampNeg) :: st)) : zG p l e R s m args below meth c nL D A Q (wM cA ad u) lv pc (.int i :: .ref (ad 19) :: st) := fun H locs ls hP hS hL => va_iald C.1.1 C.1.2.1 C.2.1 hP 19 0 (heM_sort cA ad u) rfl (zgi_some hm).1 hd (g (zgi_some hm).2 H locs ls hP hS hL)
theorem gM_X8_140_o {p : Program} {l : Launch} {e : Env} {R : Room} {s : State} {m : MethodId} {args : Array Value} {below : List Frame} {meth : Method} {c : Code} {Q : State → Prop} {D : va_G} {A : Nat → Prop} {cc : ByteArray} {nL : Nat} {lv : List (Nat × Value)} {pc : Nat} {st : List Value} {cA : Nat → ClassId} {ad : Nat → Nat} {E : zEt} {u : SM} (C : zC p s m args meth c cc nL RX8 zTS D (zTy cA) A E) (hd : decode cc pc = .ok (.getfield 140, 3)) (g : zG p l e R s m args below meth c nL D A Q (wM cA ad u) lv (pc + 3) (.ref (ad 20) :: st)) : zG p l e R s m args below meth c nL D A Q (wM cA ad u) lv pc (.ref (ad 0) :: st) := by
  exact fun H locs ls hP hS hL => va_get (D := D) (ci := 8) (C := RX8) (T := TX8) (N := 45) C.1.1 C.1.2.1 C.1.2.2.2.2 inlX8 C.1.2.2.2.1 C.2.1 hP 0 (heM_o cA ad u) rfl 42 (by decide) (C.1.2.2.2.2 _ mfX8_140) (fun _ h9 => h9) (v := .ref (ad 20)) rfl hd (g H locs ls hP hS hL)
theorem aM_length {p : Program} {l : Launch} {e : Env} {R : Room} {s : State} {m : MethodId} {args : Array Value} {below : List Frame} {meth : Method} {c : Code} {Q : State → Prop} {D : va_G} {A : Nat → Prop} {cc : ByteArray} {nL : Nat} {lv : List (Nat × Value)} {pc : Nat} {st : List Value} {cA : Nat → ClassId} {ad : Nat → Nat} {E : zEt} {own : String} {u : SM} {i : Int32} {β : Type} {k : Option β} {r : β} (C : zC p s m args meth c cc nL own zTS D (zTy cA) A E) (hm : zgi i 6 k = some r) (hd : decode cc pc = .ok (.iaload, 1)) (g : k = some r → zG p l e R s m args below meth c nL D A Q (wM cA ad u) lv (pc + 1) (.int (M_length u i.toNatClampNeg) :: st)) : zG p l e R s m args below meth c nL D A Q (wM cA ad u) lv pc (.int i :: .ref (ad 20) :: st) := fun H locs ls hP hS hL => va_iald C.1.1 C.1.2.1 C.2.1 hP 20 0 (heM_length cA ad u) rfl (zgi_some hm).1 hd (g (zgi_some hm).2 H locs ls hP hS hL)
theorem gM_X8_143_o {p : Program} {l : Launch} {e : Env} {R : Room} {s : State} {m : MethodId} {args : Array Value} {below : List Frame} {meth : Method} {c : Code} {Q : State → Prop} {D : va_G} {A : Nat → Prop} {cc : ByteArray} {nL : Nat} {lv : List (Nat × Value)} {pc : Nat} {st : List Value} {cA : Nat → ClassId} {ad : Nat → Nat} {E : zEt} {u : SM} (C : zC p s m args meth c cc nL RX8 zTS D (zTy cA) A E) (hd : decode cc pc = .ok (.getfield 143, 3)) (g : zG p l e R s m args below meth c nL D A Q (wM cA ad u) lv (pc + 3) (.ref (ad 21) :: st)) : zG p l e R s m args below meth c nL D A Q (wM cA ad u) lv pc (.ref (ad 0) :: st) := by
  exact fun H locs ls hP hS hL => va_get (D := D) (ci := 8) (C := RX8) (T := TX8) (N := 45) C.1.1 C.1.2.1 C.1.2.2.2.2 inlX8 C.1.2.2.2.1 C.2.1 hP 0 (heM_o cA ad u) rfl 43 (by decide) (C.1.2.2.2.2 _ mfX8_143) (fun _ h9 => h9) (v := .ref (ad 21)) rfl hd (g H locs ls hP hS hL)
theorem aM_item {p : Program} {l : Launch} {e : Env} {R : Room} {s : State} {m : MethodId} {args : Array Value} {below : List Frame} {meth : Method} {c : Code} {Q : State → Prop} {D : va_G} {A : Nat → Prop} {cc : ByteArray} {nL : Nat} {lv : List (Nat × Value)} {pc : Nat} {st : List Value} {cA : Nat → ClassId} {ad : Nat → Nat} {E : zEt} {own : String} {u : SM} {i : Int32} {β : Type} {k : Option β} {r : β} (C : zC p s m args meth c cc nL own zTS D (zTy cA) A E) (hm : zgi i 360 k = some r) (hd : decode cc pc = .ok (.laload, 1)) (g : k = some r → zG p l e R s m args below meth c nL D A Q (wM cA ad u) lv (pc + 1) (.long (M_item u i.toNatClampNeg) :: st)) : zG p l e R s m args below meth c nL D A Q (wM cA ad u) lv pc (.int i :: .ref (ad 21) :: st) := fun H locs ls hP hS hL => va_lald C.1.1 C.1.2.1 C.2.1 hP 21 1 (heM_item cA ad u) rfl (zgi_some hm).1 hd (g (zgi_some hm).2 H locs ls hP hS hL)
def mM_judge_L52 (x1 : Int32) (x2 : Int32) (x3 : Int32) (x4 : Int32) : Nat → Int32 → SM → Option (Int32 × (Nat → Int32))
  | 0, _, _ => none
  | n + 1, x5, u => if ((2 : Int32) * (M_letters u)) ≤ x5 then (some ((-5 : Int32), ((M_pile u)))) else (zgi x1 6 (if ((M_sort u) (x1).toNatClampNeg) < 0 then (some (((100 : Int32) + x5), ((M_pile u)))) else (if x2 < 0 then (some (((100 : Int32) + x5), ((M_pile u)))) else (zgi x1 6 (if x2 ≤ ((((M_length u) (x1).toNatClampNeg) - x5) - (1 : Int32)) then (zgi ((((60 : Int32) * x1) + x2) + x5) 360 ((mM_heldOf x3 x4 x5 u).bind fun q1 => (if (lg_cmp ((M_item u) (((((60 : Int32) * x1) + x2) + x5)).toNatClampNeg) ((q1.1).toInt64)) = 0 then (mM_judge_L52 x1 x2 x3 x4 n (x5 + (1 : Int32)) (M_put_pile (q1.2) u)) else (some (x5, (q1.2)))))) else (some (((100 : Int32) + x5), ((M_pile u)))))))))
set_option maxRecDepth 100000 in
set_option maxHeartbeats 4000000 in
theorem lM_judge_52 {l : Launch} {D : va_G} {cA : Nat → ClassId} {ad : Nat → Nat} {p : Program} {e : Env} {s : State} {m : MethodId} {args : Array Value} {below : List Frame} {meth : Method} {c : Code} {E : zEt} {r : Int32} {w' : (Nat → Int32)}  {x1 : Int32} {x2 : Int32} {x3 : Int32} {x4 : Int32} (hI : zInj ad 23) (hC : zC p s m args meth c cX8_judge 6 RX8 zTS D (zTy cA) (zAd ad 23) E) (hr : meth.sig.returnType = (some .int)) : ∀ (n : Nat) (x5 : Int32) (u : SM), mM_judge_L52 x1 x2 x3 x4 n x5 u = some (r, w') → zG p l e (zRm 8) s m args below meth c 6 D (zAd ad 23) (MQ below (zQi r (zBw D (wM cA ad (M_put_pile w' u))) (zAd ad 23)) args s 0 0 (zAd ad 23)) (wM cA ad u) [(0, .ref (ad 0)), (1, .int x1), (2, .int x2), (3, .int x3), (4, .int x4), (5, .int x5)] 52 [] := by
  intro n
  induction n with
  | zero => intro x5 u hm; exact z_none hm
  | succ n ih =>
    intro x5 u hm
    rw [mM_judge_L52] at hm
    refine z_iload hC dX8_judge_52 5 rfl ?_
    refine z_iconst hC dX8_judge_54 kI_2 ?_
    refine z_aload_n hC dX8_judge_55 rfl 0 rfl ?_
    refine gM_X8_19_o (v := (M_letters u)) hC dX8_judge_56 rfl ?_
    refine z_imul hC dX8_judge_59 ?_
    refine z_icmp_ge (tgt := 134) hC hm dX8_judge_60 (by decide) (fun hm => ?_) (fun hm => ?_)
    · refine z_bipush hC dX8_judge_134 kB_m5 ?_
      exact riM (fin := fun z => M_put_pile z u) hC hr rfl dX8_judge_136 hm rfl
    · refine z_aload_n hC dX8_judge_63 rfl 0 rfl ?_
      refine gM_X8_137_o hC dX8_judge_64 ?_
      refine z_iload_n hC dX8_judge_67 rfl 1 rfl ?_
      refine aM_sort hC hm dX8_judge_68 (fun hm => ?_)
      refine z_if_lt (tgt := 91) hC hm dX8_judge_69 (by decide) (fun hm => ?_) (fun hm => ?_)
      · refine z_bipush hC dX8_judge_91 kB_100 ?_
        refine z_iload hC dX8_judge_93 5 rfl ?_
        refine z_iadd hC dX8_judge_95 ?_
        exact riM (fin := fun z => M_put_pile z u) hC hr rfl dX8_judge_96 hm rfl
      · refine z_iload_n hC dX8_judge_72 rfl 2 rfl ?_
        refine z_if_lt (tgt := 91) hC hm dX8_judge_73 (by decide) (fun hm => ?_) (fun hm => ?_)
        · refine z_bipush hC dX8_judge_91 kB_100 ?_
          refine z_iload hC dX8_judge_93 5 rfl ?_
          refine z_iadd hC dX8_judge_95 ?_
          exact riM (fin := fun z => M_put_pile z u) hC hr rfl dX8_judge_96 hm rfl
        · refine z_iload_n hC dX8_judge_76 rfl 2 rfl ?_
          refine z_aload_n hC dX8_judge_77 rfl 0 rfl ?_
          refine gM_X8_140_o hC dX8_judge_78 ?_
          refine z_iload_n hC dX8_judge_81 rfl 1 rfl ?_
          refine aM_length hC hm dX8_judge_82 (fun hm => ?_)
          refine z_iload hC dX8_judge_83 5 rfl ?_
          refine z_isub hC dX8_judge_85 ?_
          refine z_iconst hC dX8_judge_86 kI_1 ?_
          refine z_isub hC dX8_judge_87 ?_
          refine z_icmp_le (tgt := 97) hC hm dX8_judge_88 (by decide) (fun hm => ?_) (fun hm => ?_)
          · refine z_aload_n hC dX8_judge_97 rfl 0 rfl ?_
            refine gM_X8_143_o hC dX8_judge_98 ?_
            refine z_bipush hC dX8_judge_101 kB_60 ?_
            refine z_iload_n hC dX8_judge_103 rfl 1 rfl ?_
            refine z_imul hC dX8_judge_104 ?_
            refine z_iload_n hC dX8_judge_105 rfl 2 rfl ?_
            refine z_iadd hC dX8_judge_106 ?_
            refine z_iload hC dX8_judge_107 5 rfl ?_
            refine z_iadd hC dX8_judge_109 ?_
            refine aM_item hC hm dX8_judge_110 (fun hm => ?_)
            refine z_aload_n hC dX8_judge_111 rfl 0 rfl ?_
            refine z_iload_n hC dX8_judge_112 rfl 3 rfl ?_
            refine z_iload hC dX8_judge_113 4 rfl ?_
            refine z_iload hC dX8_judge_115 5 rfl ?_
            refine xM_X8_269 hI hC (Nat.le_of_ble_eq_true rfl) (fun _ h => h) hm dX8_judge_117 (Nat.le_of_ble_eq_true rfl) (fun q1 hm => ?_)
            refine zuM (u2 := (M_put_pile (q1.2) u)) rfl ?_
            refine z_i2l hC dX8_judge_120 ?_
            refine z_lcmp hC dX8_judge_121 ?_
            refine z_if_eq (tgt := 128) hC hm dX8_judge_122 (by decide) (fun hm => ?_) (fun hm => ?_)
            · refine z_iinc (lv' := [(5, .int (x5 + (1 : Int32))), (0, .ref (ad 0)), (1, .int x1), (2, .int x2), (3, .int x3), (4, .int x4)]) (k := 5) (v := (x5 + (1 : Int32))) hC dX8_judge_128 rfl rfl (by decide) rfl ?_
              refine z_goto (tgt := 52) hC dX8_judge_131 (by decide) ?_
              refine z_lv hC [1, 2, 3, 4, 5, 0] rfl ?_
              exact ih _ _ hm
            · refine z_iload hC dX8_judge_125 5 rfl ?_
              exact riM (fin := fun z => M_put_pile z u) hC hr rfl dX8_judge_127 hm rfl
          · refine z_bipush hC dX8_judge_91 kB_100 ?_
            refine z_iload hC dX8_judge_93 5 rfl ?_
            refine z_iadd hC dX8_judge_95 ?_
            exact riM (fin := fun z => M_put_pile z u) hC hr rfl dX8_judge_96 hm rfl
def mM_judge (x1 : Int32) (x2 : Int32) (x3 : Int32) (x4 : Int32) (u : SM) : Option (Int32 × (Nat → Int32)) :=
  if (mM_isTape x1) = 0 then (some ((-1 : Int32), ((M_pile u)))) else (if (mM_isVoice x3 u) = 0 then (some ((-1 : Int32), ((M_pile u)))) else (if (mM_isSeat x4 u) = 0 then (some ((-1 : Int32), ((M_pile u)))) else (zgi x1 6 (if ((M_sort u) (x1).toNatClampNeg) < 0 then (mM_judge_L52 x1 x2 x3 x4 256 (0 : Int32) u) else (zgi x1 6 (if ((M_sort u) (x1).toNatClampNeg) = (1 : Int32) then (mM_judge_L52 x1 x2 x3 x4 256 (0 : Int32) u) else (some ((-12 : Int32), ((M_pile u))))))))))
set_option maxRecDepth 100000 in
set_option maxHeartbeats 4000000 in
theorem cM_judge {l : Launch} {D : va_G} {cA : Nat → ClassId} {ad : Nat → Nat} {E : zEt} (hI : zInj ad 23) (x1 : Int32) (x2 : Int32) (x3 : Int32) (x4 : Int32) (u : SM) {r : Int32} {w' : (Nat → Int32)} (hm : mM_judge x1 x2 x3 x4 u = some (r, w')) : Met l yX8_judge (zWs yX8_judge cX8_judge 6 (some .int)) (zRm 8) (va_Pc [.ref (ad 0), .int x1, .int x2, .int x3, .int x4] (zPre D (zTy cA) E (zAd ad 23) (wM cA ad u))) (zQi r (zBw D (wM cA ad (M_put_pile w' u))) (zAd ad 23)) 0 0 (zAd ad 23) := by
  refine z_met (lv := [(0, .ref (ad 0)), (1, .int x1), (2, .int x2), (3, .int x3), (4, .int x4)]) plX8 rfl rfl (Nat.le_of_ble_eq_true rfl) rfl ?_
  intro p e s m below meth c hC hr hin
  unfold mM_judge at hm
  refine z_aload_n hC dX8_judge_0 rfl 0 rfl ?_
  refine z_iload_n hC dX8_judge_1 rfl 1 rfl ?_
  refine xM_X8_295 hI hC (Nat.le_of_ble_eq_true rfl) dX8_judge_2 (Nat.le_of_ble_eq_true rfl) ?_
  refine z_if_eq (tgt := 25) hC hm dX8_judge_5 (by decide) (fun hm => ?_) (fun hm => ?_)
  · refine z_iconst hC dX8_judge_25 kI_m1 ?_
    exact riM (fin := fun z => M_put_pile z u) hC hr rfl dX8_judge_26 hm rfl
  · refine z_aload_n hC dX8_judge_8 rfl 0 rfl ?_
    refine z_iload_n hC dX8_judge_9 rfl 3 rfl ?_
    refine xM_X8_272 hI hC (Nat.le_of_ble_eq_true rfl) dX8_judge_10 (Nat.le_of_ble_eq_true rfl) ?_
    refine z_if_eq (tgt := 25) hC hm dX8_judge_13 (by decide) (fun hm => ?_) (fun hm => ?_)
    · refine z_iconst hC dX8_judge_25 kI_m1 ?_
      exact riM (fin := fun z => M_put_pile z u) hC hr rfl dX8_judge_26 hm rfl
    · refine z_aload_n hC dX8_judge_16 rfl 0 rfl ?_
      refine z_iload hC dX8_judge_17 4 rfl ?_
      refine xM_X8_160 hI hC (Nat.le_of_ble_eq_true rfl) dX8_judge_19 (Nat.le_of_ble_eq_true rfl) ?_
      refine z_if_ne (tgt := 27) hC hm dX8_judge_22 (by decide) (fun hm => ?_) (fun hm => ?_)
      · refine z_iconst hC dX8_judge_25 kI_m1 ?_
        exact riM (fin := fun z => M_put_pile z u) hC hr rfl dX8_judge_26 hm rfl
      · refine z_aload_n hC dX8_judge_27 rfl 0 rfl ?_
        refine gM_X8_137_o hC dX8_judge_28 ?_
        refine z_iload_n hC dX8_judge_31 rfl 1 rfl ?_
        refine aM_sort hC hm dX8_judge_32 (fun hm => ?_)
        refine z_if_lt (tgt := 49) hC hm dX8_judge_33 (by decide) (fun hm => ?_) (fun hm => ?_)
        · refine z_iconst hC dX8_judge_49 kI_0 ?_
          refine z_istore (lv' := [(5, .int (0 : Int32)), (0, .ref (ad 0)), (1, .int x1), (2, .int x2), (3, .int x3), (4, .int x4)]) hC dX8_judge_50 (by decide) rfl ?_
          refine z_lv hC [1, 2, 3, 4, 5, 0] rfl ?_
          exact lM_judge_52 hI hC hr _ _ _ hm
        · refine z_aload_n hC dX8_judge_36 rfl 0 rfl ?_
          refine gM_X8_137_o hC dX8_judge_37 ?_
          refine z_iload_n hC dX8_judge_40 rfl 1 rfl ?_
          refine aM_sort hC hm dX8_judge_41 (fun hm => ?_)
          refine z_iconst hC dX8_judge_42 kI_1 ?_
          refine z_icmp_eq (tgt := 49) hC hm dX8_judge_43 (by decide) (fun hm => ?_) (fun hm => ?_)
          · refine z_iconst hC dX8_judge_49 kI_0 ?_
            refine z_istore (lv' := [(5, .int (0 : Int32)), (0, .ref (ad 0)), (1, .int x1), (2, .int x2), (3, .int x3), (4, .int x4)]) hC dX8_judge_50 (by decide) rfl ?_
            refine z_lv hC [1, 2, 3, 4, 5, 0] rfl ?_
            exact lM_judge_52 hI hC hr _ _ _ hm
          · refine z_bipush hC dX8_judge_46 kB_m12 ?_
            exact riM (fin := fun z => M_put_pile z u) hC hr rfl dX8_judge_48 hm rfl
