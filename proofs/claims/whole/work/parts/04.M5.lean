theorem pM_X8_106_o {p : Program} {l : Launch} {e : Env} {R : Room} {s : State} {m : MethodId} {args : Array Value} {below : List Frame} {meth : Method} {c : Code} {Q : State → Prop} {D : va_G} {A : Nat → Prop} {cc : ByteArray} {nL : Nat} {lv : List (Nat × Value)} {pc : Nat} {st : List Value} {cA : Nat → ClassId} {ad : Nat → Nat} {E : zEt} {u : SM} {v : Int32} (C : zC p s m args meth c cc nL RX8 zTS D (zTy cA) A E) (hI : zInj ad 23) (hA : ∀ q, zAd ad 23 q → A q) (hb : v = 0 ∨ v = 1) (hd : decode cc pc = .ok (.putfield 106, 3)) (g : zG p l e R s m args below meth c nL D A Q (wM cA ad (M_set_hasImage v u)) lv (pc + 3) st) : zG p l e R s m args below meth c nL D A Q (wM cA ad u) lv pc (.int v :: .ref (ad 0) :: st) := fun H locs ls hP hS hL => va_put (D := D) (ci := 8) (C := RX8) (T := TX8) (N := 45) C.1.1 C.1.2.1 C.1.2.2.2.2 inlX8 tyX8 tyX8_ok nmX8 C.1.2.2.2.1 C.2.1 hP (zD_mono (wM_D hI cA u) hA) hS 0 (heM_o cA ad u) rfl 31 (by decide) (C.1.2.2.2.2 _ mfX8_106) (fun _ h9 => h9) rfl (ty := .boolean) (by decide +kernel) (zb_nar hb) (zb_fit hb) (Nat.le_of_ble_eq_true rfl) hd (fun H1 locs1 hP1 _ hS1 => g H1 locs1 ls hP1 hS1 hL)
def M_putm_image (p : Int32 × Int32 × Int32 × Int32 × Int32 × Int32 × Int64 × (Nat → Int32)) (u : SM) : SM := ((u.1.1, ((u.1.2.1.1, (u.1.2.1.2.1, (u.1.2.1.2.2.1, p.1))), ((p.2.1, (p.2.2.1, p.2.2.2.1)), (p.2.2.2.2.1, (p.2.2.2.2.2.1, p.2.2.2.2.2.2.1))))), (u.2.1, (u.2.2.1, ((p.2.2.2.2.2.2.2, u.2.2.2.1.2), u.2.2.2.2))))
theorem pM_X8_110_o {p : Program} {l : Launch} {e : Env} {R : Room} {s : State} {m : MethodId} {args : Array Value} {below : List Frame} {meth : Method} {c : Code} {Q : State → Prop} {D : va_G} {A : Nat → Prop} {cc : ByteArray} {nL : Nat} {lv : List (Nat × Value)} {pc : Nat} {st : List Value} {cA : Nat → ClassId} {ad : Nat → Nat} {E : zEt} {u : SM} {v : Int32} (C : zC p s m args meth c cc nL RX8 zTS D (zTy cA) A E) (hI : zInj ad 23) (hA : ∀ q, zAd ad 23 q → A q) (hd : decode cc pc = .ok (.putfield 110, 3)) (g : zG p l e R s m args below meth c nL D A Q (wM cA ad (M_set_imageThe v u)) lv (pc + 3) st) : zG p l e R s m args below meth c nL D A Q (wM cA ad u) lv pc (.int v :: .ref (ad 0) :: st) := fun H locs ls hP hS hL => va_put (D := D) (ci := 8) (C := RX8) (T := TX8) (N := 45) C.1.1 C.1.2.1 C.1.2.2.2.2 inlX8 tyX8 tyX8_ok nmX8 C.1.2.2.2.1 C.2.1 hP (zD_mono (wM_D hI cA u) hA) hS 0 (heM_o cA ad u) rfl 32 (by decide) (C.1.2.2.2.2 _ mfX8_110) (fun _ h9 => h9) rfl (ty := .int) (by decide +kernel) rfl rfl (Nat.le_of_ble_eq_true rfl) hd (fun H1 locs1 hP1 _ hS1 => g H1 locs1 ls hP1 hS1 hL)
theorem pM_X8_113_o {p : Program} {l : Launch} {e : Env} {R : Room} {s : State} {m : MethodId} {args : Array Value} {below : List Frame} {meth : Method} {c : Code} {Q : State → Prop} {D : va_G} {A : Nat → Prop} {cc : ByteArray} {nL : Nat} {lv : List (Nat × Value)} {pc : Nat} {st : List Value} {cA : Nat → ClassId} {ad : Nat → Nat} {E : zEt} {u : SM} {v : Int32} (C : zC p s m args meth c cc nL RX8 zTS D (zTy cA) A E) (hI : zInj ad 23) (hA : ∀ q, zAd ad 23 q → A q) (hd : decode cc pc = .ok (.putfield 113, 3)) (g : zG p l e R s m args below meth c nL D A Q (wM cA ad (M_set_imageMouth v u)) lv (pc + 3) st) : zG p l e R s m args below meth c nL D A Q (wM cA ad u) lv pc (.int v :: .ref (ad 0) :: st) := fun H locs ls hP hS hL => va_put (D := D) (ci := 8) (C := RX8) (T := TX8) (N := 45) C.1.1 C.1.2.1 C.1.2.2.2.2 inlX8 tyX8 tyX8_ok nmX8 C.1.2.2.2.1 C.2.1 hP (zD_mono (wM_D hI cA u) hA) hS 0 (heM_o cA ad u) rfl 33 (by decide) (C.1.2.2.2.2 _ mfX8_113) (fun _ h9 => h9) rfl (ty := .int) (by decide +kernel) rfl rfl (Nat.le_of_ble_eq_true rfl) hd (fun H1 locs1 hP1 _ hS1 => g H1 locs1 ls hP1 hS1 hL)
theorem pM_X8_116_o {p : Program} {l : Launch} {e : Env} {R : Room} {s : State} {m : MethodId} {args : Array Value} {below : List Frame} {meth : Method} {c : Code} {Q : State → Prop} {D : va_G} {A : Nat → Prop} {cc : ByteArray} {nL : Nat} {lv : List (Nat × Value)} {pc : Nat} {st : List Value} {cA : Nat → ClassId} {ad : Nat → Nat} {E : zEt} {u : SM} {v : Int32} (C : zC p s m args meth c cc nL RX8 zTS D (zTy cA) A E) (hI : zInj ad 23) (hA : ∀ q, zAd ad 23 q → A q) (hd : decode cc pc = .ok (.putfield 116, 3)) (g : zG p l e R s m args below meth c nL D A Q (wM cA ad (M_set_imageJaw v u)) lv (pc + 3) st) : zG p l e R s m args below meth c nL D A Q (wM cA ad u) lv pc (.int v :: .ref (ad 0) :: st) := fun H locs ls hP hS hL => va_put (D := D) (ci := 8) (C := RX8) (T := TX8) (N := 45) C.1.1 C.1.2.1 C.1.2.2.2.2 inlX8 tyX8 tyX8_ok nmX8 C.1.2.2.2.1 C.2.1 hP (zD_mono (wM_D hI cA u) hA) hS 0 (heM_o cA ad u) rfl 34 (by decide) (C.1.2.2.2.2 _ mfX8_116) (fun _ h9 => h9) rfl (ty := .int) (by decide +kernel) rfl rfl (Nat.le_of_ble_eq_true rfl) hd (fun H1 locs1 hP1 _ hS1 => g H1 locs1 ls hP1 hS1 hL)
theorem pM_X8_125_o {p : Program} {l : Launch} {e : Env} {R : Room} {s : State} {m : MethodId} {args : Array Value} {below : List Frame} {meth : Method} {c : Code} {Q : State → Prop} {D : va_G} {A : Nat → Prop} {cc : ByteArray} {nL : Nat} {lv : List (Nat × Value)} {pc : Nat} {st : List Value} {cA : Nat → ClassId} {ad : Nat → Nat} {E : zEt} {u : SM} {v : Int64} (C : zC p s m args meth c cc nL RX8 zTS D (zTy cA) A E) (hI : zInj ad 23) (hA : ∀ q, zAd ad 23 q → A q) (hd : decode cc pc = .ok (.putfield 125, 3)) (g : zG p l e R s m args below meth c nL D A Q (wM cA ad (M_set_imageMoves v u)) lv (pc + 3) st) : zG p l e R s m args below meth c nL D A Q (wM cA ad u) lv pc (.long v :: .ref (ad 0) :: st) := fun H locs ls hP hS hL => va_put (D := D) (ci := 8) (C := RX8) (T := TX8) (N := 45) C.1.1 C.1.2.1 C.1.2.2.2.2 inlX8 tyX8 tyX8_ok nmX8 C.1.2.2.2.1 C.2.1 hP (zD_mono (wM_D hI cA u) hA) hS 0 (heM_o cA ad u) rfl 37 (by decide) (C.1.2.2.2.2 _ mfX8_125) (fun _ h9 => h9) rfl (ty := .long) (by decide +kernel) rfl rfl (Nat.le_of_ble_eq_true rfl) hd (fun H1 locs1 hP1 _ hS1 => g H1 locs1 ls hP1 hS1 hL)
theorem pM_X8_119_o {p : Program} {l : Launch} {e : Env} {R : Room} {s : State} {m : MethodId} {args : Array Value} {below : List Frame} {meth : Method} {c : Code} {Q : State → Prop} {D : va_G} {A : Nat → Prop} {cc : ByteArray} {nL : Nat} {lv : List (Nat × Value)} {pc : Nat} {st : List Value} {cA : Nat → ClassId} {ad : Nat → Nat} {E : zEt} {u : SM} {v : Int32} (C : zC p s m args meth c cc nL RX8 zTS D (zTy cA) A E) (hI : zInj ad 23) (hA : ∀ q, zAd ad 23 q → A q) (hd : decode cc pc = .ok (.putfield 119, 3)) (g : zG p l e R s m args below meth c nL D A Q (wM cA ad (M_set_imageLetters v u)) lv (pc + 3) st) : zG p l e R s m args below meth c nL D A Q (wM cA ad u) lv pc (.int v :: .ref (ad 0) :: st) := fun H locs ls hP hS hL => va_put (D := D) (ci := 8) (C := RX8) (T := TX8) (N := 45) C.1.1 C.1.2.1 C.1.2.2.2.2 inlX8 tyX8 tyX8_ok nmX8 C.1.2.2.2.1 C.2.1 hP (zD_mono (wM_D hI cA u) hA) hS 0 (heM_o cA ad u) rfl 35 (by decide) (C.1.2.2.2.2 _ mfX8_119) (fun _ h9 => h9) rfl (ty := .int) (by decide +kernel) rfl rfl (Nat.le_of_ble_eq_true rfl) hd (fun H1 locs1 hP1 _ hS1 => g H1 locs1 ls hP1 hS1 hL)
theorem pM_X8_122_o {p : Program} {l : Launch} {e : Env} {R : Room} {s : State} {m : MethodId} {args : Array Value} {below : List Frame} {meth : Method} {c : Code} {Q : State → Prop} {D : va_G} {A : Nat → Prop} {cc : ByteArray} {nL : Nat} {lv : List (Nat × Value)} {pc : Nat} {st : List Value} {cA : Nat → ClassId} {ad : Nat → Nat} {E : zEt} {u : SM} {v : Int32} (C : zC p s m args meth c cc nL RX8 zTS D (zTy cA) A E) (hI : zInj ad 23) (hA : ∀ q, zAd ad 23 q → A q) (hd : decode cc pc = .ok (.putfield 122, 3)) (g : zG p l e R s m args below meth c nL D A Q (wM cA ad (M_set_imageSlips v u)) lv (pc + 3) st) : zG p l e R s m args below meth c nL D A Q (wM cA ad u) lv pc (.int v :: .ref (ad 0) :: st) := fun H locs ls hP hS hL => va_put (D := D) (ci := 8) (C := RX8) (T := TX8) (N := 45) C.1.1 C.1.2.1 C.1.2.2.2.2 inlX8 tyX8 tyX8_ok nmX8 C.1.2.2.2.1 C.2.1 hP (zD_mono (wM_D hI cA u) hA) hS 0 (heM_o cA ad u) rfl 36 (by decide) (C.1.2.2.2.2 _ mfX8_122) (fun _ h9 => h9) rfl (ty := .int) (by decide +kernel) rfl rfl (Nat.le_of_ble_eq_true rfl) hd (fun H1 locs1 hP1 _ hS1 => g H1 locs1 ls hP1 hS1 hL)
theorem gM_X8_128_o {p : Program} {l : Launch} {e : Env} {R : Room} {s : State} {m : MethodId} {args : Array Value} {below : List Frame} {meth : Method} {c : Code} {Q : State → Prop} {D : va_G} {A : Nat → Prop} {cc : ByteArray} {nL : Nat} {lv : List (Nat × Value)} {pc : Nat} {st : List Value} {cA : Nat → ClassId} {ad : Nat → Nat} {E : zEt} {u : SM} (C : zC p s m args meth c cc nL RX8 zTS D (zTy cA) A E) (hd : decode cc pc = .ok (.getfield 128, 3)) (g : zG p l e R s m args below meth c nL D A Q (wM cA ad u) lv (pc + 3) (.ref (ad 17) :: st)) : zG p l e R s m args below meth c nL D A Q (wM cA ad u) lv pc (.ref (ad 0) :: st) := by
  exact fun H locs ls hP hS hL => va_get (D := D) (ci := 8) (C := RX8) (T := TX8) (N := 45) C.1.1 C.1.2.1 C.1.2.2.2.2 inlX8 C.1.2.2.2.1 C.2.1 hP 0 (heM_o cA ad u) rfl 38 (by decide) (C.1.2.2.2.2 _ mfX8_128) (fun _ h9 => h9) (v := .ref (ad 17)) rfl hd (g H locs ls hP hS hL)
theorem sM_imageLetter {p : Program} {l : Launch} {e : Env} {R : Room} {s : State} {m : MethodId} {args : Array Value} {below : List Frame} {meth : Method} {c : Code} {Q : State → Prop} {D : va_G} {A : Nat → Prop} {cc : ByteArray} {nL : Nat} {lv : List (Nat × Value)} {pc : Nat} {st : List Value} {cA : Nat → ClassId} {ad : Nat → Nat} {E : zEt} {own : String} {u : SM} {i : Int32} {x : Int32} {β : Type} {k : Option β} {r : β} (C : zC p s m args meth c cc nL own zTS D (zTy cA) A E) (hI : zInj ad 23) (hA : ∀ q, zAd ad 23 q → A q) (hm : zgi i 20 k = some r) (hd : decode cc pc = .ok (.iastore, 1)) (g : k = some r → zG p l e R s m args below meth c nL D A Q (wM cA ad (M_set_imageLetter (upd (M_imageLetter u) i.toNatClampNeg x) u)) lv (pc + 1) st) : zG p l e R s m args below meth c nL D A Q (wM cA ad u) lv pc (.int x :: .int i :: .ref (ad 17) :: st) := fun H locs ls hP hS hL => va_iast C.1.1 C.1.2.1 C.2.1 hP (zD_mono (wM_D hI cA u) hA) hS 17 0 (heM_imageLetter cA ad u) rfl (zgi_some hm).1 hd (fun H1 locs1 hP1 _ hS1 => g (zgi_some hm).2 H1 locs1 ls hP1 hS1 hL)
def mM_image_L55 : Nat → Int32 → SM → Option (Int32 × Int32 × Int32 × Int32 × Int32 × Int32 × Int32 × Int64 × (Nat → Int32))
  | 0, _, _ => none
  | n + 1, x1, u => if (20 : Int32) ≤ x1 then (some ((M_letters u), ((M_hasImage u), (M_imageThe u), (M_imageMouth u), (M_imageJaw u), (M_imageLetters u), (M_imageSlips u), (M_imageMoves u), (M_imageLetter u)))) else (zgi x1 20 (zgi x1 20 (mM_image_L55 n (x1 + (1 : Int32)) (M_putm_image ((M_hasImage u), (M_imageThe u), (M_imageMouth u), (M_imageJaw u), (M_imageLetters u), (M_imageSlips u), (M_imageMoves u), (upd (M_imageLetter u) (x1).toNatClampNeg ((M_letter u) (x1).toNatClampNeg))) u))))
set_option maxRecDepth 100000 in
set_option maxHeartbeats 4000000 in
theorem lM_image_55 {l : Launch} {D : va_G} {cA : Nat → ClassId} {ad : Nat → Nat} {p : Program} {e : Env} {s : State} {m : MethodId} {args : Array Value} {below : List Frame} {meth : Method} {c : Code} {E : zEt} {r : Int32} {w' : Int32 × Int32 × Int32 × Int32 × Int32 × Int32 × Int64 × (Nat → Int32)}  (hI : zInj ad 23) (hC : zC p s m args meth c cX8_image 2 RX8 zTS D (zTy cA) (zAd ad 23) E) (hr : meth.sig.returnType = (some .int)) : ∀ (n : Nat) (x1 : Int32) (u : SM), mM_image_L55 n x1 u = some (r, w') → zG p l e (zRm 0) s m args below meth c 2 D (zAd ad 23) (MQ below (zQi r (zBw D (wM cA ad (M_putm_image w' u))) (zAd ad 23)) args s 0 0 (zAd ad 23)) (wM cA ad u) [(0, .ref (ad 0)), (1, .int x1)] 55 [] := by
  intro n
  induction n with
  | zero => intro x1 u hm; exact z_none hm
  | succ n ih =>
    intro x1 u hm
    rw [mM_image_L55] at hm
    refine z_iload_n hC dX8_image_55 rfl 1 rfl ?_
    refine z_bipush hC dX8_image_56 kB_20 ?_
    refine z_icmp_ge (tgt := 79) hC hm dX8_image_58 (by decide) (fun hm => ?_) (fun hm => ?_)
    · refine z_aload_n hC dX8_image_79 rfl 0 rfl ?_
      refine gM_X8_19_o (v := (M_letters u)) hC dX8_image_80 rfl ?_
      exact riM (fin := fun z => M_putm_image z u) hC hr rfl dX8_image_83 hm rfl
    · refine z_aload_n hC dX8_image_61 rfl 0 rfl ?_
      refine gM_X8_128_o hC dX8_image_62 ?_
      refine z_iload_n hC dX8_image_65 rfl 1 rfl ?_
      refine z_aload_n hC dX8_image_66 rfl 0 rfl ?_
      refine gM_X8_36_o hC dX8_image_67 ?_
      refine z_iload_n hC dX8_image_70 rfl 1 rfl ?_
      refine aM_letter hC hm dX8_image_71 (fun hm => ?_)
      refine sM_imageLetter hC hI (fun _ h => h) hm dX8_image_72 (fun hm => ?_)
      refine zuM (u2 := (M_putm_image ((M_hasImage u), (M_imageThe u), (M_imageMouth u), (M_imageJaw u), (M_imageLetters u), (M_imageSlips u), (M_imageMoves u), (upd (M_imageLetter u) (x1).toNatClampNeg ((M_letter u) (x1).toNatClampNeg))) u)) rfl ?_
      refine z_iinc (lv' := [(1, .int (x1 + (1 : Int32))), (0, .ref (ad 0))]) (k := 1) (v := (x1 + (1 : Int32))) hC dX8_image_73 rfl rfl (by decide) rfl ?_
      refine z_goto (tgt := 55) hC dX8_image_76 (by decide) ?_
      refine z_lv hC [1, 0] rfl ?_
      exact ih _ _ hm
def mM_image (u : SM) : Option (Int32 × Int32 × Int32 × Int32 × Int32 × Int32 × Int32 × Int64 × (Nat → Int32)) :=
  mM_image_L55 256 (0 : Int32) (M_putm_image ((1 : Int32), (M_the u), (M_mouth u), (M_jaw u), (M_letters u), (M_slips u), (M_moves u), (M_imageLetter u)) u)
set_option maxRecDepth 100000 in
set_option maxHeartbeats 4000000 in
theorem cM_image {l : Launch} {D : va_G} {cA : Nat → ClassId} {ad : Nat → Nat} {E : zEt} (hI : zInj ad 23) (u : SM) {r : Int32} {w' : Int32 × Int32 × Int32 × Int32 × Int32 × Int32 × Int64 × (Nat → Int32)} (hm : mM_image u = some (r, w')) : Met l yX8_image (zWs yX8_image cX8_image 2 (some .int)) (zRm 0) (va_Pc [.ref (ad 0)] (zPre D (zTy cA) E (zAd ad 23) (wM cA ad u))) (zQi r (zBw D (wM cA ad (M_putm_image w' u))) (zAd ad 23)) 0 0 (zAd ad 23) := by
  refine z_met (lv := [(0, .ref (ad 0))]) plX8 rfl rfl (Nat.le_of_ble_eq_true rfl) rfl ?_
  intro p e s m below meth c hC hr hin
  unfold mM_image at hm
  refine z_aload_n hC dX8_image_0 rfl 0 rfl ?_
  refine z_iconst hC dX8_image_1 kI_1 ?_
  refine pM_X8_106_o hC hI (fun _ h => h) (Or.inr rfl) dX8_image_2 ?_
  refine zuM (u2 := (M_putm_image ((1 : Int32), (M_imageThe u), (M_imageMouth u), (M_imageJaw u), (M_imageLetters u), (M_imageSlips u), (M_imageMoves u), (M_imageLetter u)) u)) rfl ?_
  refine z_aload_n hC dX8_image_5 rfl 0 rfl ?_
  refine z_aload_n hC dX8_image_6 rfl 0 rfl ?_
  refine gM_X8_42_o (v := (M_the u)) hC dX8_image_7 rfl ?_
  refine pM_X8_110_o hC hI (fun _ h => h) dX8_image_10 ?_
  refine zuM (u2 := (M_putm_image ((1 : Int32), (M_the u), (M_imageMouth u), (M_imageJaw u), (M_imageLetters u), (M_imageSlips u), (M_imageMoves u), (M_imageLetter u)) u)) rfl ?_
  refine z_aload_n hC dX8_image_13 rfl 0 rfl ?_
  refine z_aload_n hC dX8_image_14 rfl 0 rfl ?_
  refine gM_X8_7_o (v := (M_mouth u)) hC dX8_image_15 rfl ?_
  refine pM_X8_113_o hC hI (fun _ h => h) dX8_image_18 ?_
  refine zuM (u2 := (M_putm_image ((1 : Int32), (M_the u), (M_mouth u), (M_imageJaw u), (M_imageLetters u), (M_imageSlips u), (M_imageMoves u), (M_imageLetter u)) u)) rfl ?_
  refine z_aload_n hC dX8_image_21 rfl 0 rfl ?_
  refine z_aload_n hC dX8_image_22 rfl 0 rfl ?_
  refine gM_X8_13_o (v := (M_jaw u)) hC dX8_image_23 rfl ?_
  refine pM_X8_116_o hC hI (fun _ h => h) dX8_image_26 ?_
  refine zuM (u2 := (M_putm_image ((1 : Int32), (M_the u), (M_mouth u), (M_jaw u), (M_imageLetters u), (M_imageSlips u), (M_imageMoves u), (M_imageLetter u)) u)) rfl ?_
  refine z_aload_n hC dX8_image_29 rfl 0 rfl ?_
  refine z_aload_n hC dX8_image_30 rfl 0 rfl ?_
  refine gM_X8_25_o (v := (M_moves u)) hC dX8_image_31 rfl ?_
  refine pM_X8_125_o hC hI (fun _ h => h) dX8_image_34 ?_
  refine zuM (u2 := (M_putm_image ((1 : Int32), (M_the u), (M_mouth u), (M_jaw u), (M_imageLetters u), (M_imageSlips u), (M_moves u), (M_imageLetter u)) u)) rfl ?_
  refine z_aload_n hC dX8_image_37 rfl 0 rfl ?_
  refine z_aload_n hC dX8_image_38 rfl 0 rfl ?_
  refine gM_X8_19_o (v := (M_letters u)) hC dX8_image_39 rfl ?_
  refine pM_X8_119_o hC hI (fun _ h => h) dX8_image_42 ?_
  refine zuM (u2 := (M_putm_image ((1 : Int32), (M_the u), (M_mouth u), (M_jaw u), (M_letters u), (M_imageSlips u), (M_moves u), (M_imageLetter u)) u)) rfl ?_
  refine z_aload_n hC dX8_image_45 rfl 0 rfl ?_
  refine z_aload_n hC dX8_image_46 rfl 0 rfl ?_
  refine gM_X8_22_o (v := (M_slips u)) hC dX8_image_47 rfl ?_
  refine pM_X8_122_o hC hI (fun _ h => h) dX8_image_50 ?_
  refine zuM (u2 := (M_putm_image ((1 : Int32), (M_the u), (M_mouth u), (M_jaw u), (M_letters u), (M_slips u), (M_moves u), (M_imageLetter u)) u)) rfl ?_
  refine z_iconst hC dX8_image_53 kI_0 ?_
  refine z_istore_n (lv' := [(1, .int (0 : Int32)), (0, .ref (ad 0))]) hC dX8_image_54 rfl (by decide) rfl ?_
  refine z_lv hC [1, 0] rfl ?_
  exact lM_image_55 hI hC hr _ _ _ hm
theorem gM_X8_106_o {p : Program} {l : Launch} {e : Env} {R : Room} {s : State} {m : MethodId} {args : Array Value} {below : List Frame} {meth : Method} {c : Code} {Q : State → Prop} {D : va_G} {A : Nat → Prop} {cc : ByteArray} {nL : Nat} {lv : List (Nat × Value)} {pc : Nat} {st : List Value} {cA : Nat → ClassId} {ad : Nat → Nat} {E : zEt} {u : SM} (C : zC p s m args meth c cc nL RX8 zTS D (zTy cA) A E) (hd : decode cc pc = .ok (.getfield 106, 3)) {v : Int32} (hv : M_hasImage u = v) (g : zG p l e R s m args below meth c nL D A Q (wM cA ad u) lv (pc + 3) (.int v :: st)) : zG p l e R s m args below meth c nL D A Q (wM cA ad u) lv pc (.ref (ad 0) :: st) := by
  subst hv; exact fun H locs ls hP hS hL => va_get (D := D) (ci := 8) (C := RX8) (T := TX8) (N := 45) C.1.1 C.1.2.1 C.1.2.2.2.2 inlX8 C.1.2.2.2.1 C.2.1 hP 0 (heM_o cA ad u) rfl 31 (by decide) (C.1.2.2.2.2 _ mfX8_106) (fun _ h9 => h9) (v := .int (M_hasImage u)) rfl hd (g H locs ls hP hS hL)
def M_put_mouth_jaw_letters_slips_moves_the_letter (p : Int32 × Int32 × Int32 × Int32 × Int64 × Int32 × (Nat → Int32)) (u : SM) : SM := (((((p.1, p.2.1), (u.1.1.1.2.1, (p.2.2.1, p.2.2.2.1))), ((p.2.2.2.2.1, (u.1.1.2.1.2.1, p.2.2.2.2.2.1)), u.1.1.2.2)), u.1.2), (((u.2.1.1.1, (u.2.1.1.2.1, (p.2.2.2.2.2.2, u.2.1.1.2.2.2))), u.2.1.2), u.2.2))
theorem gM_X8_110_o {p : Program} {l : Launch} {e : Env} {R : Room} {s : State} {m : MethodId} {args : Array Value} {below : List Frame} {meth : Method} {c : Code} {Q : State → Prop} {D : va_G} {A : Nat → Prop} {cc : ByteArray} {nL : Nat} {lv : List (Nat × Value)} {pc : Nat} {st : List Value} {cA : Nat → ClassId} {ad : Nat → Nat} {E : zEt} {u : SM} (C : zC p s m args meth c cc nL RX8 zTS D (zTy cA) A E) (hd : decode cc pc = .ok (.getfield 110, 3)) {v : Int32} (hv : M_imageThe u = v) (g : zG p l e R s m args below meth c nL D A Q (wM cA ad u) lv (pc + 3) (.int v :: st)) : zG p l e R s m args below meth c nL D A Q (wM cA ad u) lv pc (.ref (ad 0) :: st) := by
  subst hv; exact fun H locs ls hP hS hL => va_get (D := D) (ci := 8) (C := RX8) (T := TX8) (N := 45) C.1.1 C.1.2.1 C.1.2.2.2.2 inlX8 C.1.2.2.2.1 C.2.1 hP 0 (heM_o cA ad u) rfl 32 (by decide) (C.1.2.2.2.2 _ mfX8_110) (fun _ h9 => h9) (v := .int (M_imageThe u)) rfl hd (g H locs ls hP hS hL)
theorem gM_X8_113_o {p : Program} {l : Launch} {e : Env} {R : Room} {s : State} {m : MethodId} {args : Array Value} {below : List Frame} {meth : Method} {c : Code} {Q : State → Prop} {D : va_G} {A : Nat → Prop} {cc : ByteArray} {nL : Nat} {lv : List (Nat × Value)} {pc : Nat} {st : List Value} {cA : Nat → ClassId} {ad : Nat → Nat} {E : zEt} {u : SM} (C : zC p s m args meth c cc nL RX8 zTS D (zTy cA) A E) (hd : decode cc pc = .ok (.getfield 113, 3)) {v : Int32} (hv : M_imageMouth u = v) (g : zG p l e R s m args below meth c nL D A Q (wM cA ad u) lv (pc + 3) (.int v :: st)) : zG p l e R s m args below meth c nL D A Q (wM cA ad u) lv pc (.ref (ad 0) :: st) := by
  subst hv; exact fun H locs ls hP hS hL => va_get (D := D) (ci := 8) (C := RX8) (T := TX8) (N := 45) C.1.1 C.1.2.1 C.1.2.2.2.2 inlX8 C.1.2.2.2.1 C.2.1 hP 0 (heM_o cA ad u) rfl 33 (by decide) (C.1.2.2.2.2 _ mfX8_113) (fun _ h9 => h9) (v := .int (M_imageMouth u)) rfl hd (g H locs ls hP hS hL)
theorem gM_X8_116_o {p : Program} {l : Launch} {e : Env} {R : Room} {s : State} {m : MethodId} {args : Array Value} {below : List Frame} {meth : Method} {c : Code} {Q : State → Prop} {D : va_G} {A : Nat → Prop} {cc : ByteArray} {nL : Nat} {lv : List (Nat × Value)} {pc : Nat} {st : List Value} {cA : Nat → ClassId} {ad : Nat → Nat} {E : zEt} {u : SM} (C : zC p s m args meth c cc nL RX8 zTS D (zTy cA) A E) (hd : decode cc pc = .ok (.getfield 116, 3)) {v : Int32} (hv : M_imageJaw u = v) (g : zG p l e R s m args below meth c nL D A Q (wM cA ad u) lv (pc + 3) (.int v :: st)) : zG p l e R s m args below meth c nL D A Q (wM cA ad u) lv pc (.ref (ad 0) :: st) := by
  subst hv; exact fun H locs ls hP hS hL => va_get (D := D) (ci := 8) (C := RX8) (T := TX8) (N := 45) C.1.1 C.1.2.1 C.1.2.2.2.2 inlX8 C.1.2.2.2.1 C.2.1 hP 0 (heM_o cA ad u) rfl 34 (by decide) (C.1.2.2.2.2 _ mfX8_116) (fun _ h9 => h9) (v := .int (M_imageJaw u)) rfl hd (g H locs ls hP hS hL)
theorem gM_X8_125_o {p : Program} {l : Launch} {e : Env} {R : Room} {s : State} {m : MethodId} {args : Array Value} {below : List Frame} {meth : Method} {c : Code} {Q : State → Prop} {D : va_G} {A : Nat → Prop} {cc : ByteArray} {nL : Nat} {lv : List (Nat × Value)} {pc : Nat} {st : List Value} {cA : Nat → ClassId} {ad : Nat → Nat} {E : zEt} {u : SM} (C : zC p s m args meth c cc nL RX8 zTS D (zTy cA) A E) (hd : decode cc pc = .ok (.getfield 125, 3)) {v : Int64} (hv : M_imageMoves u = v) (g : zG p l e R s m args below meth c nL D A Q (wM cA ad u) lv (pc + 3) (.long v :: st)) : zG p l e R s m args below meth c nL D A Q (wM cA ad u) lv pc (.ref (ad 0) :: st) := by
  subst hv; exact fun H locs ls hP hS hL => va_get (D := D) (ci := 8) (C := RX8) (T := TX8) (N := 45) C.1.1 C.1.2.1 C.1.2.2.2.2 inlX8 C.1.2.2.2.1 C.2.1 hP 0 (heM_o cA ad u) rfl 37 (by decide) (C.1.2.2.2.2 _ mfX8_125) (fun _ h9 => h9) (v := .long (M_imageMoves u)) rfl hd (g H locs ls hP hS hL)
theorem gM_X8_119_o {p : Program} {l : Launch} {e : Env} {R : Room} {s : State} {m : MethodId} {args : Array Value} {below : List Frame} {meth : Method} {c : Code} {Q : State → Prop} {D : va_G} {A : Nat → Prop} {cc : ByteArray} {nL : Nat} {lv : List (Nat × Value)} {pc : Nat} {st : List Value} {cA : Nat → ClassId} {ad : Nat → Nat} {E : zEt} {u : SM} (C : zC p s m args meth c cc nL RX8 zTS D (zTy cA) A E) (hd : decode cc pc = .ok (.getfield 119, 3)) {v : Int32} (hv : M_imageLetters u = v) (g : zG p l e R s m args below meth c nL D A Q (wM cA ad u) lv (pc + 3) (.int v :: st)) : zG p l e R s m args below meth c nL D A Q (wM cA ad u) lv pc (.ref (ad 0) :: st) := by
  subst hv; exact fun H locs ls hP hS hL => va_get (D := D) (ci := 8) (C := RX8) (T := TX8) (N := 45) C.1.1 C.1.2.1 C.1.2.2.2.2 inlX8 C.1.2.2.2.1 C.2.1 hP 0 (heM_o cA ad u) rfl 35 (by decide) (C.1.2.2.2.2 _ mfX8_119) (fun _ h9 => h9) (v := .int (M_imageLetters u)) rfl hd (g H locs ls hP hS hL)
theorem gM_X8_122_o {p : Program} {l : Launch} {e : Env} {R : Room} {s : State} {m : MethodId} {args : Array Value} {below : List Frame} {meth : Method} {c : Code} {Q : State → Prop} {D : va_G} {A : Nat → Prop} {cc : ByteArray} {nL : Nat} {lv : List (Nat × Value)} {pc : Nat} {st : List Value} {cA : Nat → ClassId} {ad : Nat → Nat} {E : zEt} {u : SM} (C : zC p s m args meth c cc nL RX8 zTS D (zTy cA) A E) (hd : decode cc pc = .ok (.getfield 122, 3)) {v : Int32} (hv : M_imageSlips u = v) (g : zG p l e R s m args below meth c nL D A Q (wM cA ad u) lv (pc + 3) (.int v :: st)) : zG p l e R s m args below meth c nL D A Q (wM cA ad u) lv pc (.ref (ad 0) :: st) := by
  subst hv; exact fun H locs ls hP hS hL => va_get (D := D) (ci := 8) (C := RX8) (T := TX8) (N := 45) C.1.1 C.1.2.1 C.1.2.2.2.2 inlX8 C.1.2.2.2.1 C.2.1 hP 0 (heM_o cA ad u) rfl 36 (by decide) (C.1.2.2.2.2 _ mfX8_122) (fun _ h9 => h9) (v := .int (M_imageSlips u)) rfl hd (g H locs ls hP hS hL)
theorem aM_imageLetter {p : Program} {l : Launch} {e : Env} {R : Room} {s : State} {m : MethodId} {args : Array Value} {below : List Frame} {meth : Method} {c : Code} {Q : State → Prop} {D : va_G} {A : Nat → Prop} {cc : ByteArray} {nL : Nat} {lv : List (Nat × Value)} {pc : Nat} {st : List Value} {cA : Nat → ClassId} {ad : Nat → Nat} {E : zEt} {own : String} {u : SM} {i : Int32} {β : Type} {k : Option β} {r : β} (C : zC p s m args meth c cc nL own zTS D (zTy cA) A E) (hm : zgi i 20 k = some r) (hd : decode cc pc = .ok (.iaload, 1)) (g : k = some r → zG p l e R s m args below meth c nL D A Q (wM cA ad u) lv (pc + 1) (.int (M_imageLetter u i.toNatClampNeg) :: st)) : zG p l e R s m args below meth c nL D A Q (wM cA ad u) lv pc (.int i :: .ref (ad 17) :: st) := fun H locs ls hP hS hL => va_iald C.1.1 C.1.2.1 C.2.1 hP 17 0 (heM_imageLetter cA ad u) rfl (zgi_some hm).1 hd (g (zgi_some hm).2 H locs ls hP hS hL)
def mM_undo_L60 : Nat → Int32 → SM → Option (Int32 × Int32 × Int32 × Int32 × Int32 × Int64 × Int32 × (Nat → Int32))
  | 0, _, _ => none
  | n + 1, x1, u => if (20 : Int32) ≤ x1 then (some ((M_letters u), ((M_mouth u), (M_jaw u), (M_letters u), (M_slips u), (M_moves u), (M_the u), (M_letter u)))) else (zgi x1 20 (zgi x1 20 (mM_undo_L60 n (x1 + (1 : Int32)) (M_put_mouth_jaw_letters_slips_moves_the_letter ((M_mouth u), (M_jaw u), (M_letters u), (M_slips u), (M_moves u), (M_the u), (upd (M_letter u) (x1).toNatClampNeg ((M_imageLetter u) (x1).toNatClampNeg))) u))))
set_option maxRecDepth 100000 in
set_option maxHeartbeats 4000000 in
theorem lM_undo_60 {l : Launch} {D : va_G} {cA : Nat → ClassId} {ad : Nat → Nat} {p : Program} {e : Env} {s : State} {m : MethodId} {args : Array Value} {below : List Frame} {meth : Method} {c : Code} {E : zEt} {r : Int32} {w' : Int32 × Int32 × Int32 × Int32 × Int64 × Int32 × (Nat → Int32)}  (hI : zInj ad 23) (hC : zC p s m args meth c cX8_undo 2 RX8 zTS D (zTy cA) (zAd ad 23) E) (hr : meth.sig.returnType = (some .int)) : ∀ (n : Nat) (x1 : Int32) (u : SM), mM_undo_L60 n x1 u = some (r, w') → zG p l e (zRm 0) s m args below meth c 2 D (zAd ad 23) (MQ below (zQi r (zBw D (wM cA ad (M_put_mouth_jaw_letters_slips_moves_the_letter w' u))) (zAd ad 23)) args s 0 0 (zAd ad 23)) (wM cA ad u) [(0, .ref (ad 0)), (1, .int x1)] 60 [] := by
  intro n
  induction n with
  | zero => intro x1 u hm; exact z_none hm
  | succ n ih =>
    intro x1 u hm
    rw [mM_undo_L60] at hm
    refine z_iload_n hC dX8_undo_60 rfl 1 rfl ?_
    refine z_bipush hC dX8_undo_61 kB_20 ?_
    refine z_icmp_ge (tgt := 84) hC hm dX8_undo_63 (by decide) (fun hm => ?_) (fun hm => ?_)
    · refine z_aload_n hC dX8_undo_84 rfl 0 rfl ?_
      refine gM_X8_19_o (v := (M_letters u)) hC dX8_undo_85 rfl ?_
      exact riM (fin := fun z => M_put_mouth_jaw_letters_slips_moves_the_letter z u) hC hr rfl dX8_undo_88 hm rfl
    · refine z_aload_n hC dX8_undo_66 rfl 0 rfl ?_
      refine gM_X8_36_o hC dX8_undo_67 ?_
      refine z_iload_n hC dX8_undo_70 rfl 1 rfl ?_
      refine z_aload_n hC dX8_undo_71 rfl 0 rfl ?_
      refine gM_X8_128_o hC dX8_undo_72 ?_
      refine z_iload_n hC dX8_undo_75 rfl 1 rfl ?_
      refine aM_imageLetter hC hm dX8_undo_76 (fun hm => ?_)
      refine sM_letter hC hI (fun _ h => h) hm dX8_undo_77 (fun hm => ?_)
      refine zuM (u2 := (M_put_mouth_jaw_letters_slips_moves_the_letter ((M_mouth u), (M_jaw u), (M_letters u), (M_slips u), (M_moves u), (M_the u), (upd (M_letter u) (x1).toNatClampNeg ((M_imageLetter u) (x1).toNatClampNeg))) u)) rfl ?_
      refine z_iinc (lv' := [(1, .int (x1 + (1 : Int32))), (0, .ref (ad 0))]) (k := 1) (v := (x1 + (1 : Int32))) hC dX8_undo_78 rfl rfl (by decide) rfl ?_
      refine z_goto (tgt := 60) hC dX8_undo_81 (by decide) ?_
      refine z_lv hC [1, 0] rfl ?_
      exact ih _ _ hm
def mM_undo (u : SM) : Option (Int32 × Int32 × Int32 × Int32 × Int32 × Int64 × Int32 × (Nat → Int32)) :=
  if (M_hasImage u) = 0 then (some ((-3 : Int32), ((M_mouth u), (M_jaw u), (M_letters u), (M_slips u), (M_moves u), (M_the u), (M_letter u)))) else (mM_undo_L60 256 (0 : Int32) (M_put_mouth_jaw_letters_slips_moves_the_letter ((M_imageMouth u), (M_imageJaw u), (M_imageLetters u), (M_imageSlips u), (M_imageMoves u), (M_imageThe u), (M_letter u)) u))
set_option maxRecDepth 100000 in
set_option maxHeartbeats 4000000 in
theorem cM_undo {l : Launch} {D : va_G} {cA : Nat → ClassId} {ad : Nat → Nat} {E : zEt} (hI : zInj ad 23) (u : SM) {r : Int32} {w' : Int32 × Int32 × Int32 × Int32 × Int64 × Int32 × (Nat → Int32)} (hm : mM_undo u = some (r, w')) : Met l yX8_undo (zWs yX8_undo cX8_undo 2 (some .int)) (zRm 0) (va_Pc [.ref (ad 0)] (zPre D (zTy cA) E (zAd ad 23) (wM cA ad u))) (zQi r (zBw D (wM cA ad (M_put_mouth_jaw_letters_slips_moves_the_letter w' u))) (zAd ad 23)) 0 0 (zAd ad 23) := by
  refine z_met (lv := [(0, .ref (ad 0))]) plX8 rfl rfl (Nat.le_of_ble_eq_true rfl) rfl ?_
  intro p e s m below meth c hC hr hin
  unfold mM_undo at hm
  refine z_aload_n hC dX8_undo_0 rfl 0 rfl ?_
  refine gM_X8_106_o (v := (M_hasImage u)) hC dX8_undo_1 rfl ?_
  refine z_if_ne (tgt := 10) hC hm dX8_undo_4 (by decide) (fun hm => ?_) (fun hm => ?_)
  · refine z_bipush hC dX8_undo_7 kB_m3 ?_
    exact riM (fin := fun z => M_put_mouth_jaw_letters_slips_moves_the_letter z u) hC hr rfl dX8_undo_9 hm rfl
  · refine z_aload_n hC dX8_undo_10 rfl 0 rfl ?_
    refine z_aload_n hC dX8_undo_11 rfl 0 rfl ?_
    refine gM_X8_110_o (v := (M_imageThe u)) hC dX8_undo_12 rfl ?_
    refine pM_X8_42_o hC hI (fun _ h => h) dX8_undo_15 ?_
    refine zuM (u2 := (M_put_mouth_jaw_letters_slips_moves_the_letter ((M_mouth u), (M_jaw u), (M_letters u), (M_slips u), (M_moves u), (M_imageThe u), (M_letter u)) u)) rfl ?_
    refine z_aload_n hC dX8_undo_18 rfl 0 rfl ?_
    refine z_aload_n hC dX8_undo_19 rfl 0 rfl ?_
    refine gM_X8_113_o (v := (M_imageMouth u)) hC dX8_undo_20 rfl ?_
    refine pM_X8_7_o hC hI (fun _ h => h) dX8_undo_23 ?_
    refine zuM (u2 := (M_put_mouth_jaw_letters_slips_moves_the_letter ((M_imageMouth u), (M_jaw u), (M_letters u), (M_slips u), (M_moves u), (M_imageThe u), (M_letter u)) u)) rfl ?_
    refine z_aload_n hC dX8_undo_26 rfl 0 rfl ?_
    refine z_aload_n hC dX8_undo_27 rfl 0 rfl ?_
    refine gM_X8_116_o (v := (M_imageJaw u)) hC dX8_undo_28 rfl ?_
    refine pM_X8_13_o hC hI (fun _ h => h) dX8_undo_31 ?_
    refine zuM (u2 := (M_put_mouth_jaw_letters_slips_moves_the_letter ((M_imageMouth u), (M_imageJaw u), (M_letters u), (M_slips u), (M_moves u), (M_imageThe u), (M_letter u)) u)) rfl ?_
    refine z_aload_n hC dX8_undo_34 rfl 0 rfl ?_
    refine z_aload_n hC dX8_undo_35 rfl 0 rfl ?_
    refine gM_X8_125_o (v := (M_imageMoves u)) hC dX8_undo_36 rfl ?_
    refine pM_X8_25_o hC hI (fun _ h => h) dX8_undo_39 ?_
    refine zuM (u2 := (M_put_mouth_jaw_letters_slips_moves_the_letter ((M_imageMouth u), (M_imageJaw u), (M_letters u), (M_slips u), (M_imageMoves u), (M_imageThe u), (M_letter u)) u)) rfl ?_
    refine z_aload_n hC dX8_undo_42 rfl 0 rfl ?_
    refine z_aload_n hC dX8_undo_43 rfl 0 rfl ?_
    refine gM_X8_119_o (v := (M_imageLetters u)) hC dX8_undo_44 rfl ?_
    refine pM_X8_19_o hC hI (fun _ h => h) dX8_undo_47 ?_
    refine zuM (u2 := (M_put_mouth_jaw_letters_slips_moves_the_letter ((M_imageMouth u), (M_imageJaw u), (M_imageLetters u), (M_slips u), (M_imageMoves u), (M_imageThe u), (M_letter u)) u)) rfl ?_
    refine z_aload_n hC dX8_undo_50 rfl 0 rfl ?_
    refine z_aload_n hC dX8_undo_51 rfl 0 rfl ?_
    refine gM_X8_122_o (v := (M_imageSlips u)) hC dX8_undo_52 rfl ?_
    refine pM_X8_22_o hC hI (fun _ h => h) dX8_undo_55 ?_
    refine zuM (u2 := (M_put_mouth_jaw_letters_slips_moves_the_letter ((M_imageMouth u), (M_imageJaw u), (M_imageLetters u), (M_imageSlips u), (M_imageMoves u), (M_imageThe u), (M_letter u)) u)) rfl ?_
    refine z_iconst hC dX8_undo_58 kI_0 ?_
    refine z_istore_n (lv' := [(1, .int (0 : Int32)), (0, .ref (ad 0))]) hC dX8_undo_59 rfl (by decide) rfl ?_
    refine z_lv hC [1, 0] rfl ?_
    exact lM_undo_60 hI hC hr _ _ _ hm
theorem gM_X8_131_o {p : Program} {l : Launch} {e : Env} {R : Room} {s : State} {m : MethodId} {args : Array Value} {below : List Frame} {meth : Method} {c : Code} {Q : State → Prop} {D : va_G} {A : Nat → Prop} {cc : ByteArray} {nL : Nat} {lv : List (Nat × Value)} {pc : Nat} {st : List Value} {cA : Nat → ClassId} {ad : Nat → Nat} {E : zEt} {u : SM} (C : zC p s m args meth c cc nL RX8 zTS D (zTy cA) A E) (hd : decode cc pc = .ok (.getfield 131, 3)) {v : Int32} (hv : M_ran u = v) (g : zG p l e R s m args below meth c nL D A Q (wM cA ad u) lv (pc + 3) (.int v :: st)) : zG p l e R s m args below meth c nL D A Q (wM cA ad u) lv pc (.ref (ad 0) :: st) := by
  subst hv; exact fun H locs ls hP hS hL => va_get (D := D) (ci := 8) (C := RX8) (T := TX8) (N := 45) C.1.1 C.1.2.1 C.1.2.2.2.2 inlX8 C.1.2.2.2.1 C.2.1 hP 0 (heM_o cA ad u) rfl 39 (by decide) (C.1.2.2.2.2 _ mfX8_131) (fun _ h9 => h9) (v := .int (M_ran u)) rfl hd (g H locs ls hP hS hL)
theorem pM_X8_131_o {p : Program} {l : Launch} {e : Env} {R : Room} {s : State} {m : MethodId} {args : Array Value} {below : List Frame} {meth : Method} {c : Code} {Q : State → Prop} {D : va_G} {A : Nat → Prop} {cc : ByteArray} {nL : Nat} {lv : List (Nat × Value)} {pc : Nat} {st : List Value} {cA : Nat → ClassId} {ad : Nat → Nat} {E : zEt} {u : SM} {v : Int32} (C : zC p s m args meth c cc nL RX8 zTS D (zTy cA) A E) (hI : zInj ad 23) (hA : ∀ q, zAd ad 23 q → A q) (hd : decode cc pc = .ok (.putfield 131, 3)) (g : zG p l e R s m args below meth c nL D A Q (wM cA ad (M_set_ran v u)) lv (pc + 3) st) : zG p l e R s m args below meth c nL D A Q (wM cA ad u) lv pc (.int v :: .ref (ad 0) :: st) := fun H locs ls hP hS hL => va_put (D := D) (ci := 8) (C := RX8) (T := TX8) (N := 45) C.1.1 C.1.2.1 C.1.2.2.2.2 inlX8 tyX8 tyX8_ok nmX8 C.1.2.2.2.1 C.2.1 hP (zD_mono (wM_D hI cA u) hA) hS 0 (heM_o cA ad u) rfl 39 (by decide) (C.1.2.2.2.2 _ mfX8_131) (fun _ h9 => h9) rfl (ty := .int) (by decide +kernel) rfl rfl (Nat.le_of_ble_eq_true rfl) hd (fun H1 locs1 hP1 _ hS1 => g H1 locs1 ls hP1 hS1 hL)
def M_put_ran_bodies (p : Int32 × (Nat → Int32)) (u : SM) : SM := (u.1, ((((p.1, u.2.1.1.1.2), u.2.1.1.2), u.2.1.2), (u.2.2.1, ((u.2.2.2.1.1, (p.2, u.2.2.2.1.2.2)), u.2.2.2.2))))
theorem gM_X8_134_o {p : Program} {l : Launch} {e : Env} {R : Room} {s : State} {m : MethodId} {args : Array Value} {below : List Frame} {meth : Method} {c : Code} {Q : State → Prop} {D : va_G} {A : Nat → Prop} {cc : ByteArray} {nL : Nat} {lv : List (Nat × Value)} {pc : Nat} {st : List Value} {cA : Nat → ClassId} {ad : Nat → Nat} {E : zEt} {u : SM} (C : zC p s m args meth c cc nL RX8 zTS D (zTy cA) A E) (hd : decode cc pc = .ok (.getfield 134, 3)) (g : zG p l e R s m args below meth c nL D A Q (wM cA ad u) lv (pc + 3) (.ref (ad 18) :: st)) : zG p l e R s m args below meth c nL D A Q (wM cA ad u) lv pc (.ref (ad 0) :: st) := by
  exact fun H locs ls hP hS hL => va_get (D := D) (ci := 8) (C := RX8) (T := TX8) (N := 45) C.1.1 C.1.2.1 C.1.2.2.2.2 inlX8 C.1.2.2.2.1 C.2.1 hP 0 (heM_o cA ad u) rfl 40 (by decide) (C.1.2.2.2.2 _ mfX8_134) (fun _ h9 => h9) (v := .ref (ad 18)) rfl hd (g H locs ls hP hS hL)
theorem sM_bodies {p : Program} {l : Launch} {e : Env} {R : Room} {s : State} {m : MethodId} {args : Array Value} {below : List Frame} {meth : Method} {c : Code} {Q : State → Prop} {D : va_G} {A : Nat → Prop} {cc : ByteArray} {nL : Nat} {lv : List (Nat × Value)} {pc : Nat} {st : List Value} {cA : Nat → ClassId} {ad : Nat → Nat} {E : zEt} {own : String} {u : SM} {i : Int32} {x : Int32} {β : Type} {k : Option β} {r : β} (C : zC p s m args meth c cc nL own zTS D (zTy cA) A E) (hI : zInj ad 23) (hA : ∀ q, zAd ad 23 q → A q) (hm : zgi i 20 k = some r) (hd : decode cc pc = .ok (.iastore, 1)) (g : k = some r → zG p l e R s m args below meth c nL D A Q (wM cA ad (M_set_bodies (upd (M_bodies u) i.toNatClampNeg x) u)) lv (pc + 1) st) : zG p l e R s m args below meth c nL D A Q (wM cA ad u) lv pc (.int x :: .int i :: .ref (ad 18) :: st) := fun H locs ls hP hS hL => va_iast C.1.1 C.1.2.1 C.2.1 hP (zD_mono (wM_D hI cA u) hA) hS 18 0 (heM_bodies cA ad u) rfl (zgi_some hm).1 hd (fun H1 locs1 hP1 _ hS1 => g (zgi_some hm).2 H1 locs1 ls hP1 hS1 hL)
def mM_body (x1 : Int32) (u : SM) : Option (Int32 × (Nat → Int32)) :=
  if (20 : Int32) ≤ (M_ran u) then (some (((M_ran u) + (1 : Int32)), (M_bodies u))) else (zgi (M_ran u) 20 (some (((M_ran u) + (1 : Int32)), (upd (M_bodies u) ((M_ran u)).toNatClampNeg x1))))
set_option maxRecDepth 100000 in
set_option maxHeartbeats 4000000 in
theorem cM_body {l : Launch} {D : va_G} {cA : Nat → ClassId} {ad : Nat → Nat} {E : zEt} (hI : zInj ad 23) (x1 : Int32) (u : SM) {w' : Int32 × (Nat → Int32)} (hm : mM_body x1 u = some w') : Met l yX8_body (zWs yX8_body cX8_body 2 none) (zRm 0) (va_Pc [.ref (ad 0), .int x1] (zPre D (zTy cA) E (zAd ad 23) (wM cA ad u))) (zQv (zBw D (wM cA ad (M_put_ran_bodies w' u))) (zAd ad 23)) 0 0 (zAd ad 23) := by
  refine z_met (lv := [(0, .ref (ad 0)), (1, .int x1)]) plX8 rfl rfl (Nat.le_of_ble_eq_true rfl) rfl ?_
  intro p e s m below meth c hC hr hin
  unfold mM_body at hm
  refine z_aload_n hC dX8_body_0 rfl 0 rfl ?_
  refine gM_X8_131_o (v := (M_ran u)) hC dX8_body_1 rfl ?_
  refine z_bipush hC dX8_body_4 kB_20 ?_
  refine z_icmp_ge (tgt := 19) hC hm dX8_body_6 (by decide) (fun hm => ?_) (fun hm => ?_)
  · refine z_aload_n hC dX8_body_19 rfl 0 rfl ?_
    refine z_dup hC dX8_body_20 rfl ?_
    refine gM_X8_131_o (v := (M_ran u)) hC dX8_body_21 rfl ?_
    refine z_iconst hC dX8_body_24 kI_1 ?_
    refine z_iadd hC dX8_body_25 ?_
    refine pM_X8_131_o hC hI (fun _ h => h) dX8_body_26 ?_
    refine zuM (u2 := (M_put_ran_bodies (((M_ran u) + (1 : Int32)), (M_bodies u)) u)) rfl ?_
    exact rvM (fin := fun z => M_put_ran_bodies z u) hC hr dX8_body_29 hm rfl
  · refine z_aload_n hC dX8_body_9 rfl 0 rfl ?_
    refine gM_X8_134_o hC dX8_body_10 ?_
    refine z_aload_n hC dX8_body_13 rfl 0 rfl ?_
    refine gM_X8_131_o (v := (M_ran u)) hC dX8_body_14 rfl ?_
    refine z_iload_n hC dX8_body_17 rfl 1 rfl ?_
    refine sM_bodies hC hI (fun _ h => h) hm dX8_body_18 (fun hm => ?_)
    refine zuM (u2 := (M_put_ran_bodies ((M_ran u), (upd (M_bodies u) ((M_ran u)).toNatClampNeg x1)) u)) rfl ?_
    refine z_aload_n hC dX8_body_19 rfl 0 rfl ?_
    refine z_dup hC dX8_body_20 rfl ?_
    refine gM_X8_131_o (v := (M_ran u)) hC dX8_body_21 rfl ?_
    refine z_iconst hC dX8_body_24 kI_1 ?_
    refine z_iadd hC dX8_body_25 ?_
    refine pM_X8_131_o hC hI (fun _ h => h) dX8_body_26 ?_
    refine zuM (u2 := (M_put_ran_bodies (((M_ran u) + (1 : Int32)), (upd (M_bodies u) ((M_ran u)).toNatClampNeg x1)) u)) rfl ?_
    exact rvM (fin := fun z => M_put_ran_bodies z u) hC hr dX8_body_29 hm rfl
theorem xM_X8_298 {p : Program} {l : Launch} {e : Env} {s : State} {m : MethodId} {args : Array Value} {below : List Frame} {meth : Method} {c : Code} {Q : State → Prop} {D : va_G} {A : Nat → Prop} {cc : ByteArray} {nL : Nat} {lv : List (Nat × Value)} {pc : Nat} {st : List Value} {cA : Nat → ClassId} {ad : Nat → Nat} {E : zEt} {d : Nat} {x1 : Int32} {u : SM} (hI : zInj ad 23) (C : zC p s m args meth c cc nL RX8 zTS D (zTy cA) A E) (hdm : 0 + 1 ≤ d) (hA : ∀ q, zAd ad 23 q → A q) {β : Type} {f : (Int32 × (Nat → Int32)) → Option β} {o : β} (hm : (mM_body x1 u).bind f = some o) (hd : decode cc pc = .ok (.invokevirtual 298, 3)) (h8 : (st.map fun v => v.category).sum ≤ 8) (g : ∀ q, f q = some o → zG p l e (zRm d) s m args below meth c nL D A Q (wM cA ad (M_put_ran_bodies q u)) lv (pc + 3) (st)) : zG p l e (zRm d) s m args below meth c nL D A Q (wM cA ad u) lv pc (.int x1 :: .ref (ad 0) :: st) := by
  obtain ⟨q, h1, h2⟩ := zb_some hm
  exact z_callvV C (cM_body hI x1 u h1) (cwX8_298 C.1.2.2.2.2 rfl rfl ⟨hdm, by have := hdm; simp only [zRm]; omega⟩) hd rfl rfl h8 ⟨_, rfl, rfl⟩ (List.mem_of_getElem? (heM_o cA ad u)) (fun _ h => h) hA zJ_same (g q h2)
def mM_plainHears (x1 : Int32) (x2 : Int32) (u : SM) : Option (Int32 × Int32 × (Nat → Int32)) :=
  (mM_body (10 : Int32) u).bind fun q1 => (some ((x2 + x1), (q1.1, q1.2)))
set_option maxRecDepth 100000 in
set_option maxHeartbeats 4000000 in
theorem cM_plainHears {l : Launch} {D : va_G} {cA : Nat → ClassId} {ad : Nat → Nat} {E : zEt} (hI : zInj ad 23) (x1 : Int32) (x2 : Int32) (u : SM) {r : Int32} {w' : Int32 × (Nat → Int32)} (hm : mM_plainHears x1 x2 u = some (r, w')) : Met l yX8_plainHears (zWs yX8_plainHears cX8_plainHears 3 (some .int)) (zRm 1) (va_Pc [.ref (ad 0), .int x1, .int x2] (zPre D (zTy cA) E (zAd ad 23) (wM cA ad u))) (zQi r (zBw D (wM cA ad (M_put_ran_bodies w' u))) (zAd ad 23)) 0 0 (zAd ad 23) := by
  refine z_met (lv := [(0, .ref (ad 0)), (1, .int x1), (2, .int x2)]) plX8 rfl rfl (Nat.le_of_ble_eq_true rfl) rfl ?_
  intro p e s m below meth c hC hr hin
  unfold mM_plainHears at hm
  refine z_aload_n hC dX8_plainHears_0 rfl 0 rfl ?_
  refine z_bipush hC dX8_plainHears_1 kB_10 ?_
  refine xM_X8_298 hI hC (Nat.le_of_ble_eq_true rfl) (fun _ h => h) hm dX8_plainHears_3 (Nat.le_of_ble_eq_true rfl) (fun q1 hm => ?_)
  refine zuM (u2 := (M_put_ran_bodies (q1.1, q1.2) u)) rfl ?_
  refine z_iload_n hC dX8_plainHears_6 rfl 2 rfl ?_
  refine z_iload_n hC dX8_plainHears_7 rfl 1 rfl ?_
  refine z_iadd hC dX8_plainHears_8 ?_
  exact riM (fin := fun z => M_put_ran_bodies z u) hC hr rfl dX8_plainHears_9 hm rfl
theorem xM_X8_301 {p : Program} {l : Launch} {e : Env} {s : State} {m : MethodId} {args : Array Value} {below : List Frame} {meth : Method} {c : Code} {Q : State → Prop} {D : va_G} {A : Nat → Prop} {cc : ByteArray} {nL : Nat} {lv : List (Nat × Value)} {pc : Nat} {st : List Value} {cA : Nat → ClassId} {ad : Nat → Nat} {E : zEt} {d : Nat} {x1 : Int32} {x2 : Int32} {u : SM} (hI : zInj ad 23) (C : zC p s m args meth c cc nL RX8 zTS D (zTy cA) A E) (hdm : 1 + 1 ≤ d) (hA : ∀ q, zAd ad 23 q → A q) {β : Type} {f : (Int32 × Int32 × (Nat → Int32)) → Option β} {o : β} (hm : (mM_plainHears x1 x2 u).bind f = some o) (hd : decode cc pc = .ok (.invokevirtual 301, 3)) (h8 : (st.map fun v => v.category).sum ≤ 8) (g : ∀ q, f q = some o → zG p l e (zRm d) s m args below meth c nL D A Q (wM cA ad (M_put_ran_bodies q.2 u)) lv (pc + 3) (.int q.1 :: st)) : zG p l e (zRm d) s m args below meth c nL D A Q (wM cA ad u) lv pc (.int x2 :: .int x1 :: .ref (ad 0) :: st) := by
  obtain ⟨q, h1, h2⟩ := zb_some hm
  exact z_calliV C (cM_plainHears hI x1 x2 u h1) (cwX8_301 C.1.2.2.2.2 rfl rfl ⟨hdm, by have := hdm; simp only [zRm]; omega⟩) hd rfl rfl h8 ⟨_, rfl, rfl⟩ (List.mem_of_getElem? (heM_o cA ad u)) (fun _ h => h) hA zJ_same (g q h2)
def mM_hearsAct_J40 (x1 : Int32) (x2 : Int32) (u : SM) : Option (Int32 × Int32 × (Nat → Int32)) :=
  (mM_body (30 : Int32) u).bind fun q1 => ((mM_plainHears x1 (x2 * (3 : Int32)) (M_put_ran_bodies (q1.1, q1.2) u)).bind fun q2 => (some (q2.1, (q2.2.1, q2.2.2))))
set_option maxRecDepth 100000 in
set_option maxHeartbeats 4000000 in
theorem jM_hearsAct_40 {l : Launch} {D : va_G} {cA : Nat → ClassId} {ad : Nat → Nat} {p : Program} {e : Env} {s : State} {m : MethodId} {args : Array Value} {below : List Frame} {meth : Method} {c : Code} {E : zEt} {r : Int32} {w' : Int32 × (Nat → Int32)}  {x1 : Int32} {x2 : Int32} {u : SM} (hI : zInj ad 23) (hC : zC p s m args meth c cX8_hearsAct 3 RX8 zTS D (zTy cA) (zAd ad 23) E) (hr : meth.sig.returnType = (some .int)) (hm : mM_hearsAct_J40 x1 x2 u = some (r, w')) : zG p l e (zRm 2) s m args below meth c 3 D (zAd ad 23) (MQ below (zQi r (zBw D (wM cA ad (M_put_ran_bodies w' u))) (zAd ad 23)) args s 0 0 (zAd ad 23)) (wM cA ad u) [(0, .ref (ad 0)), (1, .int x1), (2, .int x2)] 40 [] := by
  unfold mM_hearsAct_J40 at hm
  refine z_aload_n hC dX8_hearsAct_40 rfl 0 rfl ?_
  refine z_bipush hC dX8_hearsAct_41 kB_30 ?_
  refine xM_X8_298 hI hC (Nat.le_of_ble_eq_true rfl) (fun _ h => h) hm dX8_hearsAct_43 (Nat.le_of_ble_eq_true rfl) (fun q1 hm => ?_)
  refine zuM (u2 := (M_put_ran_bodies (q1.1, q1.2) u)) rfl ?_
  refine z_aload_n hC dX8_hearsAct_46 rfl 0 rfl ?_
  refine z_iload_n hC dX8_hearsAct_47 rfl 1 rfl ?_
  refine z_iload_n hC dX8_hearsAct_48 rfl 2 rfl ?_
  refine z_iconst hC dX8_hearsAct_49 kI_3 ?_
  refine z_imul hC dX8_hearsAct_50 ?_
  refine xM_X8_301 hI hC (Nat.le_of_ble_eq_true rfl) (fun _ h => h) hm dX8_hearsAct_51 (Nat.le_of_ble_eq_true rfl) (fun q2 hm => ?_)
  refine zuM (u2 := (M_put_ran_bodies (q2.2.1, q2.2.2) u)) rfl ?_
  exact riM (fin := fun z => M_put_ran_bodies z u) hC hr rfl dX8_hearsAct_54 hm rfl
def mM_hearsAct (x1 : Int32) (x2 : Int32) (u : SM) : Option (Int32 × Int32 × (Nat → Int32)) :=
  zgi x1 10 (if ((M_kind u) (x1).toNatClampNeg) = (2 : Int32) then (mM_hearsAct_J40 x1 x2 u) else (if ((M_kind u) (x1).toNatClampNeg) = (3 : Int32) then ((mM_plainHears x1 x2 u).bind fun q3 => (some (q3.1, (q3.2.1, q3.2.2)))) else (if ((M_kind u) (x1).toNatClampNeg) = (4 : Int32) then ((mM_body (50 : Int32) u).bind fun q4 => ((mM_plainHears x1 x2 (M_put_ran_bodies (q4.1, q4.2) u)).bind fun q5 => (some ((-q5.1), (q5.2.1, q5.2.2))))) else (if ((M_kind u) (x1).toNatClampNeg) = (5 : Int32) then (mM_hearsAct_J40 x1 x2 u) else (if ((M_kind u) (x1).toNatClampNeg) = (6 : Int32) then ((mM_body (71 : Int32) u).bind fun q6 => ((mM_plainHears x1 x2 (M_put_ran_bodies (q6.1, q6.2) u)).bind fun q7 => (zgi x1 10 (some ((q7.1 ^^^ ((M_v u) (x1).toNatClampNeg)), (q7.2.1, q7.2.2)))))) else ((mM_plainHears x1 x2 u).bind fun q8 => (some (q8.1, (q8.2.1, q8.2.2)))))))))
set_option maxRecDepth 100000 in
set_option maxHeartbeats 4000000 in
theorem cM_hearsAct {l : Launch} {D : va_G} {cA : Nat → ClassId} {ad : Nat → Nat} {E : zEt} (hI : zInj ad 23) (x1 : Int32) (x2 : Int32) (u : SM) {r : Int32} {w' : Int32 × (Nat → Int32)} (hm : mM_hearsAct x1 x2 u = some (r, w')) : Met l yX8_hearsAct (zWs yX8_hearsAct cX8_hearsAct 3 (some .int)) (zRm 2) (va_Pc [.ref (ad 0), .int x1, .int x2] (zPre D (zTy cA) E (zAd ad 23) (wM cA ad u))) (zQi r (zBw D (wM cA ad (M_put_ran_bodies w' u))) (zAd ad 23)) 0 0 (zAd ad 23) := by
  refine z_met (lv := [(0, .ref (ad 0)), (1, .int x1), (2, .int x2)]) plX8 rfl rfl (Nat.le_of_ble_eq_true rfl) rfl ?_
  intro p e s m below meth c hC hr hin
  unfold mM_hearsAct at hm
  refine z_aload_n hC dX8_hearsAct_0 rfl 0 rfl ?_
  refine gM_X8_96_o hC dX8_hearsAct_1 ?_
  refine z_iload_n hC dX8_hearsAct_4 rfl 1 rfl ?_
  refine aM_kind hC hm dX8_hearsAct_5 (fun hm => ?_)
  refine z_ite hm (fun h6_0 hm => ?_) (fun h6_0 hm => ?_)
  · refine z_tin hC dX8_hearsAct_6 h6_0 kc_2 (by decide) (by decide) (off := 34) rfl (tgt := 40) (by decide) ?_
    refine z_lv hC [0, 1, 2] rfl ?_
    exact jM_hearsAct_40 hI hC hr hm
  · refine z_ite hm (fun h6_1 hm => ?_) (fun h6_1 hm => ?_)
    · refine z_tin hC dX8_hearsAct_6 h6_1 kc_3 (by decide) (by decide) (off := 83) rfl (tgt := 89) (by decide) ?_
      refine z_aload_n hC dX8_hearsAct_89 rfl 0 rfl ?_
      refine z_iload_n hC dX8_hearsAct_90 rfl 1 rfl ?_
      refine z_iload_n hC dX8_hearsAct_91 rfl 2 rfl ?_
      refine xM_X8_301 hI hC (Nat.le_of_ble_eq_true rfl) (fun _ h => h) hm dX8_hearsAct_92 (Nat.le_of_ble_eq_true rfl) (fun q3 hm => ?_)
      refine zuM (u2 := (M_put_ran_bodies (q3.2.1, q3.2.2) u)) rfl ?_
      exact riM (fin := fun z => M_put_ran_bodies z u) hC hr rfl dX8_hearsAct_95 hm rfl
    · refine z_ite hm (fun h6_2 hm => ?_) (fun h6_2 hm => ?_)
      · refine z_tin hC dX8_hearsAct_6 h6_2 kc_4 (by decide) (by decide) (off := 49) rfl (tgt := 55) (by decide) ?_
        refine z_aload_n hC dX8_hearsAct_55 rfl 0 rfl ?_
        refine z_bipush hC dX8_hearsAct_56 kB_50 ?_
        refine xM_X8_298 hI hC (Nat.le_of_ble_eq_true rfl) (fun _ h => h) hm dX8_hearsAct_58 (Nat.le_of_ble_eq_true rfl) (fun q4 hm => ?_)
        refine zuM (u2 := (M_put_ran_bodies (q4.1, q4.2) u)) rfl ?_
        refine z_aload_n hC dX8_hearsAct_61 rfl 0 rfl ?_
        refine z_iload_n hC dX8_hearsAct_62 rfl 1 rfl ?_
        refine z_iload_n hC dX8_hearsAct_63 rfl 2 rfl ?_
        refine xM_X8_301 hI hC (Nat.le_of_ble_eq_true rfl) (fun _ h => h) hm dX8_hearsAct_64 (Nat.le_of_ble_eq_true rfl) (fun q5 hm => ?_)
        refine zuM (u2 := (M_put_ran_bodies (q5.2.1, q5.2.2) u)) rfl ?_
        refine z_ineg hC dX8_hearsAct_67 ?_
        exact riM (fin := fun z => M_put_ran_bodies z u) hC hr rfl dX8_hearsAct_68 hm rfl
      · refine z_ite hm (fun h6_3 hm => ?_) (fun h6_3 hm => ?_)
        · refine z_tin hC dX8_hearsAct_6 h6_3 kc_5 (by decide) (by decide) (off := 34) rfl (tgt := 40) (by decide) ?_
          refine z_lv hC [0, 1, 2] rfl ?_
          exact jM_hearsAct_40 hI hC hr hm
        · refine z_ite hm (fun h6_4 hm => ?_) (fun h6_4 hm => ?_)
          · refine z_tin hC dX8_hearsAct_6 h6_4 kc_6 (by decide) (by decide) (off := 63) rfl (tgt := 69) (by decide) ?_
            refine z_aload_n hC dX8_hearsAct_69 rfl 0 rfl ?_
            refine z_bipush hC dX8_hearsAct_70 kB_71 ?_
            refine xM_X8_298 hI hC (Nat.le_of_ble_eq_true rfl) (fun _ h => h) hm dX8_hearsAct_72 (Nat.le_of_ble_eq_true rfl) (fun q6 hm => ?_)
            refine zuM (u2 := (M_put_ran_bodies (q6.1, q6.2) u)) rfl ?_
            refine z_aload_n hC dX8_hearsAct_75 rfl 0 rfl ?_
            refine z_iload_n hC dX8_hearsAct_76 rfl 1 rfl ?_
            refine z_iload_n hC dX8_hearsAct_77 rfl 2 rfl ?_
            refine xM_X8_301 hI hC (Nat.le_of_ble_eq_true rfl) (fun _ h => h) hm dX8_hearsAct_78 (Nat.le_of_ble_eq_true rfl) (fun q7 hm => ?_)
            refine zuM (u2 := (M_put_ran_bodies (q7.2.1, q7.2.2) u)) rfl ?_
            refine z_aload_n hC dX8_hearsAct_81 rfl 0 rfl ?_
            refine gM_X8_99_o hC dX8_hearsAct_82 ?_
            refine z_iload_n hC dX8_hearsAct_85 rfl 1 rfl ?_
            refine aM_v hC hm dX8_hearsAct_86 (fun hm => ?_)
            refine z_ixor hC dX8_hearsAct_87 ?_
            exact riM (fin := fun z => M_put_ran_bodies z u) hC hr rfl dX8_hearsAct_88 hm rfl
          · refine z_tout (n := 5) hC dX8_hearsAct_6 (z_allc (z_tneq kc_2 h6_0) (z_allc (z_tneq kc_3 h6_1) (z_allc (z_tneq kc_4 h6_2) (z_allc (z_tneq kc_5 h6_3) (z_allc (z_tneq kc_6 h6_4) z_all0))))) (by decide) (tgt := 89) (by decide) ?_
            refine z_aload_n hC dX8_hearsAct_89 rfl 0 rfl ?_
            refine z_iload_n hC dX8_hearsAct_90 rfl 1 rfl ?_
            refine z_iload_n hC dX8_hearsAct_91 rfl 2 rfl ?_
            refine xM_X8_301 hI hC (Nat.le_of_ble_eq_true rfl) (fun _ h => h) hm dX8_hearsAct_92 (Nat.le_of_ble_eq_true rfl) (fun q8 hm => ?_)
            refine zuM (u2 := (M_put_ran_bodies (q8.2.1, q8.2.2) u)) rfl ?_
            exact riM (fin := fun z => M_put_ran_bodies z u) hC hr rfl dX8_hearsAct_95 hm rfl
theorem xM_X8_304 {p : Program} {l : Launch} {e : Env} {s : State} {m : MethodId} {args : Array Value} {below : List Frame} {meth : Method} {c : Code} {Q : State → Prop} {D : va_G} {A : Nat → Prop} {cc : ByteArray} {nL : Nat} {lv : List (Nat × Value)} {pc : Nat} {st : List Value} {cA : Nat → ClassId} {ad : Nat → Nat} {E : zEt} {d : Nat} {x1 : Int32} {x2 : Int32} {u : SM} (hI : zInj ad 23) (C : zC p s m args meth c cc nL RX8 zTS D (zTy cA) A E) (hdm : 2 + 1 ≤ d) (hA : ∀ q, zAd ad 23 q → A q) {β : Type} {f : (Int32 × Int32 × (Nat → Int32)) → Option β} {o : β} (hm : (mM_hearsAct x1 x2 u).bind f = some o) (hd : decode cc pc = .ok (.invokevirtual 304, 3)) (h8 : (st.map fun v => v.category).sum ≤ 8) (g : ∀ q, f q = some o → zG p l e (zRm d) s m args below meth c nL D A Q (wM cA ad (M_put_ran_bodies q.2 u)) lv (pc + 3) (.int q.1 :: st)) : zG p l e (zRm d) s m args below meth c nL D A Q (wM cA ad u) lv pc (.int x2 :: .int x1 :: .ref (ad 0) :: st) := by
  obtain ⟨q, h1, h2⟩ := zb_some hm
  exact z_calliV C (cM_hearsAct hI x1 x2 u h1) (cwX8_304 C.1.2.2.2.2 rfl rfl ⟨hdm, by have := hdm; simp only [zRm]; omega⟩) hd rfl rfl h8 ⟨_, rfl, rfl⟩ (List.mem_of_getElem? (heM_o cA ad u)) (fun _ h => h) hA zJ_same (g q h2)
def mM_plainSees (x1 : Int32) (x2 : Int32) (u : SM) : Option (Int32 × Int32 × (Nat → Int32)) :=
  (mM_body (11 : Int32) u).bind fun q1 => ((mM_hearsAct x1 x2 (M_put_ran_bodies (q1.1, q1.2) u)).bind fun q2 => (zgi x1 10 (some ((q2.1 - ((M_v u) (x1).toNatClampNeg)), (q2.2.1, q2.2.2)))))
set_option maxRecDepth 100000 in
set_option maxHeartbeats 4000000 in
theorem cM_plainSees {l : Launch} {D : va_G} {cA : Nat → ClassId} {ad : Nat → Nat} {E : zEt} (hI : zInj ad 23) (x1 : Int32) (x2 : Int32) (u : SM) {r : Int32} {w' : Int32 × (Nat → Int32)} (hm : mM_plainSees x1 x2 u = some (r, w')) : Met l yX8_plainSees (zWs yX8_plainSees cX8_plainSees 3 (some .int)) (zRm 3) (va_Pc [.ref (ad 0), .int x1, .int x2] (zPre D (zTy cA) E (zAd ad 23) (wM cA ad u))) (zQi r (zBw D (wM cA ad (M_put_ran_bodies w' u))) (zAd ad 23)) 0 0 (zAd ad 23) := by
  refine z_met (lv := [(0, .ref (ad 0)), (1, .int x1), (2, .int x2)]) plX8 rfl rfl (Nat.le_of_ble_eq_true rfl) rfl ?_
  intro p e s m below meth c hC hr hin
  unfold mM_plainSees at hm
  refine z_aload_n hC dX8_plainSees_0 rfl 0 rfl ?_
  refine z_bipush hC dX8_plainSees_1 kB_11 ?_
  refine xM_X8_298 hI hC (Nat.le_of_ble_eq_true rfl) (fun _ h => h) hm dX8_plainSees_3 (Nat.le_of_ble_eq_true rfl) (fun q1 hm => ?_)
  refine zuM (u2 := (M_put_ran_bodies (q1.1, q1.2) u)) rfl ?_
  refine z_aload_n hC dX8_plainSees_6 rfl 0 rfl ?_
  refine z_iload_n hC dX8_plainSees_7 rfl 1 rfl ?_
  refine z_iload_n hC dX8_plainSees_8 rfl 2 rfl ?_
  refine xM_X8_304 hI hC (Nat.le_of_ble_eq_true rfl) (fun _ h => h) hm dX8_plainSees_9 (Nat.le_of_ble_eq_true rfl) (fun q2 hm => ?_)
  refine zuM (u2 := (M_put_ran_bodies (q2.2.1, q2.2.2) u)) rfl ?_
  refine z_aload_n hC dX8_plainSees_12 rfl 0 rfl ?_
  refine gM_X8_99_o hC dX8_plainSees_13 ?_
  refine z_iload_n hC dX8_plainSees_16 rfl 1 rfl ?_
  refine aM_v hC hm dX8_plainSees_17 (fun hm => ?_)
  refine z_isub hC dX8_plainSees_18 ?_
  exact riM (fin := fun z => M_put_ran_bodies z u) hC hr rfl dX8_plainSees_19 hm rfl
theorem xM_X8_307 {p : Program} {l : Launch} {e : Env} {s : State} {m : MethodId} {args : Array Value} {below : List Frame} {meth : Method} {c : Code} {Q : State → Prop} {D : va_G} {A : Nat → Prop} {cc : ByteArray} {nL : Nat} {lv : List (Nat × Value)} {pc : Nat} {st : List Value} {cA : Nat → ClassId} {ad : Nat → Nat} {E : zEt} {d : Nat} {x1 : Int32} {x2 : Int32} {u : SM} (hI : zInj ad 23) (C : zC p s m args meth c cc nL RX8 zTS D (zTy cA) A E) (hdm : 3 + 1 ≤ d) (hA : ∀ q, zAd ad 23 q → A q) {β : Type} {f : (Int32 × Int32 × (Nat → Int32)) → Option β} {o : β} (hm : (mM_plainSees x1 x2 u).bind f = some o) (hd : decode cc pc = .ok (.invokevirtual 307, 3)) (h8 : (st.map fun v => v.category).sum ≤ 8) (g : ∀ q, f q = some o → zG p l e (zRm d) s m args below meth c nL D A Q (wM cA ad (M_put_ran_bodies q.2 u)) lv (pc + 3) (.int q.1 :: st)) : zG p l e (zRm d) s m args below meth c nL D A Q (wM cA ad u) lv pc (.int x2 :: .int x1 :: .ref (ad 0) :: st) := by
  obtain ⟨q, h1, h2⟩ := zb_some hm
  exact z_calliV C (cM_plainSees hI x1 x2 u h1) (cwX8_307 C.1.2.2.2.2 rfl rfl ⟨hdm, by have := hdm; simp only [zRm]; omega⟩) hd rfl rfl h8 ⟨_, rfl, rfl⟩ (List.mem_of_getElem? (heM_o cA ad u)) (fun _ h => h) hA zJ_same (g q h2)
def mM_nearSees (x1 : Int32) (x2 : Int32) (u : SM) : Option (Int32 × Int32 × (Nat → Int32)) :=
  (mM_body (20 : Int32) u).bind fun q1 => ((mM_plainSees x1 x2 (M_put_ran_bodies (q1.1, q1.2) u)).bind fun q2 => (some ((q2.1 ^^^ (6 : Int32)), (q2.2.1, q2.2.2))))
set_option maxRecDepth 100000 in
set_option maxHeartbeats 4000000 in
theorem cM_nearSees {l : Launch} {D : va_G} {cA : Nat → ClassId} {ad : Nat → Nat} {E : zEt} (hI : zInj ad 23) (x1 : Int32) (x2 : Int32) (u : SM) {r : Int32} {w' : Int32 × (Nat → Int32)} (hm : mM_nearSees x1 x2 u = some (r, w')) : Met l yX8_nearSees (zWs yX8_nearSees cX8_nearSees 3 (some .int)) (zRm 4) (va_Pc [.ref (ad 0), .int x1, .int x2] (zPre D (zTy cA) E (zAd ad 23) (wM cA ad u))) (zQi r (zBw D (wM cA ad (M_put_ran_bodies w' u))) (zAd ad 23)) 0 0 (zAd ad 23) := by
  refine z_met (lv := [(0, .ref (ad 0)), (1, .int x1), (2, .int x2)]) plX8 rfl rfl (Nat.le_of_ble_eq_true rfl) rfl ?_
  intro p e s m below meth c hC hr hin
  unfold mM_nearSees at hm
  refine z_aload_n hC dX8_nearSees_0 rfl 0 rfl ?_
  refine z_bipush hC dX8_nearSees_1 kB_20 ?_
  refine xM_X8_298 hI hC (Nat.le_of_ble_eq_true rfl) (fun _ h => h) hm dX8_nearSees_3 (Nat.le_of_ble_eq_true rfl) (fun q1 hm => ?_)
  refine zuM (u2 := (M_put_ran_bodies (q1.1, q1.2) u)) rfl ?_
  refine z_aload_n hC dX8_nearSees_6 rfl 0 rfl ?_
  refine z_iload_n hC dX8_nearSees_7 rfl 1 rfl ?_
  refine z_iload_n hC dX8_nearSees_8 rfl 2 rfl ?_
  refine xM_X8_307 hI hC (Nat.le_of_ble_eq_true rfl) (fun _ h => h) hm dX8_nearSees_9 (Nat.le_of_ble_eq_true rfl) (fun q2 hm => ?_)
  refine zuM (u2 := (M_put_ran_bodies (q2.2.1, q2.2.2) u)) rfl ?_
  refine z_bipush hC dX8_nearSees_12 kB_6 ?_
  refine z_ixor hC dX8_nearSees_14 ?_
  exact riM (fin := fun z => M_put_ran_bodies z u) hC hr rfl dX8_nearSees_15 hm rfl
theorem xM_X8_310 {p : Program} {l : Launch} {e : Env} {s : State} {m : MethodId} {args : Array Value} {below : List Frame} {meth : Method} {c : Code} {Q : State → Prop} {D : va_G} {A : Nat → Prop} {cc : ByteArray} {nL : Nat} {lv : List (Nat × Value)} {pc : Nat} {st : List Value} {cA : Nat → ClassId} {ad : Nat → Nat} {E : zEt} {d : Nat} {x1 : Int32} {x2 : Int32} {u : SM} (hI : zInj ad 23) (C : zC p s m args meth c cc nL RX8 zTS D (zTy cA) A E) (hdm : 4 + 1 ≤ d) (hA : ∀ q, zAd ad 23 q → A q) {β : Type} {f : (Int32 × Int32 × (Nat → Int32)) → Option β} {o : β} (hm : (mM_nearSees x1 x2 u).bind f = some o) (hd : decode cc pc = .ok (.invokevirtual 310, 3)) (h8 : (st.map fun v => v.category).sum ≤ 8) (g : ∀ q, f q = some o → zG p l e (zRm d) s m args below meth c nL D A Q (wM cA ad (M_put_ran_bodies q.2 u)) lv (pc + 3) (.int q.1 :: st)) : zG p l e (zRm d) s m args below meth c nL D A Q (wM cA ad u) lv pc (.int x2 :: .int x1 :: .ref (ad 0) :: st) := by
  obtain ⟨q, h1, h2⟩ := zb_some hm
  exact z_calliV C (cM_nearSees hI x1 x2 u h1) (cwX8_310 C.1.2.2.2.2 rfl rfl ⟨hdm, by have := hdm; simp only [zRm]; omega⟩) hd rfl rfl h8 ⟨_, rfl, rfl⟩ (List.mem_of_getElem? (heM_o cA ad u)) (fun _ h => h) hA zJ_same (g q h2)
def mM_seesAct (x1 : Int32) (x2 : Int32) (u : SM) : Option (Int32 × Int32 × (Nat → Int32)) :=
  zgi x1 10 (if ((M_kind u) (x1).toNatClampNeg) = (1 : Int32) then ((mM_nearSees x1 x2 u).bind fun q1 => (some (q1.1, (q1.2.1, q1.2.2)))) else (if ((M_kind u) (x1).toNatClampNeg) = (4 : Int32) then ((mM_body (51 : Int32) u).bind fun q2 => ((mM_nearSees x1 (x2 + (1 : Int32)) (M_put_ran_bodies (q2.1, q2.2) u)).bind fun q3 => (some (q3.1, (q3.2.1, q3.2.2))))) else (if ((M_kind u) (x1).toNatClampNeg) = (6 : Int32) then ((mM_body (70 : Int32) u).bind fun q4 => ((mM_plainSees x1 x2 (M_put_ran_bodies (q4.1, q4.2) u)).bind fun q5 => ((mM_plainHears x1 (2 : Int32) (M_put_ran_bodies (q5.2.1, q5.2.2) u)).bind fun q6 => (some ((q5.1 + q6.1), (q6.2.1, q6.2.2)))))) else ((mM_plainSees x1 x2 u).bind fun q7 => (some (q7.1, (q7.2.1, q7.2.2)))))))
set_option maxRecDepth 100000 in
set_option maxHeartbeats 4000000 in
theorem cM_seesAct {l : Launch} {D : va_G} {cA : Nat → ClassId} {ad : Nat → Nat} {E : zEt} (hI : zInj ad 23) (x1 : Int32) (x2 : Int32) (u : SM) {r : Int32} {w' : Int32 × (Nat → Int32)} (hm : mM_seesAct x1 x2 u = some (r, w')) : Met l yX8_seesAct (zWs yX8_seesAct cX8_seesAct 4 (some .int)) (zRm 5) (va_Pc [.ref (ad 0), .int x1, .int x2] (zPre D (zTy cA) E (zAd ad 23) (wM cA ad u))) (zQi r (zBw D (wM cA ad (M_put_ran_bodies w' u))) (zAd ad 23)) 0 0 (zAd ad 23) := by
  refine z_met (lv := [(0, .ref (ad 0)), (1, .int x1), (2, .int x2)]) plX8 rfl rfl (Nat.le_of_ble_eq_true rfl) rfl ?_
  intro p e s m below meth c hC hr hin
  unfold mM_seesAct at hm
  refine z_aload_n hC dX8_seesAct_0 rfl 0 rfl ?_
  refine gM_X8_96_o hC dX8_seesAct_1 ?_
  refine z_iload_n hC dX8_seesAct_4 rfl 1 rfl ?_
  refine aM_kind hC hm dX8_seesAct_5 (fun hm => ?_)
  refine z_ite hm (fun h6_0 hm => ?_) (fun h6_0 hm => ?_)
  · refine z_lin hC dX8_seesAct_6 h6_0 kc_1 rfl (off := 34) rfl (tgt := 40) (by decide) ?_
    refine z_aload_n hC dX8_seesAct_40 rfl 0 rfl ?_
    refine z_iload_n hC dX8_seesAct_41 rfl 1 rfl ?_
    refine z_iload_n hC dX8_seesAct_42 rfl 2 rfl ?_
    refine xM_X8_310 hI hC (Nat.le_of_ble_eq_true rfl) (fun _ h => h) hm dX8_seesAct_43 (Nat.le_of_ble_eq_true rfl) (fun q1 hm => ?_)
    refine zuM (u2 := (M_put_ran_bodies (q1.2.1, q1.2.2) u)) rfl ?_
    exact riM (fin := fun z => M_put_ran_bodies z u) hC hr rfl dX8_seesAct_46 hm rfl
  · refine z_ite hm (fun h6_1 hm => ?_) (fun h6_1 hm => ?_)
    · refine z_lin hC dX8_seesAct_6 h6_1 kc_4 rfl (off := 41) rfl (tgt := 47) (by decide) ?_
      refine z_aload_n hC dX8_seesAct_47 rfl 0 rfl ?_
      refine z_bipush hC dX8_seesAct_48 kB_51 ?_
      refine xM_X8_298 hI hC (Nat.le_of_ble_eq_true rfl) (fun _ h => h) hm dX8_seesAct_50 (Nat.le_of_ble_eq_true rfl) (fun q2 hm => ?_)
      refine zuM (u2 := (M_put_ran_bodies (q2.1, q2.2) u)) rfl ?_
      refine z_aload_n hC dX8_seesAct_53 rfl 0 rfl ?_
      refine z_iload_n hC dX8_seesAct_54 rfl 1 rfl ?_
      refine z_iload_n hC dX8_seesAct_55 rfl 2 rfl ?_
      refine z_iconst hC dX8_seesAct_56 kI_1 ?_
      refine z_iadd hC dX8_seesAct_57 ?_
      refine xM_X8_310 hI hC (Nat.le_of_ble_eq_true rfl) (fun _ h => h) hm dX8_seesAct_58 (Nat.le_of_ble_eq_true rfl) (fun q3 hm => ?_)
      refine zuM (u2 := (M_put_ran_bodies (q3.2.1, q3.2.2) u)) rfl ?_
      exact riM (fin := fun z => M_put_ran_bodies z u) hC hr rfl dX8_seesAct_61 hm rfl
    · refine z_ite hm (fun h6_2 hm => ?_) (fun h6_2 hm => ?_)
      · refine z_lin hC dX8_seesAct_6 h6_2 kc_6 rfl (off := 56) rfl (tgt := 62) (by decide) ?_
        refine z_aload_n hC dX8_seesAct_62 rfl 0 rfl ?_
        refine z_bipush hC dX8_seesAct_63 kB_70 ?_
        refine xM_X8_298 hI hC (Nat.le_of_ble_eq_true rfl) (fun _ h => h) hm dX8_seesAct_65 (Nat.le_of_ble_eq_true rfl) (fun q4 hm => ?_)
        refine zuM (u2 := (M_put_ran_bodies (q4.1, q4.2) u)) rfl ?_
        refine z_aload_n hC dX8_seesAct_68 rfl 0 rfl ?_
        refine z_iload_n hC dX8_seesAct_69 rfl 1 rfl ?_
        refine z_iload_n hC dX8_seesAct_70 rfl 2 rfl ?_
        refine xM_X8_307 hI hC (Nat.le_of_ble_eq_true rfl) (fun _ h => h) hm dX8_seesAct_71 (Nat.le_of_ble_eq_true rfl) (fun q5 hm => ?_)
        refine zuM (u2 := (M_put_ran_bodies (q5.2.1, q5.2.2) u)) rfl ?_
        refine z_istore_n (lv' := [(3, .int q5.1), (0, .ref (ad 0)), (1, .int x1), (2, .int x2)]) hC dX8_seesAct_74 rfl (by decide) rfl ?_
        refine z_iload_n hC dX8_seesAct_75 rfl 0 rfl ?_
        refine z_aload_n hC dX8_seesAct_76 rfl 1 rfl ?_
        refine z_iload_n hC dX8_seesAct_77 rfl 2 rfl ?_
        refine z_iconst hC dX8_seesAct_78 kI_2 ?_
        refine xM_X8_301 hI hC (Nat.le_of_ble_eq_true rfl) (fun _ h => h) hm dX8_seesAct_79 (Nat.le_of_ble_eq_true rfl) (fun q6 hm => ?_)
        refine zuM (u2 := (M_put_ran_bodies (q6.2.1, q6.2.2) u)) rfl ?_
        refine z_iadd hC dX8_seesAct_82 ?_
        exact riM (fin := fun z => M_put_ran_bodies z u) hC hr rfl dX8_seesAct_83 hm rfl
      · refine z_lookup (off := 78) (tgt := 84) hC dX8_seesAct_6 rfl ((lv_osw h6_0 kc_1).trans ((lv_osw h6_1 kc_4).trans ((lv_osw h6_2 kc_6).trans rfl))) (by decide) ?_
        refine z_aload_n hC dX8_seesAct_84 rfl 0 rfl ?_
        refine z_iload_n hC dX8_seesAct_85 rfl 1 rfl ?_
        refine z_iload_n hC dX8_seesAct_86 rfl 2 rfl ?_
        refine xM_X8_307 hI hC (Nat.le_of_ble_eq_true rfl) (fun _ h => h) hm dX8_seesAct_87 (Nat.le_of_ble_eq_true rfl) (fun q7 hm => ?_)
        refine zuM (u2 := (M_put_ran_bodies (q7.2.1, q7.2.2) u)) rfl ?_
        exact riM (fin := fun z => M_put_ran_bodies z u) hC hr rfl dX8_seesAct_90 hm rfl
theorem xM_X8_313 {p : Program} {l : Launch} {e : Env} {s : State} {m : MethodId} {args : Array Value} {below : List Frame} {meth : Method} {c : Code} {Q : State → Prop} {D : va_G} {A : Nat → Prop} {cc : ByteArray} {nL : Nat} {lv : List (Nat × Value)} {pc : Nat} {st : List Value} {cA : Nat → ClassId} {ad : Nat → Nat} {E : zEt} {d : Nat} {x1 : Int32} {x2 : Int32} {u : SM} (hI : zInj ad 23) (C : zC p s m args meth c cc nL RX8 zTS D (zTy cA) A E) (hdm : 5 + 1 ≤ d) (hA : ∀ q, zAd ad 23 q → A q) {β : Type} {f : (Int32 × Int32 × (Nat → Int32)) → Option β} {o : β} (hm : (mM_seesAct x1 x2 u).bind f = some o) (hd : decode cc pc = .ok (.invokevirtual 313, 3)) (h8 : (st.map fun v => v.category).sum ≤ 8) (g : ∀ q, f q = some o → zG p l e (zRm d) s m args below meth c nL D A Q (wM cA ad (M_put_ran_bodies q.2 u)) lv (pc + 3) (.int q.1 :: st)) : zG p l e (zRm d) s m args below meth c nL D A Q (wM cA ad u) lv pc (.int x2 :: .int x1 :: .ref (ad 0) :: st) := by
  obtain ⟨q, h1, h2⟩ := zb_some hm
  exact z_calliV C (cM_seesAct hI x1 x2 u h1) (cwX8_313 C.1.2.2.2.2 rfl rfl ⟨hdm, by have := hdm; simp only [zRm]; omega⟩) hd rfl rfl h8 ⟨_, rfl, rfl⟩ (List.mem_of_getElem? (heM_o cA ad u)) (fun _ h => h) hA zJ_same (g q h2)
def mM_plainTells (x1 : Int32) (x2 : Int32) (u : SM) : Option (Int32 × Int32 × (Nat → Int32)) :=
  (mM_body (12 : Int32) u).bind fun q1 => ((mM_seesAct x1 x2 (M_put_ran_bodies (q1.1, q1.2) u)).bind fun q2 => (some ((q2.1 * (2 : Int32)), (q2.2.1, q2.2.2))))
set_option maxRecDepth 100000 in
set_option maxHeartbeats 4000000 in
theorem cM_plainTells {l : Launch} {D : va_G} {cA : Nat → ClassId} {ad : Nat → Nat} {E : zEt} (hI : zInj ad 23) (x1 : Int32) (x2 : Int32) (u : SM) {r : Int32} {w' : Int32 × (Nat → Int32)} (hm : mM_plainTells x1 x2 u = some (r, w')) : Met l yX8_plainTells (zWs yX8_plainTells cX8_plainTells 3 (some .int)) (zRm 6) (va_Pc [.ref (ad 0), .int x1, .int x2] (zPre D (zTy cA) E (zAd ad 23) (wM cA ad u))) (zQi r (zBw D (wM cA ad (M_put_ran_bodies w' u))) (zAd ad 23)) 0 0 (zAd ad 23) := by
  refine z_met (lv := [(0, .ref (ad 0)), (1, .int x1), (2, .int x2)]) plX8 rfl rfl (Nat.le_of_ble_eq_true rfl) rfl ?_
  intro p e s m below meth c hC hr hin
  unfold mM_plainTells at hm
  refine z_aload_n hC dX8_plainTells_0 rfl 0 rfl ?_
  refine z_bipush hC dX8_plainTells_1 kB_12 ?_
  refine xM_X8_298 hI hC (Nat.le_of_ble_eq_true rfl) (fun _ h => h) hm dX8_plainTells_3 (Nat.le_of_ble_eq_true rfl) (fun q1 hm => ?_)
  refine zuM (u2 := (M_put_ran_bodies (q1.1, q1.2) u)) rfl ?_
  refine z_aload_n hC dX8_plainTells_6 rfl 0 rfl ?_
  refine z_iload_n hC dX8_plainTells_7 rfl 1 rfl ?_
  refine z_iload_n hC dX8_plainTells_8 rfl 2 rfl ?_
  refine xM_X8_313 hI hC (Nat.le_of_ble_eq_true rfl) (fun _ h => h) hm dX8_plainTells_9 (Nat.le_of_ble_eq_true rfl) (fun q2 hm => ?_)
  refine zuM (u2 := (M_put_ran_bodies (q2.2.1, q2.2.2) u)) rfl ?_
  refine z_iconst hC dX8_plainTells_12 kI_2 ?_
  refine z_imul hC dX8_plainTells_13 ?_
  exact riM (fin := fun z => M_put_ran_bodies z u) hC hr rfl dX8_plainTells_14 hm rfl
theorem xM_X8_316 {p : Program} {l : Launch} {e : Env} {s : State} {m : MethodId} {args : Array Value} {below : List Frame} {meth : Method} {c : Code} {Q : State → Prop} {D : va_G} {A : Nat → Prop} {cc : ByteArray} {nL : Nat} {lv : List (Nat × Value)} {pc : Nat} {st : List Value} {cA : Nat → ClassId} {ad : Nat → Nat} {E : zEt} {d : Nat} {x1 : Int32} {x2 : Int32} {u : SM} (hI : zInj ad 23) (C : zC p s m args meth c cc nL RX8 zTS D (zTy cA) A E) (hdm : 6 + 1 ≤ d) (hA : ∀ q, zAd ad 23 q → A q) {β : Type} {f : (Int32 × Int32 × (Nat → Int32)) → Option β} {o : β} (hm : (mM_plainTells x1 x2 u).bind f = some o) (hd : decode cc pc = .ok (.invokevirtual 316, 3)) (h8 : (st.map fun v => v.category).sum ≤ 8) (g : ∀ q, f q = some o → zG p l e (zRm d) s m args below meth c nL D A Q (wM cA ad (M_put_ran_bodies q.2 u)) lv (pc + 3) (.int q.1 :: st)) : zG p l e (zRm d) s m args below meth c nL D A Q (wM cA ad u) lv pc (.int x2 :: .int x1 :: .ref (ad 0) :: st) := by
  obtain ⟨q, h1, h2⟩ := zb_some hm
  exact z_calliV C (cM_plainTells hI x1 x2 u h1) (cwX8_316 C.1.2.2.2.2 rfl rfl ⟨hdm, by have := hdm; simp only [zRm]; omega⟩) hd rfl rfl h8 ⟨_, rfl, rfl⟩ (List.mem_of_getElem? (heM_o cA ad u)) (fun _ h => h) hA zJ_same (g q h2)
def mM_tellsAct_J36 (x1 : Int32) (x2 : Int32) (u : SM) : Option (Int32 × Int32 × (Nat → Int32)) :=
  (mM_body (40 : Int32) u).bind fun q1 => ((mM_plainTells x1 x2 (M_put_ran_bodies (q1.1, q1.2) u)).bind fun q2 => ((mM_seesAct x1 (1 : Int32) (M_put_ran_bodies (q2.2.1, q2.2.2) u)).bind fun q3 => (some ((q2.1 + q3.1), (q3.2.1, q3.2.2)))))
set_option maxRecDepth 100000 in
set_option maxHeartbeats 4000000 in
theorem jM_tellsAct_36 {l : Launch} {D : va_G} {cA : Nat → ClassId} {ad : Nat → Nat} {p : Program} {e : Env} {s : State} {m : MethodId} {args : Array Value} {below : List Frame} {meth : Method} {c : Code} {E : zEt} {r : Int32} {w' : Int32 × (Nat → Int32)}  {x1 : Int32} {x2 : Int32} {u : SM} (hI : zInj ad 23) (hC : zC p s m args meth c cX8_tellsAct 4 RX8 zTS D (zTy cA) (zAd ad 23) E) (hr : meth.sig.returnType = (some .int)) (hm : mM_tellsAct_J36 x1 x2 u = some (r, w')) : zG p l e (zRm 7) s m args below meth c 4 D (zAd ad 23) (MQ below (zQi r (zBw D (wM cA ad (M_put_ran_bodies w' u))) (zAd ad 23)) args s 0 0 (zAd ad 23)) (wM cA ad u) [(0, .ref (ad 0)), (1, .int x1), (2, .int x2)] 36 [] := by
  unfold mM_tellsAct_J36 at hm
  refine z_aload_n hC dX8_tellsAct_36 rfl 0 rfl ?_
  refine z_bipush hC dX8_tellsAct_37 kB_40 ?_
  refine xM_X8_298 hI hC (Nat.le_of_ble_eq_true rfl) (fun _ h => h) hm dX8_tellsAct_39 (Nat.le_of_ble_eq_true rfl) (fun q1 hm => ?_)
  refine zuM (u2 := (M_put_ran_bodies (q1.1, q1.2) u)) rfl ?_
  refine z_aload_n hC dX8_tellsAct_42 rfl 0 rfl ?_
  refine z_iload_n hC dX8_tellsAct_43 rfl 1 rfl ?_
  refine z_iload_n hC dX8_tellsAct_44 rfl 2 rfl ?_
  refine xM_X8_316 hI hC (Nat.le_of_ble_eq_true rfl) (fun _ h => h) hm dX8_tellsAct_45 (Nat.le_of_ble_eq_true rfl) (fun q2 hm => ?_)
  refine zuM (u2 := (M_put_ran_bodies (q2.2.1, q2.2.2) u)) rfl ?_
  refine z_istore_n (lv' := [(3, .int q2.1), (0, .ref (ad 0)), (1, .int x1), (2, .int x2)]) hC dX8_tellsAct_48 rfl (by decide) rfl ?_
  refine z_iload_n hC dX8_tellsAct_49 rfl 0 rfl ?_
  refine z_aload_n hC dX8_tellsAct_50 rfl 1 rfl ?_
  refine z_iload_n hC dX8_tellsAct_51 rfl 2 rfl ?_
  refine z_iconst hC dX8_tellsAct_52 kI_1 ?_
  refine xM_X8_313 hI hC (Nat.le_of_ble_eq_true rfl) (fun _ h => h) hm dX8_tellsAct_53 (Nat.le_of_ble_eq_true rfl) (fun q3 hm => ?_)
  refine zuM (u2 := (M_put_ran_bodies (q3.2.1, q3.2.2) u)) rfl ?_
  refine z_iadd hC dX8_tellsAct_56 ?_
  exact riM (fin := fun z => M_put_ran_bodies z u) hC hr rfl dX8_tellsAct_57 hm rfl
def mM_tellsAct (x1 : Int32) (x2 : Int32) (u : SM) : Option (Int32 × Int32 × (Nat → Int32)) :=
  zgi x1 10 (if ((M_kind u) (x1).toNatClampNeg) = (3 : Int32) then (mM_tellsAct_J36 x1 x2 u) else (if ((M_kind u) (x1).toNatClampNeg) = (4 : Int32) then ((mM_plainTells x1 x2 u).bind fun q4 => (some (q4.1, (q4.2.1, q4.2.2)))) else (if ((M_kind u) (x1).toNatClampNeg) = (5 : Int32) then ((mM_body (60 : Int32) u).bind fun q5 => ((mM_plainTells x1 (x2 - x1) (M_put_ran_bodies (q5.1, q5.2) u)).bind fun q6 => (some (q6.1, (q6.2.1, q6.2.2))))) else (if ((M_kind u) (x1).toNatClampNeg) = (6 : Int32) then (mM_tellsAct_J36 x1 x2 u) else ((mM_plainTells x1 x2 u).bind fun q7 => (some (q7.1, (q7.2.1, q7.2.2))))))))
set_option maxRecDepth 100000 in
set_option maxHeartbeats 4000000 in
theorem cM_tellsAct {l : Launch} {D : va_G} {cA : Nat → ClassId} {ad : Nat → Nat} {E : zEt} (hI : zInj ad 23) (x1 : Int32) (x2 : Int32) (u : SM) {r : Int32} {w' : Int32 × (Nat → Int32)} (hm : mM_tellsAct x1 x2 u = some (r, w')) : Met l yX8_tellsAct (zWs yX8_tellsAct cX8_tellsAct 4 (some .int)) (zRm 7) (va_Pc [.ref (ad 0), .int x1, .int x2] (zPre D (zTy cA) E (zAd ad 23) (wM cA ad u))) (zQi r (zBw D (wM cA ad (M_put_ran_bodies w' u))) (zAd ad 23)) 0 0 (zAd ad 23) := by
  refine z_met (lv := [(0, .ref (ad 0)), (1, .int x1), (2, .int x2)]) plX8 rfl rfl (Nat.le_of_ble_eq_true rfl) rfl ?_
  intro p e s m below meth c hC hr hin
  unfold mM_tellsAct at hm
  refine z_aload_n hC dX8_tellsAct_0 rfl 0 rfl ?_
  refine gM_X8_96_o hC dX8_tellsAct_1 ?_
  refine z_iload_n hC dX8_tellsAct_4 rfl 1 rfl ?_
  refine aM_kind hC hm dX8_tellsAct_5 (fun hm => ?_)
  refine z_ite hm (fun h6_0 hm => ?_) (fun h6_0 hm => ?_)
  · refine z_tin hC dX8_tellsAct_6 h6_0 kc_3 (by decide) (by decide) (off := 30) rfl (tgt := 36) (by decide) ?_
    refine z_lv hC [0, 1, 2] rfl ?_
    exact jM_tellsAct_36 hI hC hr hm
  · refine z_ite hm (fun h6_1 hm => ?_) (fun h6_1 hm => ?_)
    · refine z_tin hC dX8_tellsAct_6 h6_1 kc_4 (by decide) (by decide) (off := 67) rfl (tgt := 73) (by decide) ?_
      refine z_aload_n hC dX8_tellsAct_73 rfl 0 rfl ?_
      refine z_iload_n hC dX8_tellsAct_74 rfl 1 rfl ?_
      refine z_iload_n hC dX8_tellsAct_75 rfl 2 rfl ?_
      refine xM_X8_316 hI hC (Nat.le_of_ble_eq_true rfl) (fun _ h => h) hm dX8_tellsAct_76 (Nat.le_of_ble_eq_true rfl) (fun q4 hm => ?_)
      refine zuM (u2 := (M_put_ran_bodies (q4.2.1, q4.2.2) u)) rfl ?_
      exact riM (fin := fun z => M_put_ran_bodies z u) hC hr rfl dX8_tellsAct_79 hm rfl
    · refine z_ite hm (fun h6_2 hm => ?_) (fun h6_2 hm => ?_)
      · refine z_tin hC dX8_tellsAct_6 h6_2 kc_5 (by decide) (by decide) (off := 52) rfl (tgt := 58) (by decide) ?_
        refine z_aload_n hC dX8_tellsAct_58 rfl 0 rfl ?_
        refine z_bipush hC dX8_tellsAct_59 kB_60 ?_
        refine xM_X8_298 hI hC (Nat.le_of_ble_eq_true rfl) (fun _ h => h) hm dX8_tellsAct_61 (Nat.le_of_ble_eq_true rfl) (fun q5 hm => ?_)
        refine zuM (u2 := (M_put_ran_bodies (q5.1, q5.2) u)) rfl ?_
        refine z_aload_n hC dX8_tellsAct_64 rfl 0 rfl ?_
        refine z_iload_n hC dX8_tellsAct_65 rfl 1 rfl ?_
        refine z_iload_n hC dX8_tellsAct_66 rfl 2 rfl ?_
        refine z_iload_n hC dX8_tellsAct_67 rfl 1 rfl ?_
        refine z_isub hC dX8_tellsAct_68 ?_
        refine xM_X8_316 hI hC (Nat.le_of_ble_eq_true rfl) (fun _ h => h) hm dX8_tellsAct_69 (Nat.le_of_ble_eq_true rfl) (fun q6 hm => ?_)
        refine zuM (u2 := (M_put_ran_bodies (q6.2.1, q6.2.2) u)) rfl ?_
        exact riM (fin := fun z => M_put_ran_bodies z u) hC hr rfl dX8_tellsAct_72 hm rfl
      · refine z_ite hm (fun h6_3 hm => ?_) (fun h6_3 hm => ?_)
        · refine z_tin hC dX8_tellsAct_6 h6_3 kc_6 (by decide) (by decide) (off := 30) rfl (tgt := 36) (by decide) ?_
          refine z_lv hC [0, 1, 2] rfl ?_
          exact jM_tellsAct_36 hI hC hr hm
        · refine z_tout (n := 4) hC dX8_tellsAct_6 (z_allc (z_tneq kc_3 h6_0) (z_allc (z_tneq kc_4 h6_1) (z_allc (z_tneq kc_5 h6_2) (z_allc (z_tneq kc_6 h6_3) z_all0)))) (by decide) (tgt := 73) (by decide) ?_
          refine z_aload_n hC dX8_tellsAct_73 rfl 0 rfl ?_
          refine z_iload_n hC dX8_tellsAct_74 rfl 1 rfl ?_
          refine z_iload_n hC dX8_tellsAct_75 rfl 2 rfl ?_
          refine xM_X8_316 hI hC (Nat.le_of_ble_eq_true rfl) (fun _ h => h) hm dX8_tellsAct_76 (Nat.le_of_ble_eq_true rfl) (fun q7 hm => ?_)
          refine zuM (u2 := (M_put_ran_bodies (q7.2.1, q7.2.2) u)) rfl ?_
          exact riM (fin := fun z => M_put_ran_bodies z u) hC hr rfl dX8_tellsAct_79 hm rfl
theorem xM_X8_319 {p : Program} {l : Launch} {e : Env} {s : State} {m : MethodId} {args : Array Value} {below : List Frame} {meth : Method} {c : Code} {Q : State → Prop} {D : va_G} {A : Nat → Prop} {cc : ByteArray} {nL : Nat} {lv : List (Nat × Value)} {pc : Nat} {st : List Value} {cA : Nat → ClassId} {ad : Nat → Nat} {E : zEt} {d : Nat} {x1 : Int32} {x2 : Int32} {u : SM} (hI : zInj ad 23) (C : zC p s m args meth c cc nL RX8 zTS D (zTy cA) A E) (hdm : 7 + 1 ≤ d) (hA : ∀ q, zAd ad 23 q → A q) {β : Type} {f : (Int32 × Int32 × (Nat → Int32)) → Option β} {o : β} (hm : (mM_tellsAct x1 x2 u).bind f = some o) (hd : decode cc pc = .ok (.invokevirtual 319, 3)) (h8 : (st.map fun v => v.category).sum ≤ 8) (g : ∀ q, f q = some o → zG p l e (zRm d) s m args below meth c nL D A Q (wM cA ad (M_put_ran_bodies q.2 u)) lv (pc + 3) (.int q.1 :: st)) : zG p l e (zRm d) s m args below meth c nL D A Q (wM cA ad u) lv pc (.int x2 :: .int x1 :: .ref (ad 0) :: st) := by
  obtain ⟨q, h1, h2⟩ := zb_some hm
  exact z_calliV C (cM_tellsAct hI x1 x2 u h1) (cwX8_319 C.1.2.2.2.2 rfl rfl ⟨hdm, by have := hdm; simp only [zRm]; omega⟩) hd rfl rfl h8 ⟨_, rfl, rfl⟩ (List.mem_of_getElem? (heM_o cA ad u)) (fun _ h => h) hA zJ_same (g q h2)
def mM_act (x1 : Int32) (x2 : Int32) (x3 : Int32) (u : SM) : Option (Int32 × Int32 × (Nat → Int32)) :=
  if (mM_isVoice x1 (M_put_ran_bodies ((0 : Int32), (M_bodies u)) u)) = 0 then (some ((0 : Int32), ((0 : Int32), (M_bodies u)))) else (if (mM_in x2 (0 : Int32) (2 : Int32)) = 0 then (some ((0 : Int32), ((0 : Int32), (M_bodies u)))) else (if x2 = 0 then ((mM_hearsAct x1 x3 (M_put_ran_bodies ((0 : Int32), (M_bodies u)) u)).bind fun q1 => (some (q1.1, (q1.2.1, q1.2.2)))) else (if x2 = (1 : Int32) then ((mM_seesAct x1 x3 (M_put_ran_bodies ((0 : Int32), (M_bodies u)) u)).bind fun q2 => (some (q2.1, (q2.2.1, q2.2.2)))) else ((mM_tellsAct x1 x3 (M_put_ran_bodies ((0 : Int32), (M_bodies u)) u)).bind fun q3 => (some (q3.1, (q3.2.1, q3.2.2)))))))
set_option maxRecDepth 100000 in
set_option maxHeartbeats 4000000 in
theorem cM_act {l : Launch} {D : va_G} {cA : Nat → ClassId} {ad : Nat → Nat} {E : zEt} (hI : zInj ad 23) (x1 : Int32) (x2 : Int32) (x3 : Int32) (u : SM) {r : Int32} {w' : Int32 × (Nat → Int32)} (hm : mM_act x1 x2 x3 u = some (r, w')) : Met l yX8_act (zWs yX8_act cX8_act 4 (some .int)) (zRm 8) (va_Pc [.ref (ad 0), .int x1, .int x2, .int x3] (zPre D (zTy cA) E (zAd ad 23) (wM cA ad u))) (zQi r (zBw D (wM cA ad (M_put_ran_bodies w' u))) (zAd ad 23)) 0 0 (zAd ad 23) := by
  refine z_met (lv := [(0, .ref (ad 0)), (1, .int x1), (2, .int x2), (3, .int x3)]) plX8 rfl rfl (Nat.le_of_ble_eq_true rfl) rfl ?_
  intro p e s m below meth c hC hr hin
  unfold mM_act at hm
  refine z_aload_n hC dX8_act_0 rfl 0 rfl ?_
  refine z_iconst hC dX8_act_1 kI_0 ?_
  refine pM_X8_131_o hC hI (fun _ h => h) dX8_act_2 ?_
  refine zuM (u2 := (M_put_ran_bodies ((0 : Int32), (M_bodies u)) u)) rfl ?_
  refine z_aload_n hC dX8_act_5 rfl 0 rfl ?_
  refine z_iload_n hC dX8_act_6 rfl 1 rfl ?_
  refine xM_X8_272 hI hC (Nat.le_of_ble_eq_true rfl) dX8_act_7 (Nat.le_of_ble_eq_true rfl) ?_
  refine z_if_eq (tgt := 23) hC hm dX8_act_10 (by decide) (fun hm => ?_) (fun hm => ?_)
  · refine z_iconst hC dX8_act_23 kI_0 ?_
    exact riM (fin := fun z => M_put_ran_bodies z u) hC hr rfl dX8_act_24 hm rfl
  · refine z_aload_n hC dX8_act_13 rfl 0 rfl ?_
    refine z_iload_n hC dX8_act_14 rfl 2 rfl ?_
    refine z_iconst hC dX8_act_15 kI_0 ?_
    refine z_iconst hC dX8_act_16 kI_2 ?_
    refine xM_X8_150 hI hC (Nat.le_of_ble_eq_true rfl) dX8_act_17 (Nat.le_of_ble_eq_true rfl) ?_
    refine z_if_ne (tgt := 25) hC hm dX8_act_20 (by decide) (fun hm => ?_) (fun hm => ?_)
    · refine z_iconst hC dX8_act_23 kI_0 ?_
      exact riM (fin := fun z => M_put_ran_bodies z u) hC hr rfl dX8_act_24 hm rfl
    · refine z_iload_n hC dX8_act_25 rfl 2 rfl ?_
      refine z_if_ne (tgt := 38) hC hm dX8_act_26 (by decide) (fun hm => ?_) (fun hm => ?_)
      · refine z_aload_n hC dX8_act_29 rfl 0 rfl ?_
        refine z_iload_n hC dX8_act_30 rfl 1 rfl ?_
        refine z_iload_n hC dX8_act_31 rfl 3 rfl ?_
        refine xM_X8_304 hI hC (Nat.le_of_ble_eq_true rfl) (fun _ h => h) hm dX8_act_32 (Nat.le_of_ble_eq_true rfl) (fun q1 hm => ?_)
        refine zuM (u2 := (M_put_ran_bodies (q1.2.1, q1.2.2) u)) rfl ?_
        refine z_goto (tgt := 58) hC dX8_act_35 (by decide) ?_
        exact riM (fin := fun z => M_put_ran_bodies z u) hC hr rfl dX8_act_58 hm rfl
      · refine z_iload_n hC dX8_act_38 rfl 2 rfl ?_
        refine z_iconst hC dX8_act_39 kI_1 ?_
        refine z_icmp_ne (tgt := 52) hC hm dX8_act_40 (by decide) (fun hm => ?_) (fun hm => ?_)
        · refine z_aload_n hC dX8_act_43 rfl 0 rfl ?_
          refine z_iload_n hC dX8_act_44 rfl 1 rfl ?_
          refine z_iload_n hC dX8_act_45 rfl 3 rfl ?_
          refine xM_X8_313 hI hC (Nat.le_of_ble_eq_true rfl) (fun _ h => h) hm dX8_act_46 (Nat.le_of_ble_eq_true rfl) (fun q2 hm => ?_)
          refine zuM (u2 := (M_put_ran_bodies (q2.2.1, q2.2.2) u)) rfl ?_
          refine z_goto (tgt := 58) hC dX8_act_49 (by decide) ?_
          exact riM (fin := fun z => M_put_ran_bodies z u) hC hr rfl dX8_act_58 hm rfl
        · refine z_aload_n hC dX8_act_52 rfl 0 rfl ?_
          refine z_iload_n hC dX8_act_53 rfl 1 rfl ?_
          refine z_iload_n hC dX8_act_54 rfl 3 rfl ?_
          refine xM_X8_319 hI hC (Nat.le_of_ble_eq_true rfl) (fun _ h => h) hm dX8_act_55 (Nat.le_of_ble_eq_true rfl) (fun q3 hm => ?_)
          refine zuM (u2 := (M_put_ran_bodies (q3.2.1, q3.2.2) u)) rfl ?_
          exact riM (fin := fun z => M_put_ran_bodies z u) hC hr rfl dX8_act_58 hm rfl
theorem aM_bodies {p : Program} {l : Launch} {e : Env} {R : Room} {s : State} {m : MethodId} {args : Array Value} {below : List Frame} {meth : Method} {c : Code} {Q : State → Prop} {D : va_G} {A : Nat → Prop} {cc : ByteArray} {nL : Nat} {lv : List (Nat × Value)} {pc : Nat} {st : List Value} {cA : Nat → ClassId} {ad : Nat → Nat} {E : zEt} {own : String} {u : SM} {i : Int32} {β : Type} {k : Option β} {r : β} (C : zC p s m args meth c cc nL own zTS D (zTy cA) A E) (hm : zgi i 20 k = some r) (hd : decode cc pc = .ok (.iaload, 1)) (g : k = some r → zG p l e R s m args below meth c nL D A Q (wM cA ad u) lv (pc + 1) (.int (M_bodies u i.toNatClampNeg) :: st)) : zG p l e R s m args below meth c nL D A Q (wM cA ad u) lv pc (.int i :: .ref (ad 18) :: st) := fun H locs ls hP hS hL => va_iald C.1.1 C.1.2.1 C.2.1 hP 18 0 (heM_bodies cA ad u) rfl (zgi_some hm).1 hd (g (zgi_some hm).2 H locs ls hP hS hL)
def mM_trace (x1 : Int32) (u : SM) : Option Int32 :=
  if (mM_in x1 (0 : Int32) (19 : Int32)) = 0 then (some (-1 : Int32)) else (if (M_ran u) ≤ x1 then (some (-1 : Int32)) else (zgi x1 20 (some ((M_bodies u) (x1).toNatClampNeg))))
set_option maxRecDepth 100000 in
set_option maxHeartbeats 4000000 in
theorem cM_trace {l : Launch} {D : va_G} {cA : Nat → ClassId} {ad : Nat → Nat} {E : zEt} (hI : zInj ad 23) (x1 : Int32) (u : SM) {r : Int32} (hm : mM_trace x1 u = some r) : Met l yX8_trace (zWs yX8_trace cX8_trace 2 (some .int)) (zRm 1) (va_Pc [.ref (ad 0), .int x1] (zPre D (zTy cA) E zA0 (wM cA ad u))) (zQi r zB0 zA0) 0 0 zA0 := by
  refine z_met (lv := [(0, .ref (ad 0)), (1, .int x1)]) plX8 rfl rfl (Nat.le_of_ble_eq_true rfl) rfl ?_
  intro p e s m below meth c hC hr hin
  unfold mM_trace at hm
  refine z_aload_n hC dX8_trace_0 rfl 0 rfl ?_
  refine z_iload_n hC dX8_trace_1 rfl 1 rfl ?_
  refine z_iconst hC dX8_trace_2 kI_0 ?_
  refine z_bipush hC dX8_trace_3 kB_19 ?_
  refine xM_X8_150 hI hC (Nat.le_of_ble_eq_true rfl) dX8_trace_5 (Nat.le_of_ble_eq_true rfl) ?_
  refine z_if_eq (tgt := 28) hC hm dX8_trace_8 (by decide) (fun hm => ?_) (fun hm => ?_)
  · refine z_iconst hC dX8_trace_28 kI_m1 ?_
    exact z_iret hC hr rfl dX8_trace_29 (fun _ _ => trivial) (Option.some.inj hm)
  · refine z_iload_n hC dX8_trace_11 rfl 1 rfl ?_
    refine z_aload_n hC dX8_trace_12 rfl 0 rfl ?_
    refine gM_X8_131_o (v := (M_ran u)) hC dX8_trace_13 rfl ?_
    refine z_icmp_ge (tgt := 28) hC hm dX8_trace_16 (by decide) (fun hm => ?_) (fun hm => ?_)
    · refine z_iconst hC dX8_trace_28 kI_m1 ?_
      exact z_iret hC hr rfl dX8_trace_29 (fun _ _ => trivial) (Option.some.inj hm)
    · refine z_aload_n hC dX8_trace_19 rfl 0 rfl ?_
      refine gM_X8_134_o hC dX8_trace_20 ?_
      refine z_iload_n hC dX8_trace_23 rfl 1 rfl ?_
      refine aM_bodies hC hm dX8_trace_24 (fun hm => ?_)
      refine z_goto (tgt := 29) hC dX8_trace_25 (by decide) ?_
      exact z_iret hC hr rfl dX8_trace_29 (fun _ _ => trivial) (Option.some.inj hm)
def mM_taken_J61 (x2 : Int32) (x3 : Int32) (u : SM) : Option Int32 :=
  if x2 = (3 : Int32) then (if x3 = (6 : Int32) then (some x3) else (some (-12 : Int32))) else (some (-12 : Int32))
set_option maxRecDepth 100000 in
set_option maxHeartbeats 4000000 in
theorem jM_taken_61 {l : Launch} {D : va_G} {cA : Nat → ClassId} {ad : Nat → Nat} {p : Program} {e : Env} {s : State} {m : MethodId} {args : Array Value} {below : List Frame} {meth : Method} {c : Code} {E : zEt} {r : Int32}  {x2 : Int32} {x3 : Int32} {u : SM} (hI : zInj ad 23) (hC : zC p s m args meth c cX8_taken 4 RX8 zTS D (zTy cA) zA0 E) (hr : meth.sig.returnType = (some .int)) (hm : mM_taken_J61 x2 x3 u = some r) : zG p l e (zRm 2) s m args below meth c 4 D zA0 (MQ below (zQi r zB0 zA0) args s 0 0 zA0) (wM cA ad u) [(2, .int x2), (3, .int x3)] 61 [] := by
  unfold mM_taken_J61 at hm
  refine z_iload_n hC dX8_taken_61 rfl 0 rfl ?_
  refine z_iconst hC dX8_taken_62 kI_3 ?_
  refine z_icmp_ne (tgt := 76) hC hm dX8_taken_63 (by decide) (fun hm => ?_) (fun hm => ?_)
  · refine z_iload_n hC dX8_taken_66 rfl 1 rfl ?_
    refine z_bipush hC dX8_taken_67 kB_6 ?_
    refine z_icmp_ne (tgt := 76) hC hm dX8_taken_69 (by decide) (fun hm => ?_) (fun hm => ?_)
    · refine z_iload_n hC dX8_taken_72 rfl 1 rfl ?_
      refine z_goto (tgt := 78) hC dX8_taken_73 (by decide) ?_
      exact z_iret hC hr rfl dX8_taken_78 (fun _ _ => trivial) (Option.some.inj hm)
    · refine z_bipush hC dX8_taken_76 kB_m12 ?_
      exact z_iret hC hr rfl dX8_taken_78 (fun _ _ => trivial) (Option.some.inj hm)
  · refine z_bipush hC dX8_taken_76 kB_m12 ?_
    exact z_iret hC hr rfl dX8_taken_78 (fun _ _ => trivial) (Option.some.inj hm)
def mM_taken_J51 (x2 : Int32) (x3 : Int32) (u : SM) : Option Int32 :=
  if x2 = (2 : Int32) then (if x3 = (5 : Int32) then (some x3) else (mM_taken_J61 x2 x3 u)) else (mM_taken_J61 x2 x3 u)
set_option maxRecDepth 100000 in
set_option maxHeartbeats 4000000 in
theorem jM_taken_51 {l : Launch} {D : va_G} {cA : Nat → ClassId} {ad : Nat → Nat} {p : Program} {e : Env} {s : State} {m : MethodId} {args : Array Value} {below : List Frame} {meth : Method} {c : Code} {E : zEt} {r : Int32}  {x2 : Int32} {x3 : Int32} {u : SM} (hI : zInj ad 23) (hC : zC p s m args meth c cX8_taken 4 RX8 zTS D (zTy cA) zA0 E) (hr : meth.sig.returnType = (some .int)) (hm : mM_taken_J51 x2 x3 u = some r) : zG p l e (zRm 2) s m args below meth c 4 D zA0 (MQ below (zQi r zB0 zA0) args s 0 0 zA0) (wM cA ad u) [(2, .int x2), (3, .int x3)] 51 [] := by
  unfold mM_taken_J51 at hm
  refine z_iload_n hC dX8_taken_51 rfl 0 rfl ?_
  refine z_iconst hC dX8_taken_52 kI_2 ?_
  refine z_icmp_ne (tgt := 61) hC hm dX8_taken_53 (by decide) (fun hm => ?_) (fun hm => ?_)
  · refine z_iload_n hC dX8_taken_56 rfl 1 rfl ?_
    refine z_iconst hC dX8_taken_57 kI_5 ?_
    refine z_icmp_eq (tgt := 72) hC hm dX8_taken_58 (by decide) (fun hm => ?_) (fun hm => ?_)
    · refine z_iload_n hC dX8_taken_72 rfl 1 rfl ?_
      refine z_goto (tgt := 78) hC dX8_taken_73 (by decide) ?_
      exact z_iret hC hr rfl dX8_taken_78 (fun _ _ => trivial) (Option.some.inj hm)
    · refine z_lv hC [0, 1] rfl ?_
      exact jM_taken_61 hI hC hr hm
  · refine z_lv hC [0, 1] rfl ?_
    exact jM_taken_61 hI hC hr hm
def mM_taken (x1 : Int32) (x2 : Int32) (u : SM) : Option Int32 :=
  if (mM_in x2 (0 : Int32) (6 : Int32)) = 0 then (some (-2 : Int32)) else (if (mM_isVoice x1 u) = 0 then (some (-11 : Int32)) else (zgi x1 10 (if x2 = 0 then (some ((M_kind u) (x1).toNatClampNeg)) else (if ((M_kind u) (x1).toNatClampNeg) = x2 then (some ((M_kind u) (x1).toNatClampNeg)) else (if x2 = (1 : Int32) then (if ((M_kind u) (x1).toNatClampNeg) = (4 : Int32) then (some ((M_kind u) (x1).toNatClampNeg)) else (mM_taken_J51 x2 ((M_kind u) (x1).toNatClampNeg) u)) else (mM_taken_J51 x2 ((M_kind u) (x1).toNatClampNeg) u))))))
set_option maxRecDepth 100000 in
set_option maxHeartbeats 4000000 in
theorem cM_taken {l : Launch} {D : va_G} {cA : Nat → ClassId} {ad : Nat → Nat} {E : zEt} (hI : zInj ad 23) (x1 : Int32) (x2 : Int32) (u : SM) {r : Int32} (hm : mM_taken x1 x2 u = some r) : Met l yX8_taken (zWs yX8_taken cX8_taken 4 (some .int)) (zRm 2) (va_Pc [.ref (ad 0), .int x1, .int x2] (zPre D (zTy cA) E zA0 (wM cA ad u))) (zQi r zB0 zA0) 0 0 zA0 := by
  refine z_met (lv := [(0, .ref (ad 0)), (1, .int x1), (2, .int x2)]) plX8 rfl rfl (Nat.le_of_ble_eq_true rfl) rfl ?_
  intro p e s m below meth c hC hr hin
  unfold mM_taken at hm
  refine z_aload_n hC dX8_taken_0 rfl 0 rfl ?_
  refine z_iload_n hC dX8_taken_1 rfl 2 rfl ?_
  refine z_iconst hC dX8_taken_2 kI_0 ?_
  refine z_bipush hC dX8_taken_3 kB_6 ?_
  refine xM_X8_150 hI hC (Nat.le_of_ble_eq_true rfl) dX8_taken_5 (Nat.le_of_ble_eq_true rfl) ?_
  refine z_if_ne (tgt := 14) hC hm dX8_taken_8 (by decide) (fun hm => ?_) (fun hm => ?_)
  · refine z_bipush hC dX8_taken_11 kB_m2 ?_
    exact z_iret hC hr rfl dX8_taken_13 (fun _ _ => trivial) (Option.some.inj hm)
  · refine z_aload_n hC dX8_taken_14 rfl 0 rfl ?_
    refine z_iload_n hC dX8_taken_15 rfl 1 rfl ?_
    refine xM_X8_272 hI hC (Nat.le_of_ble_eq_true rfl) dX8_taken_16 (Nat.le_of_ble_eq_true rfl) ?_
    refine z_if_ne (tgt := 25) hC hm dX8_taken_19 (by decide) (fun hm => ?_) (fun hm => ?_)
    · refine z_bipush hC dX8_taken_22 kB_m11 ?_
      exact z_iret hC hr rfl dX8_taken_24 (fun _ _ => trivial) (Option.some.inj hm)
    · refine z_aload_n hC dX8_taken_25 rfl 0 rfl ?_
      refine gM_X8_96_o hC dX8_taken_26 ?_
      refine z_iload_n hC dX8_taken_29 rfl 1 rfl ?_
      refine aM_kind hC hm dX8_taken_30 (fun hm => ?_)
      refine z_istore_n (lv' := [(3, .int ((M_kind u) (x1).toNatClampNeg)), (0, .ref (ad 0)), (1, .int x1), (2, .int x2)]) hC dX8_taken_31 rfl (by decide) rfl ?_
      refine z_iload_n hC dX8_taken_32 rfl 3 rfl ?_
      refine z_if_eq (tgt := 72) hC hm dX8_taken_33 (by decide) (fun hm => ?_) (fun hm => ?_)
      · refine z_iload_n hC dX8_taken_72 rfl 0 rfl ?_
        refine z_goto (tgt := 78) hC dX8_taken_73 (by decide) ?_
        exact z_iret hC hr rfl dX8_taken_78 (fun _ _ => trivial) (Option.some.inj hm)
      · refine z_iload_n hC dX8_taken_36 rfl 0 rfl ?_
        refine z_iload_n hC dX8_taken_37 rfl 3 rfl ?_
        refine z_icmp_eq (tgt := 72) hC hm dX8_taken_38 (by decide) (fun hm => ?_) (fun hm => ?_)
        · refine z_iload_n hC dX8_taken_72 rfl 0 rfl ?_
          refine z_goto (tgt := 78) hC dX8_taken_73 (by decide) ?_
          exact z_iret hC hr rfl dX8_taken_78 (fun _ _ => trivial) (Option.some.inj hm)
        · refine z_iload_n hC dX8_taken_41 rfl 3 rfl ?_
          refine z_iconst hC dX8_taken_42 kI_1 ?_
          refine z_icmp_ne (tgt := 51) hC hm dX8_taken_43 (by decide) (fun hm => ?_) (fun hm => ?_)
          · refine z_iload_n hC dX8_taken_46 rfl 0 rfl ?_
            refine z_iconst hC dX8_taken_47 kI_4 ?_
            refine z_icmp_eq (tgt := 72) hC hm dX8_taken_48 (by decide) (fun hm => ?_) (fun hm => ?_)
            · refine z_iload_n hC dX8_taken_72 rfl 0 rfl ?_
              refine z_goto (tgt := 78) hC dX8_taken_73 (by decide) ?_
              exact z_iret hC hr rfl dX8_taken_78 (fun _ _ => trivial) (Option.some.inj hm)
            · refine z_lv hC [3, 0] rfl ?_
              exact jM_taken_51 hI hC hr hm
          · refine z_lv hC [3, 0] rfl ?_
            exact jM_taken_51 hI hC hr hm
def mM_count (x1 : Int32) (u : SM) : Int32 :=
  if x1 = (0 : Int32) then ((M_seats u)) else (if x1 = (1 : Int32) then ((M_letters u)) else (if x1 = (2 : Int32) then ((M_houses u)) else (if x1 = (3 : Int32) then ((M_voices u)) else (if x1 = (4 : Int32) then ((M_fed u)) else (if x1 = (5 : Int32) then ((M_ran u)) else (if x1 = (6 : Int32) then ((M_mouth u)) else (if x1 = (7 : Int32) then ((M_jaw u)) else ((-2 : Int32)))))))))
set_option maxRecDepth 100000 in
set_option maxHeartbeats 4000000 in
theorem cM_count {l : Launch} {D : va_G} {cA : Nat → ClassId} {ad : Nat → Nat} {E : zEt} (hI : zInj ad 23) (x1 : Int32) (u : SM) {r : Int32} (hm : mM_count x1 u = r) : Met l yX8_count (zWs yX8_count cX8_count 2 (some .int)) (zRm 0) (va_Pc [.ref (ad 0), .int x1] (zPre D (zTy cA) E zA0 (wM cA ad u))) (zQi r zB0 zA0) 0 0 zA0 := by
  refine z_met (lv := [(0, .ref (ad 0)), (1, .int x1)]) plX8 rfl rfl (Nat.le_of_ble_eq_true rfl) rfl ?_
  intro p e s m below meth c hC hr hin
  unfold mM_count at hm
  refine z_iload_n hC dX8_count_0 rfl 1 rfl ?_
  refine z_ite hm (fun h1_0 hm => ?_) (fun h1_0 hm => ?_)
  · refine z_tin hC dX8_count_1 h1_0 kc_0 (by decide) (by decide) (off := 47) rfl (tgt := 48) (by decide) ?_
    refine z_aload_n hC dX8_count_48 rfl 0 rfl ?_
    refine gM_X8_16_o (v := (M_seats u)) hC dX8_count_49 rfl ?_
    exact z_iret hC hr rfl dX8_count_52 (fun _ _ => trivial) hm
  · refine z_ite hm (fun h1_1 hm => ?_) (fun h1_1 hm => ?_)
    · refine z_tin hC dX8_count_1 h1_1 kc_1 (by decide) (by decide) (off := 52) rfl (tgt := 53) (by decide) ?_
      refine z_aload_n hC dX8_count_53 rfl 0 rfl ?_
      refine gM_X8_19_o (v := (M_letters u)) hC dX8_count_54 rfl ?_
      exact z_iret hC hr rfl dX8_count_57 (fun _ _ => trivial) hm
    · refine z_ite hm (fun h1_2 hm => ?_) (fun h1_2 hm => ?_)
      · refine z_tin hC dX8_count_1 h1_2 kc_2 (by decide) (by decide) (off := 57) rfl (tgt := 58) (by decide) ?_
        refine z_aload_n hC dX8_count_58 rfl 0 rfl ?_
        refine gM_X8_39_o (v := (M_houses u)) hC dX8_count_59 rfl ?_
        exact z_iret hC hr rfl dX8_count_62 (fun _ _ => trivial) hm
      · refine z_ite hm (fun h1_3 hm => ?_) (fun h1_3 hm => ?_)
        · refine z_tin hC dX8_count_1 h1_3 kc_3 (by decide) (by decide) (off := 62) rfl (tgt := 63) (by decide) ?_
          refine z_aload_n hC dX8_count_63 rfl 0 rfl ?_
          refine gM_X8_93_o (v := (M_voices u)) hC dX8_count_64 rfl ?_
          exact z_iret hC hr rfl dX8_count_67 (fun _ _ => trivial) hm
        · refine z_ite hm (fun h1_4 hm => ?_) (fun h1_4 hm => ?_)
          · refine z_tin hC dX8_count_1 h1_4 kc_4 (by decide) (by decide) (off := 67) rfl (tgt := 68) (by decide) ?_
            refine z_aload_n hC dX8_count_68 rfl 0 rfl ?_
            refine gM_X8_45_o (v := (M_fed u)) hC dX8_count_69 rfl ?_
            exact z_iret hC hr rfl dX8_count_72 (fun _ _ => trivial) hm
          · refine z_ite hm (fun h1_5 hm => ?_) (fun h1_5 hm => ?_)
            · refine z_tin hC dX8_count_1 h1_5 kc_5 (by decide) (by decide) (off := 72) rfl (tgt := 73) (by decide) ?_
              refine z_aload_n hC dX8_count_73 rfl 0 rfl ?_
              refine gM_X8_131_o (v := (M_ran u)) hC dX8_count_74 rfl ?_
              exact z_iret hC hr rfl dX8_count_77 (fun _ _ => trivial) hm
            · refine z_ite hm (fun h1_6 hm => ?_) (fun h1_6 hm => ?_)
              · refine z_tin hC dX8_count_1 h1_6 kc_6 (by decide) (by decide) (off := 77) rfl (tgt := 78) (by decide) ?_
                refine z_aload_n hC dX8_count_78 rfl 0 rfl ?_
                refine gM_X8_7_o (v := (M_mouth u)) hC dX8_count_79 rfl ?_
                exact z_iret hC hr rfl dX8_count_82 (fun _ _ => trivial) hm
              · refine z_ite hm (fun h1_7 hm => ?_) (fun h1_7 hm => ?_)
                · refine z_tin hC dX8_count_1 h1_7 kc_7 (by decide) (by decide) (off := 82) rfl (tgt := 83) (by decide) ?_
                  refine z_aload_n hC dX8_count_83 rfl 0 rfl ?_
                  refine gM_X8_13_o (v := (M_jaw u)) hC dX8_count_84 rfl ?_
                  exact z_iret hC hr rfl dX8_count_87 (fun _ _ => trivial) hm
                · refine z_tout (n := 8) hC dX8_count_1 (z_allc (z_tneq kc_0 h1_0) (z_allc (z_tneq kc_1 h1_1) (z_allc (z_tneq kc_2 h1_2) (z_allc (z_tneq kc_3 h1_3) (z_allc (z_tneq kc_4 h1_4) (z_allc (z_tneq kc_5 h1_5) (z_allc (z_tneq kc_6 h1_6) (z_allc (z_tneq kc_7 h1_7) z_all0)))))))) (by decide) (tgt := 88) (by decide) ?_
                  refine z_bipush hC dX8_count_88 kB_m2 ?_
                  exact z_iret hC hr rfl dX8_count_90 (fun _ _ => trivial) hm
def M_put_sort_length_item (p : (Nat → Int32) × (Nat → Int32) × (Nat → Int64)) (u : SM) : SM := (u.1, (u.2.1, (u.2.2.1, ((u.2.2.2.1.1, (u.2.2.2.1.2.1, p.1)), (p.2.1, (p.2.2, u.2.2.2.2.2.2))))))
theorem sM_sort {p : Program} {l : Launch} {e : Env} {R : Room} {s : State} {m : MethodId} {args : Array Value} {below : List Frame} {meth : Method} {c : Code} {Q : State → Prop} {D : va_G} {A : Nat → Prop} {cc : ByteArray} {nL : Nat} {lv : List (Nat × Value)} {pc : Nat} {st : List Value} {cA : Nat → ClassId} {ad : Nat → Nat} {E : zEt} {own : String} {u : SM} {i : Int32} {x : Int32} {β : Type} {k : Option β} {r : β} (C : zC p s m args meth c cc nL own zTS D (zTy cA) A E) (hI : zInj ad 23) (hA : ∀ q, zAd ad 23 q → A q) (hm : zgi i 6 k = some r) (hd : decode cc pc = .ok (.iastore, 1)) (g : k = some r → zG p l e R s m args below meth c nL D A Q (wM cA ad (M_set_sort (upd (M_sort u) i.toNatClampNeg x) u)) lv (pc + 1) st) : zG p l e R s m args below meth c nL D A Q (wM cA ad u) lv pc (.int x :: .int i :: .ref (ad 19) :: st) := fun H locs ls hP hS hL => va_iast C.1.1 C.1.2.1 C.2.1 hP (zD_mono (wM_D hI cA u) hA) hS 19 0 (heM_sort cA ad u) rfl (zgi_some hm).1 hd (fun H1 locs1 hP1 _ hS1 => g (zgi_some hm).2 H1 locs1 ls hP1 hS1 hL)
theorem sM_length {p : Program} {l : Launch} {e : Env} {R : Room} {s : State} {m : MethodId} {args : Array Value} {below : List Frame} {meth : Method} {c : Code} {Q : State → Prop} {D : va_G} {A : Nat → Prop} {cc : ByteArray} {nL : Nat} {lv : List (Nat × Value)} {pc : Nat} {st : List Value} {cA : Nat → ClassId} {ad : Nat → Nat} {E : zEt} {own : String} {u : SM} {i : Int32} {x : Int32} {β : Type} {k : Option β} {r : β} (C : zC p s m args meth c cc nL own zTS D (zTy cA) A E) (hI : zInj ad 23) (hA : ∀ q, zAd ad 23 q → A q) (hm : zgi i 6 k = some r) (hd : decode cc pc = .ok (.iastore, 1)) (g : k = some r → zG p l e R s m args below meth c nL D A Q (wM cA ad (M_set_length (upd (M_length u) i.toNatClampNeg x) u)) lv (pc + 1) st) : zG p l e R s m args below meth c nL D A Q (wM cA ad u) lv pc (.int x :: .int i :: .ref (ad 20) :: st) := fun H locs ls hP hS hL => va_iast C.1.1 C.1.2.1 C.2.1 hP (zD_mono (wM_D hI cA u) hA) hS 20 0 (heM_length cA ad u) rfl (zgi_some hm).1 hd (fun H1 locs1 hP1 _ hS1 => g (zgi_some hm).2 H1 locs1 ls hP1 hS1 hL)
theorem sM_item {p : Program} {l : Launch} {e : Env} {R : Room} {s : State} {m : MethodId} {args : Array Value} {below : List Frame} {meth : Method} {c : Code} {Q : State → Prop} {D : va_G} {A : Nat → Prop} {cc : ByteArray} {nL : Nat} {lv : List (Nat × Value)} {pc : Nat} {st : List Value} {cA : Nat → ClassId} {ad : Nat → Nat} {E : zEt} {own : String} {u : SM} {i : Int32} {x : Int64} {β : Type} {k : Option β} {r : β} (C : zC p s m args meth c cc nL own zTS D (zTy cA) A E) (hI : zInj ad 23) (hA : ∀ q, zAd ad 23 q → A q) (hm : zgi i 360 k = some r) (hd : decode cc pc = .ok (.lastore, 1)) (g : k = some r → zG p l e R s m args below meth c nL D A Q (wM cA ad (M_set_item (vp_updL (M_item u) i.toNatClampNeg x) u)) lv (pc + 1) st) : zG p l e R s m args below meth c nL D A Q (wM cA ad u) lv pc (.long x :: .int i :: .ref (ad 21) :: st) := fun H locs ls hP hS hL => va_last C.1.1 C.1.2.1 C.2.1 hP (zD_mono (wM_D hI cA u) hA) hS 21 1 (heM_item cA ad u) rfl (zgi_some hm).1 hd (fun H1 locs1 hP1 _ hS1 => g (zgi_some hm).2 H1 locs1 ls hP1 hS1 hL)
def mM_tape_L69 (x1 : Int32) : Nat → Int32 → SM → Option (Int32 × (Nat → Int32) × (Nat → Int32) × (Nat → Int64))
  | 0, _, _ => none
  | n + 1, x4, u => if (60 : Int32) ≤ x4 then (some ((1 : Int32), ((M_sort u), (M_length u), (M_item u)))) else (zgi (((60 : Int32) * x1) + x4) 360 (mM_tape_L69 x1 n (x4 + (1 : Int32)) (M_put_sort_length_item ((M_sort u), (M_length u), (vp_updL (M_item u) ((((60 : Int32) * x1) + x4)).toNatClampNeg (0 : Int64))) u)))
set_option maxRecDepth 100000 in
set_option maxHeartbeats 4000000 in
theorem lM_tape_69 {l : Launch} {D : va_G} {cA : Nat → ClassId} {ad : Nat → Nat} {p : Program} {e : Env} {s : State} {m : MethodId} {args : Array Value} {below : List Frame} {meth : Method} {c : Code} {E : zEt} {r : Int32} {w' : (Nat → Int32) × (Nat → Int32) × (Nat → Int64)}  {x1 : Int32} (hI : zInj ad 23) (hC : zC p s m args meth c cX8_tape 5 RX8 zTS D (zTy cA) (zAd ad 23) E) (hr : meth.sig.returnType = (some .int)) : ∀ (n : Nat) (x4 : Int32) (u : SM), mM_tape_L69 x1 n x4 u = some (r, w') → zG p l e (zRm 2) s m args below meth c 5 D (zAd ad 23) (MQ below (zQi r (zBw D (wM cA ad (M_put_sort_length_item w' u))) (zAd ad 23)) args s 0 0 (zAd ad 23)) (wM cA ad u) [(0, .ref (ad 0)), (1, .int x1), (4, .int x4)] 69 [] := by
  intro n
  induction n with
  | zero => intro x4 u hm; exact z_none hm
  | succ n ih =>
    intro x4 u hm
    rw [mM_tape_L69] at hm
    refine z_iload hC dX8_tape_69 2 rfl ?_
    refine z_bipush hC dX8_tape_71 kB_60 ?_
    refine z_icmp_ge (tgt := 95) hC hm dX8_tape_73 (by decide) (fun hm => ?_) (fun hm => ?_)
    · refine z_iconst hC dX8_tape_95 kI_1 ?_
      exact riM (fin := fun z => M_put_sort_length_item z u) hC hr rfl dX8_tape_96 hm rfl
    · refine z_aload_n hC dX8_tape_76 rfl 0 rfl ?_
      refine gM_X8_143_o hC dX8_tape_77 ?_
      refine z_bipush hC dX8_tape_80 kB_60 ?_
      refine z_iload_n hC dX8_tape_82 rfl 1 rfl ?_
      refine z_imul hC dX8_tape_83 ?_
      refine z_iload hC dX8_tape_84 2 rfl ?_
      refine z_iadd hC dX8_tape_86 ?_
      refine z_lconst hC dX8_tape_87 kL_0 ?_
      refine sM_item hC hI (fun _ h => h) hm dX8_tape_88 (fun hm => ?_)
      refine zuM (u2 := (M_put_sort_length_item ((M_sort u), (M_length u), (vp_updL (M_item u) ((((60 : Int32) * x1) + x4)).toNatClampNeg (0 : Int64))) u)) rfl ?_
      refine z_iinc (lv' := [(4, .int (x4 + (1 : Int32))), (0, .ref (ad 0)), (1, .int x1)]) (k := 2) (v := (x4 + (1 : Int32))) hC dX8_tape_89 rfl rfl (by decide) rfl ?_
      refine z_goto (tgt := 69) hC dX8_tape_92 (by decide) ?_
      refine z_lv hC [1, 2, 0] rfl ?_
      exact ih _ _ hm
def mM_tape_J44 (x1 : Int32) (x2 : Int32) (x3 : Int32) (u : SM) : Option (Int32 × (Nat → Int32) × (Nat → Int32) × (Nat → Int64)) :=
  zgi x1 6 (if 0 ≤ x2 then (zgi x1 6 (mM_tape_L69 x1 256 (0 : Int32) (M_put_sort_length_item ((upd (M_sort u) (x1).toNatClampNeg x2), (upd (M_length u) (x1).toNatClampNeg x3), (M_item u)) u))) else (zgi x1 6 (mM_tape_L69 x1 256 (0 : Int32) (M_put_sort_length_item ((upd (M_sort u) (x1).toNatClampNeg x2), (upd (M_length u) (x1).toNatClampNeg (0 : Int32)), (M_item u)) u))))
set_option maxRecDepth 100000 in
set_option maxHeartbeats 4000000 in
theorem jM_tape_44 {l : Launch} {D : va_G} {cA : Nat → ClassId} {ad : Nat → Nat} {p : Program} {e : Env} {s : State} {m : MethodId} {args : Array Value} {below : List Frame} {meth : Method} {c : Code} {E : zEt} {r : Int32} {w' : (Nat → Int32) × (Nat → Int32) × (Nat → Int64)}  {x1 : Int32} {x2 : Int32} {x3 : Int32} {u : SM} (hI : zInj ad 23) (hC : zC p s m args meth c cX8_tape 5 RX8 zTS D (zTy cA) (zAd ad 23) E) (hr : meth.sig.returnType = (some .int)) (hm : mM_tape_J44 x1 x2 x3 u = some (r, w')) : zG p l e (zRm 2) s m args below meth c 5 D (zAd ad 23) (MQ below (zQi r (zBw D (wM cA ad (M_put_sort_length_item w' u))) (zAd ad 23)) args s 0 0 (zAd ad 23)) (wM cA ad u) [(0, .ref (ad 0)), (1, .int x1), (2, .int x2), (3, .int x3)] 44 [] := by
  unfold mM_tape_J44 at hm
  refine z_aload_n hC dX8_tape_44 rfl 0 rfl ?_
  refine gM_X8_137_o hC dX8_tape_45 ?_
  refine z_iload_n hC dX8_tape_48 rfl 1 rfl ?_
  refine z_iload_n hC dX8_tape_49 rfl 2 rfl ?_
  refine sM_sort hC hI (fun _ h => h) hm dX8_tape_50 (fun hm => ?_)
  refine zuM (u2 := (M_put_sort_length_item ((upd (M_sort u) (x1).toNatClampNeg x2), (M_length u), (M_item u)) u)) rfl ?_
  refine z_aload_n hC dX8_tape_51 rfl 0 rfl ?_
  refine gM_X8_140_o hC dX8_tape_52 ?_
  refine z_iload_n hC dX8_tape_55 rfl 1 rfl ?_
  refine z_iload_n hC dX8_tape_56 rfl 2 rfl ?_
  refine z_if_ge (tgt := 64) hC hm dX8_tape_57 (by decide) (fun hm => ?_) (fun hm => ?_)
  · refine z_iload_n hC dX8_tape_64 rfl 3 rfl ?_
    refine sM_length hC hI (fun _ h => h) hm dX8_tape_65 (fun hm => ?_)
    refine zuM (u2 := (M_put_sort_length_item ((upd (M_sort u) (x1).toNatClampNeg x2), (upd (M_length u) (x1).toNatClampNeg x3), (M_item u)) u)) rfl ?_
    refine z_iconst hC dX8_tape_66 kI_0 ?_
    refine z_istore (lv' := [(4, .int (0 : Int32)), (0, .ref (ad 0)), (1, .int x1), (2, .int x2), (3, .int x3)]) hC dX8_tape_67 (by decide) rfl ?_
    refine z_lv hC [1, 2, 0] rfl ?_
    exact lM_tape_69 hI hC hr _ _ _ hm
  · refine z_iconst hC dX8_tape_60 kI_0 ?_
    refine z_goto (tgt := 65) hC dX8_tape_61 (by decide) ?_
    refine sM_length hC hI (fun _ h => h) hm dX8_tape_65 (fun hm => ?_)
    refine zuM (u2 := (M_put_sort_length_item ((upd (M_sort u) (x1).toNatClampNeg x2), (upd (M_length u) (x1).toNatClampNeg (0 : Int32)), (M_item u)) u)) rfl ?_
    refine z_iconst hC dX8_tape_66 kI_0 ?_
    refine z_istore (lv' := [(4, .int (0 : Int32)), (0, .ref (ad 0)), (1, .int x1), (2, .int x2), (3, .int x3)]) hC dX8_tape_67 (by decide) rfl ?_
    refine z_lv hC [1, 2, 0] rfl ?_
    exact lM_tape_69 hI hC hr _ _ _ hm
def mM_tape_J33 (x1 : Int32) (x2 : Int32) (x3 : Int32) (u : SM) : Option (Int32 × (Nat → Int32) × (Nat → Int32) × (Nat → Int64)) :=
  if x2 < 0 then (mM_tape_J44 x1 x2 x3 u) else (if 0 ≤ x3 then (mM_tape_J44 x1 x2 x3 u) else (some ((-14 : Int32), ((M_sort u), (M_length u), (M_item u)))))
set_option maxRecDepth 100000 in
set_option maxHeartbeats 4000000 in
theorem jM_tape_33 {l : Launch} {D : va_G} {cA : Nat → ClassId} {ad : Nat → Nat} {p : Program} {e : Env} {s : State} {m : MethodId} {args : Array Value} {below : List Frame} {meth : Method} {c : Code} {E : zEt} {r : Int32} {w' : (Nat → Int32) × (Nat → Int32) × (Nat → Int64)}  {x1 : Int32} {x2 : Int32} {x3 : Int32} {u : SM} (hI : zInj ad 23) (hC : zC p s m args meth c cX8_tape 5 RX8 zTS D (zTy cA) (zAd ad 23) E) (hr : meth.sig.returnType = (some .int)) (hm : mM_tape_J33 x1 x2 x3 u = some (r, w')) : zG p l e (zRm 2) s m args below meth c 5 D (zAd ad 23) (MQ below (zQi r (zBw D (wM cA ad (M_put_sort_length_item w' u))) (zAd ad 23)) args s 0 0 (zAd ad 23)) (wM cA ad u) [(0, .ref (ad 0)), (1, .int x1), (2, .int x2), (3, .int x3)] 33 [] := by
  unfold mM_tape_J33 at hm
  refine z_iload_n hC dX8_tape_33 rfl 2 rfl ?_
  refine z_if_lt (tgt := 44) hC hm dX8_tape_34 (by decide) (fun hm => ?_) (fun hm => ?_)
  · refine z_lv hC [0, 1, 2, 3] rfl ?_
    exact jM_tape_44 hI hC hr hm
  · refine z_iload_n hC dX8_tape_37 rfl 3 rfl ?_
    refine z_if_ge (tgt := 44) hC hm dX8_tape_38 (by decide) (fun hm => ?_) (fun hm => ?_)
    · refine z_lv hC [0, 1, 2, 3] rfl ?_
      exact jM_tape_44 hI hC hr hm
    · refine z_bipush hC dX8_tape_41 kB_m14 ?_
      exact riM (fin := fun z => M_put_sort_length_item z u) hC hr rfl dX8_tape_43 hm rfl
def mM_tape (x1 : Int32) (x2 : Int32) (x3 : Int32) (u : SM) : Option (Int32 × (Nat → Int32) × (Nat → Int32) × (Nat → Int64)) :=
  if (mM_isTape x1) = 0 then (some ((-1 : Int32), ((M_sort u), (M_length u), (M_item u)))) else (if (mM_in x2 (-1 : Int32) (4 : Int32)) = 0 then (some ((-2 : Int32), ((M_sort u), (M_length u), (M_item u)))) else (if x2 < 0 then (mM_tape_J33 x1 x2 x3 u) else (if x3 ≤ (60 : Int32) then (mM_tape_J33 x1 x2 x3 u) else (some ((-2 : Int32), ((M_sort u), (M_length u), (M_item u)))))))
set_option maxRecDepth 100000 in
set_option maxHeartbeats 4000000 in
theorem cM_tape {l : Launch} {D : va_G} {cA : Nat → ClassId} {ad : Nat → Nat} {E : zEt} (hI : zInj ad 23) (x1 : Int32) (x2 : Int32) (x3 : Int32) (u : SM) {r : Int32} {w' : (Nat → Int32) × (Nat → Int32) × (Nat → Int64)} (hm : mM_tape x1 x2 x3 u = some (r, w')) : Met l yX8_tape (zWs yX8_tape cX8_tape 5 (some .int)) (zRm 2) (va_Pc [.ref (ad 0), .int x1, .int x2, .int x3] (zPre D (zTy cA) E (zAd ad 23) (wM cA ad u))) (zQi r (zBw D (wM cA ad (M_put_sort_length_item w' u))) (zAd ad 23)) 0 0 (zAd ad 23) := by
  refine z_met (lv := [(0, .ref (ad 0)), (1, .int x1), (2, .int x2), (3, .int x3)]) plX8 rfl rfl (Nat.le_of_ble_eq_true rfl) rfl ?_
  intro p e s m below meth c hC hr hin
  unfold mM_tape at hm
  refine z_aload_n hC dX8_tape_0 rfl 0 rfl ?_
  refine z_iload_n hC dX8_tape_1 rfl 1 rfl ?_
  refine xM_X8_295 hI hC (Nat.le_of_ble_eq_true rfl) dX8_tape_2 (Nat.le_of_ble_eq_true rfl) ?_
  refine z_if_ne (tgt := 10) hC hm dX8_tape_5 (by decide) (fun hm => ?_) (fun hm => ?_)
  · refine z_iconst hC dX8_tape_8 kI_m1 ?_
    exact riM (fin := fun z => M_put_sort_length_item z u) hC hr rfl dX8_tape_9 hm rfl
  · refine z_aload_n hC dX8_tape_10 rfl 0 rfl ?_
    refine z_iload_n hC dX8_tape_11 rfl 2 rfl ?_
    refine z_iconst hC dX8_tape_12 kI_m1 ?_
    refine z_iconst hC dX8_tape_13 kI_4 ?_
    refine xM_X8_150 hI hC (Nat.le_of_ble_eq_true rfl) dX8_tape_14 (Nat.le_of_ble_eq_true rfl) ?_
    refine z_if_eq (tgt := 30) hC hm dX8_tape_17 (by decide) (fun hm => ?_) (fun hm => ?_)
    · refine z_bipush hC dX8_tape_30 kB_m2 ?_
      exact riM (fin := fun z => M_put_sort_length_item z u) hC hr rfl dX8_tape_32 hm rfl
    · refine z_iload_n hC dX8_tape_20 rfl 2 rfl ?_
      refine z_if_lt (tgt := 33) hC hm dX8_tape_21 (by decide) (fun hm => ?_) (fun hm => ?_)
      · refine z_lv hC [0, 1, 2, 3] rfl ?_
        exact jM_tape_33 hI hC hr hm
      · refine z_iload_n hC dX8_tape_24 rfl 3 rfl ?_
        refine z_bipush hC dX8_tape_25 kB_60 ?_
        refine z_icmp_le (tgt := 33) hC hm dX8_tape_27 (by decide) (fun hm => ?_) (fun hm => ?_)
        · refine z_lv hC [0, 1, 2, 3] rfl ?_
          exact jM_tape_33 hI hC hr hm
        · refine z_bipush hC dX8_tape_30 kB_m2 ?_
          exact riM (fin := fun z => M_put_sort_length_item z u) hC hr rfl dX8_tape_32 hm rfl
def mM_narrow (x1 : Int32) (x2 : Int64) : Int64 :=
  if x1 = 0 then (((((((x2).toInt32)).toInt8.toInt32)).toInt64)) else (if x1 = (1 : Int32) then (((((((x2).toInt32)).toInt16.toInt32)).toInt64)) else (if x1 = (2 : Int32) then (((((x2).toInt32)).toInt64)) else (if x1 = (4 : Int32) then (if (lg_cmp x2 (0 : Int64)) = 0 then ((0 : Int64)) else ((1 : Int64))) else (x2))))
set_option maxRecDepth 100000 in
set_option maxHeartbeats 4000000 in
theorem cM_narrow {l : Launch} {D : va_G} {cA : Nat → ClassId} {ad : Nat → Nat} {E : zEt} (hI : zInj ad 23) (x1 : Int32) (x2 : Int64) (u : SM) {r : Int64} (hm : mM_narrow x1 x2 = r) : Met l yX8_narrow (zWs yX8_narrow cX8_narrow 4 (some .long)) (zRm 0) (va_Pc [.ref (ad 0), .int x1, .long x2] (zPre D (zTy cA) E zA0 (wM cA ad u))) (zQl r zB0 zA0) 0 0 zA0 := by
  refine z_met (lv := [(0, .ref (ad 0)), (1, .int x1), (2, .long x2)]) plX8 rfl rfl (Nat.le_of_ble_eq_true rfl) rfl ?_
  intro p e s m below meth c hC hr hin
  unfold mM_narrow at hm
  refine z_iload_n hC dX8_narrow_0 rfl 1 rfl ?_
  refine z_if_ne (tgt := 11) hC hm dX8_narrow_1 (by decide) (fun hm => ?_) (fun hm => ?_)
  · refine z_lload_n hC dX8_narrow_4 rfl 2 rfl ?_
    refine z_l2i hC dX8_narrow_5 ?_
    refine z_i2b hC dX8_narrow_6 ?_
    refine z_i2l hC dX8_narrow_7 ?_
    refine z_goto (tgt := 54) hC dX8_narrow_8 (by decide) ?_
    exact z_lret hC hr dX8_narrow_54 (fun _ _ => trivial) hm
  · refine z_iload_n hC dX8_narrow_11 rfl 1 rfl ?_
    refine z_iconst hC dX8_narrow_12 kI_1 ?_
    refine z_icmp_ne (tgt := 23) hC hm dX8_narrow_13 (by decide) (fun hm => ?_) (fun hm => ?_)
    · refine z_lload_n hC dX8_narrow_16 rfl 2 rfl ?_
      refine z_l2i hC dX8_narrow_17 ?_
      refine z_i2s hC dX8_narrow_18 ?_
      refine z_i2l hC dX8_narrow_19 ?_
      refine z_goto (tgt := 54) hC dX8_narrow_20 (by decide) ?_
      exact z_lret hC hr dX8_narrow_54 (fun _ _ => trivial) hm
    · refine z_iload_n hC dX8_narrow_23 rfl 1 rfl ?_
      refine z_iconst hC dX8_narrow_24 kI_2 ?_
      refine z_icmp_ne (tgt := 34) hC hm dX8_narrow_25 (by decide) (fun hm => ?_) (fun hm => ?_)
      · refine z_lload_n hC dX8_narrow_28 rfl 2 rfl ?_
        refine z_l2i hC dX8_narrow_29 ?_
        refine z_i2l hC dX8_narrow_30 ?_
        refine z_goto (tgt := 54) hC dX8_narrow_31 (by decide) ?_
        exact z_lret hC hr dX8_narrow_54 (fun _ _ => trivial) hm
      · refine z_iload_n hC dX8_narrow_34 rfl 1 rfl ?_
        refine z_iconst hC dX8_narrow_35 kI_4 ?_
        refine z_icmp_ne (tgt := 53) hC hm dX8_narrow_36 (by decide) (fun hm => ?_) (fun hm => ?_)
        · refine z_lload_n hC dX8_narrow_39 rfl 2 rfl ?_
          refine z_lconst hC dX8_narrow_40 kL_0 ?_
          refine z_lcmp hC dX8_narrow_41 ?_
          refine z_if_eq (tgt := 49) hC hm dX8_narrow_42 (by decide) (fun hm => ?_) (fun hm => ?_)
          · refine z_lconst hC dX8_narrow_49 kL_0 ?_
            refine z_goto (tgt := 54) hC dX8_narrow_50 (by decide) ?_
            exact z_lret hC hr dX8_narrow_54 (fun _ _ => trivial) hm
          · refine z_lconst hC dX8_narrow_45 kL_1 ?_
            refine z_goto (tgt := 54) hC dX8_narrow_46 (by decide) ?_
            exact z_lret hC hr dX8_narrow_54 (fun _ _ => trivial) hm
        · refine z_lload_n hC dX8_narrow_53 rfl 2 rfl ?_
          exact z_lret hC hr dX8_narrow_54 (fun _ _ => trivial) hm
def M_put_item (p : (Nat → Int64)) (u : SM) : SM := (u.1, (u.2.1, (u.2.2.1, (u.2.2.2.1, (u.2.2.2.2.1, (p, u.2.2.2.2.2.2))))))
theorem xM_X8_322 {p : Program} {l : Launch} {e : Env} {s : State} {m : MethodId} {args : Array Value} {below : List Frame} {meth : Method} {c : Code} {Q : State → Prop} {D : va_G} {A : Nat → Prop} {cc : ByteArray} {nL : Nat} {lv : List (Nat × Value)} {pc : Nat} {st : List Value} {cA : Nat → ClassId} {ad : Nat → Nat} {E : zEt} {d : Nat} {x1 : Int32} {x2 : Int64} {u : SM} (hI : zInj ad 23) (C : zC p s m args meth c cc nL RX8 zTS D (zTy cA) A E) (hdm : 0 + 1 ≤ d) (hd : decode cc pc = .ok (.invokevirtual 322, 3)) (h8 : (st.map fun v => v.category).sum ≤ 8) (g : zG p l e (zRm d) s m args below meth c nL D A Q (wM cA ad u) lv (pc + 3) (.long (mM_narrow x1 x2) :: st)) : zG p l e (zRm d) s m args below meth c nL D A Q (wM cA ad u) lv pc (.long x2 :: .int x1 :: .ref (ad 0) :: st) :=
  z_calllV C (cM_narrow hI x1 x2 u rfl) (cwX8_322 C.1.2.2.2.2 rfl rfl ⟨hdm, by have := hdm; simp only [zRm]; omega⟩) hd rfl rfl h8 ⟨_, rfl, rfl⟩ (List.mem_of_getElem? (heM_o cA ad u)) (fun _ h => h) (fun _ h => h.elim) zJ_ro g
def mM_item (x1 : Int32) (x2 : Int32) (x3 : Int64) (u : SM) : Option (Int32 × (Nat → Int64)) :=
  if (mM_isTape x1) = 0 then (some ((-1 : Int32), ((M_item u)))) else (zgi x1 6 (if 0 ≤ ((M_sort u) (x1).toNatClampNeg) then (zgi x1 6 (if (mM_in x2 (0 : Int32) (((M_length u) (x1).toNatClampNeg) - (1 : Int32))) = 0 then (some ((-13 : Int32), ((M_item u)))) else (zgi x1 6 (zgi (((60 : Int32) * x1) + x2) 360 (some ((1 : Int32), ((vp_updL (M_item u) ((((60 : Int32) * x1) + x2)).toNatClampNeg (mM_narrow ((M_sort u) (x1).toNatClampNeg) x3))))))))) else (some ((-11 : Int32), ((M_item u))))))
set_option maxRecDepth 100000 in
set_option maxHeartbeats 4000000 in
theorem cM_item {l : Launch} {D : va_G} {cA : Nat → ClassId} {ad : Nat → Nat} {E : zEt} (hI : zInj ad 23) (x1 : Int32) (x2 : Int32) (x3 : Int64) (u : SM) {r : Int32} {w' : (Nat → Int64)} (hm : mM_item x1 x2 x3 u = some (r, w')) : Met l yX8_item (zWs yX8_item cX8_item 5 (some .int)) (zRm 2) (va_Pc [.ref (ad 0), .int x1, .int x2, .long x3] (zPre D (zTy cA) E (zAd ad 23) (wM cA ad u))) (zQi r (zBw D (wM cA ad (M_put_item w' u))) (zAd ad 23)) 0 0 (zAd ad 23) := by
  refine z_met (lv := [(0, .ref (ad 0)), (1, .int x1), (2, .int x2), (3, .long x3)]) plX8 rfl rfl (Nat.le_of_ble_eq_true rfl) rfl ?_
  intro p e s m below meth c hC hr hin
  unfold mM_item at hm
  refine z_aload_n hC dX8_item_0 rfl 0 rfl ?_
  refine z_iload_n hC dX8_item_1 rfl 1 rfl ?_
  refine xM_X8_295 hI hC (Nat.le_of_ble_eq_true rfl) dX8_item_2 (Nat.le_of_ble_eq_true rfl) ?_
  refine z_if_ne (tgt := 10) hC hm dX8_item_5 (by decide) (fun hm => ?_) (fun hm => ?_)
  · refine z_iconst hC dX8_item_8 kI_m1 ?_
    exact riM (fin := fun z => M_put_item z u) hC hr rfl dX8_item_9 hm rfl
  · refine z_aload_n hC dX8_item_10 rfl 0 rfl ?_
    refine gM_X8_137_o hC dX8_item_11 ?_
    refine z_iload_n hC dX8_item_14 rfl 1 rfl ?_
    refine aM_sort hC hm dX8_item_15 (fun hm => ?_)
    refine z_if_ge (tgt := 22) hC hm dX8_item_16 (by decide) (fun hm => ?_) (fun hm => ?_)
    · refine z_aload_n hC dX8_item_22 rfl 0 rfl ?_
      refine z_iload_n hC dX8_item_23 rfl 2 rfl ?_
      refine z_iconst hC dX8_item_24 kI_0 ?_
      refine z_aload_n hC dX8_item_25 rfl 0 rfl ?_
      refine gM_X8_140_o hC dX8_item_26 ?_
      refine z_iload_n hC dX8_item_29 rfl 1 rfl ?_
      refine aM_length hC hm dX8_item_30 (fun hm => ?_)
      refine z_iconst hC dX8_item_31 kI_1 ?_
      refine z_isub hC dX8_item_32 ?_
      refine xM_X8_150 hI hC (Nat.le_of_ble_eq_true rfl) dX8_item_33 (Nat.le_of_ble_eq_true rfl) ?_
      refine z_if_ne (tgt := 42) hC hm dX8_item_36 (by decide) (fun hm => ?_) (fun hm => ?_)
      · refine z_bipush hC dX8_item_39 kB_m13 ?_
        exact riM (fin := fun z => M_put_item z u) hC hr rfl dX8_item_41 hm rfl
      · refine z_aload_n hC dX8_item_42 rfl 0 rfl ?_
        refine gM_X8_143_o hC dX8_item_43 ?_
        refine z_bipush hC dX8_item_46 kB_60 ?_
        refine z_iload_n hC dX8_item_48 rfl 1 rfl ?_
        refine z_imul hC dX8_item_49 ?_
        refine z_iload_n hC dX8_item_50 rfl 2 rfl ?_
        refine z_iadd hC dX8_item_51 ?_
        refine z_aload_n hC dX8_item_52 rfl 0 rfl ?_
        refine z_aload_n hC dX8_item_53 rfl 0 rfl ?_
        refine gM_X8_137_o hC dX8_item_54 ?_
        refine z_iload_n hC dX8_item_57 rfl 1 rfl ?_
        refine aM_sort hC hm dX8_item_58 (fun hm => ?_)
        refine z_lload_n hC dX8_item_59 rfl 3 rfl ?_
        refine xM_X8_322 hI hC (Nat.le_of_ble_eq_true rfl) dX8_item_60 (Nat.le_of_ble_eq_true rfl) ?_
        refine sM_item hC hI (fun _ h => h) hm dX8_item_63 (fun hm => ?_)
        refine zuM (u2 := (M_put_item ((vp_updL (M_item u) ((((60 : Int32) * x1) + x2)).toNatClampNeg (mM_narrow ((M_sort u) (x1).toNatClampNeg) x3))) u)) rfl ?_
        refine z_iconst hC dX8_item_64 kI_1 ?_
        exact riM (fin := fun z => M_put_item z u) hC hr rfl dX8_item_65 hm rfl
    · refine z_bipush hC dX8_item_19 kB_m11 ?_
      exact riM (fin := fun z => M_put_item z u) hC hr rfl dX8_item_21 hm rfl
def mM_read (x1 : Int32) (x2 : Int32) (u : SM) : Option Int64 :=
  if (mM_isTape x1) = 0 then (some (-9223372036854775808 : Int64)) else (zgi x1 6 (if ((M_sort u) (x1).toNatClampNeg) < 0 then (some (-9223372036854775808 : Int64)) else (zgi x1 6 (if (mM_in x2 (0 : Int32) (((M_length u) (x1).toNatClampNeg) - (1 : Int32))) = 0 then (some (-9223372036854775808 : Int64)) else (zgi (((60 : Int32) * x1) + x2) 360 (some ((M_item u) ((((60 : Int32) * x1) + x2)).toNatClampNeg)))))))
set_option maxRecDepth 100000 in
set_option maxHeartbeats 4000000 in
theorem cM_read {l : Launch} {D : va_G} {cA : Nat → ClassId} {ad : Nat → Nat} {E : zEt} (hI : zInj ad 23) (x1 : Int32) (x2 : Int32) (u : SM) {r : Int64} (hm : mM_read x1 x2 u = some r) : Met l yX8_read (zWs yX8_read cX8_read 3 (some .long)) (zRm 2) (va_Pc [.ref (ad 0), .int x1, .int x2] (zPre D (zTy cA) E zA0 (wM cA ad u))) (zQl r zB0 zA0) 0 0 zA0 := by
  refine z_met (lv := [(0, .ref (ad 0)), (1, .int x1), (2, .int x2)]) plX8 rfl rfl (Nat.le_of_ble_eq_true rfl) rfl ?_
  intro p e s m below meth c hC hr hin
  unfold mM_read at hm
  refine z_aload_n hC dX8_read_0 rfl 0 rfl ?_
  refine z_iload_n hC dX8_read_1 rfl 1 rfl ?_
  refine xM_X8_295 hI hC (Nat.le_of_ble_eq_true rfl) dX8_read_2 (Nat.le_of_ble_eq_true rfl) ?_
  refine z_if_eq (tgt := 34) hC hm dX8_read_5 (by decide) (fun hm => ?_) (fun hm => ?_)
  · refine z_ldc2 hC mcX8_287 dX8_read_34 ?_
    refine z_goto (tgt := 51) hC dX8_read_37 (by decide) ?_
    exact z_lret hC hr dX8_read_51 (fun _ _ => trivial) (Option.some.inj hm)
  · refine z_aload_n hC dX8_read_8 rfl 0 rfl ?_
    refine gM_X8_137_o hC dX8_read_9 ?_
    refine z_iload_n hC dX8_read_12 rfl 1 rfl ?_
    refine aM_sort hC hm dX8_read_13 (fun hm => ?_)
    refine z_if_lt (tgt := 34) hC hm dX8_read_14 (by decide) (fun hm => ?_) (fun hm => ?_)
    · refine z_ldc2 hC mcX8_287 dX8_read_34 ?_
      refine z_goto (tgt := 51) hC dX8_read_37 (by decide) ?_
      exact z_lret hC hr dX8_read_51 (fun _ _ => trivial) (Option.some.inj hm)
    · refine z_aload_n hC dX8_read_17 rfl 0 rfl ?_
      refine z_iload_n hC dX8_read_18 rfl 2 rfl ?_
      refine z_iconst hC dX8_read_19 kI_0 ?_
      refine z_aload_n hC dX8_read_20 rfl 0 rfl ?_
      refine gM_X8_140_o hC dX8_read_21 ?_
      refine z_iload_n hC dX8_read_24 rfl 1 rfl ?_
      refine aM_length hC hm dX8_read_25 (fun hm => ?_)
      refine z_iconst hC dX8_read_26 kI_1 ?_
      refine z_isub hC dX8_read_27 ?_
      refine xM_X8_150 hI hC (Nat.le_of_ble_eq_true rfl) dX8_read_28 (Nat.le_of_ble_eq_true rfl) ?_
      refine z_if_ne (tgt := 40) hC hm dX8_read_31 (by decide) (fun hm => ?_) (fun hm => ?_)
      · refine z_ldc2 hC mcX8_287 dX8_read_34 ?_
        refine z_goto (tgt := 51) hC dX8_read_37 (by decide) ?_
        exact z_lret hC hr dX8_read_51 (fun _ _ => trivial) (Option.some.inj hm)
      · refine z_aload_n hC dX8_read_40 rfl 0 rfl ?_
        refine gM_X8_143_o hC dX8_read_41 ?_
        refine z_bipush hC dX8_read_44 kB_60 ?_
        refine z_iload_n hC dX8_read_46 rfl 1 rfl ?_
        refine z_imul hC dX8_read_47 ?_
        refine z_iload_n hC dX8_read_48 rfl 2 rfl ?_
        refine z_iadd hC dX8_read_49 ?_
        refine aM_item hC hm dX8_read_50 (fun hm => ?_)
        exact z_lret hC hr dX8_read_51 (fun _ _ => trivial) (Option.some.inj hm)
def M_put_item_aside (p : (Nat → Int64) × (Nat → Int64)) (u : SM) : SM := (u.1, (u.2.1, (u.2.2.1, (u.2.2.2.1, (u.2.2.2.2.1, (p.1, p.2))))))
theorem gM_X8_147_o {p : Program} {l : Launch} {e : Env} {R : Room} {s : State} {m : MethodId} {args : Array Value} {below : List Frame} {meth : Method} {c : Code} {Q : State → Prop} {D : va_G} {A : Nat → Prop} {cc : ByteArray} {nL : Nat} {lv : List (Nat × Value)} {pc : Nat} {st : List Value} {cA : Nat → ClassId} {ad : Nat → Nat} {E : zEt} {u : SM} (C : zC p s m args meth c cc nL RX8 zTS D (zTy cA) A E) (hd : decode cc pc = .ok (.getfield 147, 3)) (g : zG p l e R s m args below meth c nL D A Q (wM cA ad u) lv (pc + 3) (.ref (ad 22) :: st)) : zG p l e R s m args below meth c nL D A Q (wM cA ad u) lv pc (.ref (ad 0) :: st) := by
  exact fun H locs ls hP hS hL => va_get (D := D) (ci := 8) (C := RX8) (T := TX8) (N := 45) C.1.1 C.1.2.1 C.1.2.2.2.2 inlX8 C.1.2.2.2.1 C.2.1 hP 0 (heM_o cA ad u) rfl 44 (by decide) (C.1.2.2.2.2 _ mfX8_147) (fun _ h9 => h9) (v := .ref (ad 22)) rfl hd (g H locs ls hP hS hL)
theorem aM_aside {p : Program} {l : Launch} {e : Env} {R : Room} {s : State} {m : MethodId} {args : Array Value} {below : List Frame} {meth : Method} {c : Code} {Q : State → Prop} {D : va_G} {A : Nat → Prop} {cc : ByteArray} {nL : Nat} {lv : List (Nat × Value)} {pc : Nat} {st : List Value} {cA : Nat → ClassId} {ad : Nat → Nat} {E : zEt} {own : String} {u : SM} {i : Int32} {β : Type} {k : Option β} {r : β} (C : zC p s m args meth c cc nL own zTS D (zTy cA) A E) (hm : zgi i 60 k = some r) (hd : decode cc pc = .ok (.laload, 1)) (g : k = some r → zG p l e R s m args below meth c nL D A Q (wM cA ad u) lv (pc + 1) (.long (M_aside u i.toNatClampNeg) :: st)) : zG p l e R s m args below meth c nL D A Q (wM cA ad u) lv pc (.int i :: .ref (ad 22) :: st) := fun H locs ls hP hS hL => va_lald C.1.1 C.1.2.1 C.2.1 hP 22 1 (heM_aside cA ad u) rfl (zgi_some hm).1 hd (g (zgi_some hm).2 H locs ls hP hS hL)
theorem sM_aside {p : Program} {l : Launch} {e : Env} {R : Room} {s : State} {m : MethodId} {args : Array Value} {below : List Frame} {meth : Method} {c : Code} {Q : State → Prop} {D : va_G} {A : Nat → Prop} {cc : ByteArray} {nL : Nat} {lv : List (Nat × Value)} {pc : Nat} {st : List Value} {cA : Nat → ClassId} {ad : Nat → Nat} {E : zEt} {own : String} {u : SM} {i : Int32} {x : Int64} {β : Type} {k : Option β} {r : β} (C : zC p s m args meth c cc nL own zTS D (zTy cA) A E) (hI : zInj ad 23) (hA : ∀ q, zAd ad 23 q → A q) (hm : zgi i 60 k = some r) (hd : decode cc pc = .ok (.lastore, 1)) (g : k = some r → zG p l e R s m args below meth c nL D A Q (wM cA ad (M_set_aside (vp_updL (M_aside u) i.toNatClampNeg x) u)) lv (pc + 1) st) : zG p l e R s m args below meth c nL D A Q (wM cA ad u) lv pc (.long x :: .int i :: .ref (ad 22) :: st) := fun H locs ls hP hS hL => va_last C.1.1 C.1.2.1 C.2.1 hP (zD_mono (wM_D hI cA u) hA) hS 22 1 (heM_aside cA ad u) rfl (zgi_some hm).1 hd (fun H1 locs1 hP1 _ hS1 => g (zgi_some hm).2 H1 locs1 ls hP1 hS1 hL)
def mM_shift_L141 (x3 : Int32) (x4 : Int32) (x5 : Int32) : Nat → Int32 → SM → Option (Int32 × (Nat → Int64) × (Nat → Int64))
  | 0, _, _ => none
  | n + 1, x6, u => if x5 ≤ x6 then (some (x5, ((M_item u), (M_aside u)))) else (zgi x6 60 (zgi ((((60 : Int32) * x3) + x4) + x6) 360 (mM_shift_L141 x3 x4 x5 n (x6 + (1 : Int32)) (M_put_item_aside ((vp_updL (M_item u) (((((60 : Int32) * x3) + x4) + x6)).toNatClampNeg ((M_aside u) (x6).toNatClampNeg)), (M_aside u)) u))))
set_option maxRecDepth 100000 in
set_option maxHeartbeats 4000000 in
theorem lM_shift_141 {l : Launch} {D : va_G} {cA : Nat → ClassId} {ad : Nat → Nat} {p : Program} {e : Env} {s : State} {m : MethodId} {args : Array Value} {below : List Frame} {meth : Method} {c : Code} {E : zEt} {r : Int32} {w' : (Nat → Int64) × (Nat → Int64)}  {x3 : Int32} {x4 : Int32} {x5 : Int32} (hI : zInj ad 23) (hC : zC p s m args meth c cX8_shift 7 RX8 zTS D (zTy cA) (zAd ad 23) E) (hr : meth.sig.returnType = (some .int)) : ∀ (n : Nat) (x6 : Int32) (u : SM), mM_shift_L141 x3 x4 x5 n x6 u = some (r, w') → zG p l e (zRm 2) s m args below meth c 7 D (zAd ad 23) (MQ below (zQi r (zBw D (wM cA ad (M_put_item_aside w' u))) (zAd ad 23)) args s 0 0 (zAd ad 23)) (wM cA ad u) [(0, .ref (ad 0)), (3, .int x3), (4, .int x4), (5, .int x5), (6, .int x6)] 141 [] := by
  intro n
  induction n with
  | zero => intro x6 u hm; exact z_none hm
  | succ n ih =>
    intro x6 u hm
    rw [mM_shift_L141] at hm
    refine z_iload hC dX8_shift_141 4 rfl ?_
    refine z_iload hC dX8_shift_143 3 rfl ?_
    refine z_icmp_ge (tgt := 176) hC hm dX8_shift_145 (by decide) (fun hm => ?_) (fun hm => ?_)
    · refine z_iload hC dX8_shift_176 3 rfl ?_
      exact riM (fin := fun z => M_put_item_aside z u) hC hr rfl dX8_shift_178 hm rfl
    · refine z_aload_n hC dX8_shift_148 rfl 0 rfl ?_
      refine gM_X8_143_o hC dX8_shift_149 ?_
      refine z_bipush hC dX8_shift_152 kB_60 ?_
      refine z_iload_n hC dX8_shift_154 rfl 1 rfl ?_
      refine z_imul hC dX8_shift_155 ?_
      refine z_iload hC dX8_shift_156 2 rfl ?_
      refine z_iadd hC dX8_shift_158 ?_
      refine z_iload hC dX8_shift_159 4 rfl ?_
      refine z_iadd hC dX8_shift_161 ?_
      refine z_aload_n hC dX8_shift_162 rfl 0 rfl ?_
      refine gM_X8_147_o hC dX8_shift_163 ?_
      refine z_iload hC dX8_shift_166 4 rfl ?_
      refine aM_aside hC hm dX8_shift_168 (fun hm => ?_)
      refine sM_item hC hI (fun _ h => h) hm dX8_shift_169 (fun hm => ?_)
      refine zuM (u2 := (M_put_item_aside ((vp_updL (M_item u) (((((60 : Int32) * x3) + x4) + x6)).toNatClampNeg ((M_aside u) (x6).toNatClampNeg)), (M_aside u)) u)) rfl ?_
      refine z_iinc (lv' := [(6, .int (x6 + (1 : Int32))), (0, .ref (ad 0)), (3, .int x3), (4, .int x4), (5, .int x5)]) (k := 4) (v := (x6 + (1 : Int32))) hC dX8_shift_170 rfl rfl (by decide) rfl ?_
      refine z_goto (tgt := 141) hC dX8_shift_173 (by decide) ?_
      refine z_lv hC [1, 2, 3, 4, 0] rfl ?_
      exact ih _ _ hm
def mM_shift_L104 (x1 : Int32) (x2 : Int32) (x3 : Int32) (x4 : Int32) (x5 : Int32) : Nat → Int32 → SM → Option (Int32 × (Nat → Int64) × (Nat → Int64))
  | 0, _, _ => none
  | n + 1, x6, u => if x5 ≤ x6 then (mM_shift_L141 x3 x4 x5 256 (0 : Int32) u) else (zgi ((((60 : Int32) * x1) + x2) + x6) 360 (zgi x6 60 (mM_shift_L104 x1 x2 x3 x4 x5 n (x6 + (1 : Int32)) (M_put_item_aside ((M_item u), (vp_updL (M_aside u) (x6).toNatClampNeg ((M_item u) (((((60 : Int32) * x1) + x2) + x6)).toNatClampNeg))) u))))
set_option maxRecDepth 100000 in
set_option maxHeartbeats 4000000 in
theorem lM_shift_104 {l : Launch} {D : va_G} {cA : Nat → ClassId} {ad : Nat → Nat} {p : Program} {e : Env} {s : State} {m : MethodId} {args : Array Value} {below : List Frame} {meth : Method} {c : Code} {E : zEt} {r : Int32} {w' : (Nat → Int64) × (Nat → Int64)}  {x1 : Int32} {x2 : Int32} {x3 : Int32} {x4 : Int32} {x5 : Int32} (hI : zInj ad 23) (hC : zC p s m args meth c cX8_shift 7 RX8 zTS D (zTy cA) (zAd ad 23) E) (hr : meth.sig.returnType = (some .int)) : ∀ (n : Nat) (x6 : Int32) (u : SM), mM_shift_L104 x1 x2 x3 x4 x5 n x6 u = some (r, w') → zG p l e (zRm 2) s m args below meth c 7 D (zAd ad 23) (MQ below (zQi r (zBw D (wM cA ad (M_put_item_aside w' u))) (zAd ad 23)) args s 0 0 (zAd ad 23)) (wM cA ad u) [(0, .ref (ad 0)), (1, .int x1), (2, .int x2), (3, .int x3), (4, .int x4), (5, .int x5), (6, .int x6)] 104 [] := by
  intro n
  induction n with
  | zero => intro x6 u hm; exact z_none hm
  | succ n ih =>
    intro x6 u hm
    rw [mM_shift_L104] at hm
    refine z_iload hC dX8_shift_104 6 rfl ?_
    refine z_iload hC dX8_shift_106 5 rfl ?_
    refine z_icmp_ge (tgt := 138) hC hm dX8_shift_108 (by decide) (fun hm => ?_) (fun hm => ?_)
    · refine z_iconst hC dX8_shift_138 kI_0 ?_
      refine z_istore (lv' := [(6, .int (0 : Int32)), (0, .ref (ad 0)), (1, .int x1), (2, .int x2), (3, .int x3), (4, .int x4), (5, .int x5)]) hC dX8_shift_139 (by decide) rfl ?_
      refine z_lv hC [1, 4, 5, 6, 0] rfl ?_
      exact lM_shift_141 hI hC hr _ _ _ hm
    · refine z_aload_n hC dX8_shift_111 rfl 0 rfl ?_
      refine gM_X8_147_o hC dX8_shift_112 ?_
      refine z_iload hC dX8_shift_115 6 rfl ?_
      refine z_aload_n hC dX8_shift_117 rfl 0 rfl ?_
      refine gM_X8_143_o hC dX8_shift_118 ?_
      refine z_bipush hC dX8_shift_121 kB_60 ?_
      refine z_iload_n hC dX8_shift_123 rfl 1 rfl ?_
      refine z_imul hC dX8_shift_124 ?_
      refine z_iload_n hC dX8_shift_125 rfl 2 rfl ?_
      refine z_iadd hC dX8_shift_126 ?_
      refine z_iload hC dX8_shift_127 6 rfl ?_
      refine z_iadd hC dX8_shift_129 ?_
      refine aM_item hC hm dX8_shift_130 (fun hm => ?_)
      refine sM_aside hC hI (fun _ h => h) hm dX8_shift_131 (fun hm => ?_)
      refine zuM (u2 := (M_put_item_aside ((M_item u), (vp_updL (M_aside u) (x6).toNatClampNeg ((M_item u) (((((60 : Int32) * x1) + x2) + x6)).toNatClampNeg))) u)) rfl ?_
      refine z_iinc (lv' := [(6, .int (x6 + (1 : Int32))), (0, .ref (ad 0)), (1, .int x1), (2, .int x2), (3, .int x3), (4, .int x4), (5, .int x5)]) (k := 6) (v := (x6 + (1 : Int32))) hC dX8_shift_132 rfl rfl (by decide) rfl ?_
      refine z_goto (tgt := 104) hC dX8_shift_135 (by decide) ?_
      refine z_lv hC [1, 2, 3, 4, 5, 6, 0] rfl ?_
      exact ih _ _ hm
def mM_shift (x1 : Int32) (x2 : Int32) (x3 : Int32) (x4 : Int32) (x5 : Int32) (u : SM) : Option (Int32 × (Nat → Int64) × (Nat → Int64)) :=
  if (mM_isTape x1) = 0 then (some ((-1 : Int32), ((M_item u), (M_aside u)))) else (if (mM_isTape x3) = 0 then (some ((-1 : Int32), ((M_item u), (M_aside u)))) else (zgi x1 6 (if ((M_sort u) (x1).toNatClampNeg) < 0 then (some ((-11 : Int32), ((M_item u), (M_aside u)))) else (zgi x3 6 (if 0 ≤ ((M_sort u) (x3).toNatClampNeg) then (zgi x1 6 (zgi x3 6 (if ((M_sort u) (x1).toNatClampNeg) = ((M_sort u) (x3).toNatClampNeg) then (if x5 < 0 then (some ((-13 : Int32), ((M_item u), (M_aside u)))) else (if x2 < 0 then (some ((-13 : Int32), ((M_item u), (M_aside u)))) else (if x4 < 0 then (some ((-13 : Int32), ((M_item u), (M_aside u)))) else (zgi x1 6 (if (((M_length u) (x1).toNatClampNeg) - x5) < x2 then (some ((-13 : Int32), ((M_item u), (M_aside u)))) else (zgi x3 6 (if x4 ≤ (((M_length u) (x3).toNatClampNeg) - x5) then (mM_shift_L104 x1 x2 x3 x4 x5 256 (0 : Int32) u) else (some ((-13 : Int32), ((M_item u), (M_aside u))))))))))) else (some ((-12 : Int32), ((M_item u), (M_aside u))))))) else (some ((-11 : Int32), ((M_item u), (M_aside u)))))))))
set_option maxRecDepth 100000 in
set_option maxHeartbeats 4000000 in
theorem cM_shift {l : Launch} {D : va_G} {cA : Nat → ClassId} {ad : Nat → Nat} {E : zEt} (hI : zInj ad 23) (x1 : Int32) (x2 : Int32) (x3 : Int32) (x4 : Int32) (x5 : Int32) (u : SM) {r : Int32} {w' : (Nat → Int64) × (Nat → Int64)} (hm : mM_shift x1 x2 x3 x4 x5 u = some (r, w')) : Met l yX8_shift (zWs yX8_shift cX8_shift 7 (some .int)) (zRm 2) (va_Pc [.ref (ad 0), .int x1, .int x2, .int x3, .int x4, .int x5] (zPre D (zTy cA) E (zAd ad 23) (wM cA ad u))) (zQi r (zBw D (wM cA ad (M_put_item_aside w' u))) (zAd ad 23)) 0 0 (zAd ad 23) := by
  refine z_met (lv := [(0, .ref (ad 0)), (1, .int x1), (2, .int x2), (3, .int x3), (4, .int x4), (5, .int x5)]) plX8 rfl rfl (Nat.le_of_ble_eq_true rfl) rfl ?_
  intro p e s m below meth c hC hr hin
  unfold mM_shift at hm
  refine z_aload_n hC dX8_shift_0 rfl 0 rfl ?_
  refine z_iload_n hC dX8_shift_1 rfl 1 rfl ?_
  refine xM_X8_295 hI hC (Nat.le_of_ble_eq_true rfl) dX8_shift_2 (Nat.le_of_ble_eq_true rfl) ?_
  refine z_if_eq (tgt := 16) hC hm dX8_shift_5 (by decide) (fun hm => ?_) (fun hm => ?_)
  · refine z_iconst hC dX8_shift_16 kI_m1 ?_
    exact riM (fin := fun z => M_put_item_aside z u) hC hr rfl dX8_shift_17 hm rfl
  · refine z_aload_n hC dX8_shift_8 rfl 0 rfl ?_
    refine z_iload_n hC dX8_shift_9 rfl 3 rfl ?_
    refine xM_X8_295 hI hC (Nat.le_of_ble_eq_true rfl) dX8_shift_10 (Nat.le_of_ble_eq_true rfl) ?_
    refine z_if_ne (tgt := 18) hC hm dX8_shift_13 (by decide) (fun hm => ?_) (fun hm => ?_)
    · refine z_iconst hC dX8_shift_16 kI_m1 ?_
      exact riM (fin := fun z => M_put_item_aside z u) hC hr rfl dX8_shift_17 hm rfl
    · refine z_aload_n hC dX8_shift_18 rfl 0 rfl ?_
      refine gM_X8_137_o hC dX8_shift_19 ?_
      refine z_iload_n hC dX8_shift_22 rfl 1 rfl ?_
      refine aM_sort hC hm dX8_shift_23 (fun hm => ?_)
      refine z_if_lt (tgt := 36) hC hm dX8_shift_24 (by decide) (fun hm => ?_) (fun hm => ?_)
      · refine z_bipush hC dX8_shift_36 kB_m11 ?_
        exact riM (fin := fun z => M_put_item_aside z u) hC hr rfl dX8_shift_38 hm rfl
      · refine z_aload_n hC dX8_shift_27 rfl 0 rfl ?_
        refine gM_X8_137_o hC dX8_shift_28 ?_
        refine z_iload_n hC dX8_shift_31 rfl 3 rfl ?_
        refine aM_sort hC hm dX8_shift_32 (fun hm => ?_)
        refine z_if_ge (tgt := 39) hC hm dX8_shift_33 (by decide) (fun hm => ?_) (fun hm => ?_)
        · refine z_aload_n hC dX8_shift_39 rfl 0 rfl ?_
          refine gM_X8_137_o hC dX8_shift_40 ?_
          refine z_iload_n hC dX8_shift_43 rfl 1 rfl ?_
          refine aM_sort hC hm dX8_shift_44 (fun hm => ?_)
          refine z_aload_n hC dX8_shift_45 rfl 0 rfl ?_
          refine gM_X8_137_o hC dX8_shift_46 ?_
          refine z_iload_n hC dX8_shift_49 rfl 3 rfl ?_
          refine aM_sort hC hm dX8_shift_50 (fun hm => ?_)
          refine z_icmp_eq (tgt := 57) hC hm dX8_shift_51 (by decide) (fun hm => ?_) (fun hm => ?_)
          · refine z_iload hC dX8_shift_57 5 rfl ?_
            refine z_if_lt (tgt := 98) hC hm dX8_shift_59 (by decide) (fun hm => ?_) (fun hm => ?_)
            · refine z_bipush hC dX8_shift_98 kB_m13 ?_
              exact riM (fin := fun z => M_put_item_aside z u) hC hr rfl dX8_shift_100 hm rfl
            · refine z_iload_n hC dX8_shift_62 rfl 2 rfl ?_
              refine z_if_lt (tgt := 98) hC hm dX8_shift_63 (by decide) (fun hm => ?_) (fun hm => ?_)
              · refine z_bipush hC dX8_shift_98 kB_m13 ?_
                exact riM (fin := fun z => M_put_item_aside z u) hC hr rfl dX8_shift_100 hm rfl
              · refine z_iload hC dX8_shift_66 4 rfl ?_
                refine z_if_lt (tgt := 98) hC hm dX8_shift_68 (by decide) (fun hm => ?_) (fun hm => ?_)
                · refine z_bipush hC dX8_shift_98 kB_m13 ?_
                  exact riM (fin := fun z => M_put_item_aside z u) hC hr rfl dX8_shift_100 hm rfl
                · refine z_iload_n hC dX8_shift_71 rfl 2 rfl ?_
                  refine z_aload_n hC dX8_shift_72 rfl 0 rfl ?_
                  refine gM_X8_140_o hC dX8_shift_73 ?_
                  refine z_iload_n hC dX8_shift_76 rfl 1 rfl ?_
                  refine aM_length hC hm dX8_shift_77 (fun hm => ?_)
                  refine z_iload hC dX8_shift_78 5 rfl ?_
                  refine z_isub hC dX8_shift_80 ?_
                  refine z_icmp_gt (tgt := 98) hC hm dX8_shift_81 (by decide) (fun hm => ?_) (fun hm => ?_)
                  · refine z_bipush hC dX8_shift_98 kB_m13 ?_
                    exact riM (fin := fun z => M_put_item_aside z u) hC hr rfl dX8_shift_100 hm rfl
                  · refine z_iload hC dX8_shift_84 4 rfl ?_
                    refine z_aload_n hC dX8_shift_86 rfl 0 rfl ?_
                    refine gM_X8_140_o hC dX8_shift_87 ?_
                    refine z_iload_n hC dX8_shift_90 rfl 3 rfl ?_
                    refine aM_length hC hm dX8_shift_91 (fun hm => ?_)
                    refine z_iload hC dX8_shift_92 5 rfl ?_
                    refine z_isub hC dX8_shift_94 ?_
                    refine z_icmp_le (tgt := 101) hC hm dX8_shift_95 (by decide) (fun hm => ?_) (fun hm => ?_)
                    · refine z_iconst hC dX8_shift_101 kI_0 ?_
                      refine z_istore (lv' := [(6, .int (0 : Int32)), (0, .ref (ad 0)), (1, .int x1), (2, .int x2), (3, .int x3), (4, .int x4), (5, .int x5)]) hC dX8_shift_102 (by decide) rfl ?_
                      refine z_lv hC [1, 2, 3, 4, 5, 6, 0] rfl ?_
                      exact lM_shift_104 hI hC hr _ _ _ hm
                    · refine z_bipush hC dX8_shift_98 kB_m13 ?_
                      exact riM (fin := fun z => M_put_item_aside z u) hC hr rfl dX8_shift_100 hm rfl
          · refine z_bipush hC dX8_shift_54 kB_m12 ?_
            exact riM (fin := fun z => M_put_item_aside z u) hC hr rfl dX8_shift_56 hm rfl
        · refine z_bipush hC dX8_shift_36 kB_m11 ?_
          exact riM (fin := fun z => M_put_item_aside z u) hC hr rfl dX8_shift_38 hm rfl
