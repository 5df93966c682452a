/-! 08.L3: the start of the law; by wip/whole/gen/genL3.py -/
theorem y_newL_7 {p : Program} {l : Launch} {e : Env} {R : Room} {s : State} {m : MethodId} {args : Array Value} {below : List Frame} {meth : Method} {c : Code} {Q : State → Prop} {D : va_G} {A : Nat → Prop} {cc : ByteArray} {nL : Nat} {lv : List (Nat × Value)} {pc : Nat} {st : List Value} {cA : Nat → ClassId} {E : zEt} {k9 n9 : Nat} {ws : va_W} (C : zC p s m args meth c cc nL RL zTS D (zTy cA) A E) (hA : ∀ q, s.heap.size ≤ q → A q) (hc : k9 + 1 ≤ R.cells) (hs : n9 + 16 ≤ R.slots) (hd : decode cc pc = .ok (.new 7, 3)) (g : ∀ q : Nat, yG p l e R s m args below meth c nL D A Q (k9 + 1) (n9 + 16) (ws ++ [(q, .inr (7, [.null, .null, .int 0, .null, .null, .int 0, .null, .int 0, .null, .int 0, .null, .null, .int 0, .null, .null, .null]))]) lv (pc + 3) (.ref q :: st)) : yG p l e R s m args below meth c nL D A Q k9 n9 ws lv pc st := fun H locs ls hP hDD hS hL => va_new (ci := 7) (fs := [.null, .null, .int 0, .null, .null, .int 0, .null, .int 0, .null, .int 0, .null, .null, .int 0, .null, .null, .null]) (C := RX7) (T := TX7) (N := 16) C.1.1 C.1.2.1 C.1.2.2.2.2 inlX7 tyX7 tyX7_ok C.1.2.2.2.1 (C.1.2.2.2.2 _ (zMem 108 (by decide +kernel) rfl)) (C.1.2.2.2.2 _ (zMem 109 (by decide +kernel) rfl)) (C.1.2.2.2.2 _ (zMem 91 (by decide +kernel) rfl)) C.2.1 hP hDD hS hA rfl (fun j hj => by
  have : j = 0 ∨ j = 1 ∨ j = 2 ∨ j = 3 ∨ j = 4 ∨ j = 5 ∨ j = 6 ∨ j = 7 ∨ j = 8 ∨ j = 9 ∨ j = 10 ∨ j = 11 ∨ j = 12 ∨ j = 13 ∨ j = 14 ∨ j = 15 := by omega
  rcases this with rfl | rfl | rfl | rfl | rfl | rfl | rfl | rfl | rfl | rfl | rfl | rfl | rfl | rfl | rfl | rfl <;> rfl) hc hs hd (fun q H1 hP1 hD1 hS1 => g q H1 locs ls hP1 hD1 hS1 hL)
theorem y_newL_10 {p : Program} {l : Launch} {e : Env} {R : Room} {s : State} {m : MethodId} {args : Array Value} {below : List Frame} {meth : Method} {c : Code} {Q : State → Prop} {D : va_G} {A : Nat → Prop} {cc : ByteArray} {nL : Nat} {lv : List (Nat × Value)} {pc : Nat} {st : List Value} {cA : Nat → ClassId} {E : zEt} {k9 n9 : Nat} {ws : va_W} (C : zC p s m args meth c cc nL RL zTS D (zTy cA) A E) (hA : ∀ q, s.heap.size ≤ q → A q) (hc : k9 + 1 ≤ R.cells) (hs : n9 + 45 ≤ R.slots) (hd : decode cc pc = .ok (.new 10, 3)) (g : ∀ q : Nat, yG p l e R s m args below meth c nL D A Q (k9 + 1) (n9 + 45) (ws ++ [(q, .inr (8, [.int 0, .int 0, .int 0, .int 0, .int 0, .long 0, .null, .null, .null, .int 0, .int 0, .int 0, .int 0, .int 0, .null, .null, .null, .null, .null, .null, .null, .null, .null, .int 0, .int 0, .int 0, .null, .int 0, .null, .null, .null, .int 0, .int 0, .int 0, .int 0, .int 0, .int 0, .long 0, .null, .int 0, .null, .null, .null, .null, .null]))]) lv (pc + 3) (.ref q :: st)) : yG p l e R s m args below meth c nL D A Q k9 n9 ws lv pc st := fun H locs ls hP hDD hS hL => va_new (ci := 8) (fs := [.int 0, .int 0, .int 0, .int 0, .int 0, .long 0, .null, .null, .null, .int 0, .int 0, .int 0, .int 0, .int 0, .null, .null, .null, .null, .null, .null, .null, .null, .null, .int 0, .int 0, .int 0, .null, .int 0, .null, .null, .null, .int 0, .int 0, .int 0, .int 0, .int 0, .int 0, .long 0, .null, .int 0, .null, .null, .null, .null, .null]) (C := RX8) (T := TX8) (N := 45) C.1.1 C.1.2.1 C.1.2.2.2.2 inlX8 tyX8 tyX8_ok C.1.2.2.2.1 (C.1.2.2.2.2 _ (zMem 918 (by decide +kernel) rfl)) (C.1.2.2.2.2 _ (zMem 919 (by decide +kernel) rfl)) (C.1.2.2.2.2 _ (zMem 98 (by decide +kernel) rfl)) C.2.1 hP hDD hS hA rfl (fun j hj => by
  have : j = 0 ∨ j = 1 ∨ j = 2 ∨ j = 3 ∨ j = 4 ∨ j = 5 ∨ j = 6 ∨ j = 7 ∨ j = 8 ∨ j = 9 ∨ j = 10 ∨ j = 11 ∨ j = 12 ∨ j = 13 ∨ j = 14 ∨ j = 15 ∨ j = 16 ∨ j = 17 ∨ j = 18 ∨ j = 19 ∨ j = 20 ∨ j = 21 ∨ j = 22 ∨ j = 23 ∨ j = 24 ∨ j = 25 ∨ j = 26 ∨ j = 27 ∨ j = 28 ∨ j = 29 ∨ j = 30 ∨ j = 31 ∨ j = 32 ∨ j = 33 ∨ j = 34 ∨ j = 35 ∨ j = 36 ∨ j = 37 ∨ j = 38 ∨ j = 39 ∨ j = 40 ∨ j = 41 ∨ j = 42 ∨ j = 43 ∨ j = 44 := by omega
  rcases this with rfl | rfl | rfl | rfl | rfl | rfl | rfl | rfl | rfl | rfl | rfl | rfl | rfl | rfl | rfl | rfl | rfl | rfl | rfl | rfl | rfl | rfl | rfl | rfl | rfl | rfl | rfl | rfl | rfl | rfl | rfl | rfl | rfl | rfl | rfl | rfl | rfl | rfl | rfl | rfl | rfl | rfl | rfl | rfl | rfl <;> rfl) hc hs hd (fun q H1 hP1 hD1 hS1 => g q H1 locs ls hP1 hD1 hS1 hL)
theorem ccL_9 {R : Room} {s : State} {args : Array Value} (ht : ∀ w ∈ zTS, w.before args s = true) {rm : Room} (hc : rm.cells = 69) (hs : rm.slots = 1624) (hR : rm.frames + 1 ≤ R.frames ∧ 8 + (2 + 11) + rm.locals ≤ R.locals) : CallB R s args RL 9 yX7_init cX7_init 2 none (zWs yX7_init cX7_init 2 none) rm 69 1624 0 ∧ yX7_init.name = "<init>" ∧ (Cond.instanceMethod yX7_init).before args s = true := ⟨callB_of 0 ht (zGoodIn (zMem 112 (by decide +kernel) rfl)) rfl hc hs (ht _ (zMem 91 (by decide +kernel) rfl)) (ht _ (zMem 110 (by decide +kernel) rfl)) (by decide +kernel) hR, rfl, ht _ (zMem 111 (by decide +kernel) rfl)⟩
theorem ccL_12 {R : Room} {s : State} {args : Array Value} (ht : ∀ w ∈ zTS, w.before args s = true) {rm : Room} (hc : rm.cells = 22) (hs : rm.slots = 1603) (hR : rm.frames + 1 ≤ R.frames ∧ 8 + (1 + 11) + rm.locals ≤ R.locals) : CallB R s args RL 12 yX8_init cX8_init 1 none (zWs yX8_init cX8_init 1 none) rm 22 1603 0 ∧ yX8_init.name = "<init>" ∧ (Cond.instanceMethod yX8_init).before args s = true := ⟨callB_of 0 ht (zGoodIn (zMem 922 (by decide +kernel) rfl)) rfl hc hs (ht _ (zMem 98 (by decide +kernel) rfl)) (ht _ (zMem 920 (by decide +kernel) rfl)) (by decide +kernel) hR, rfl, ht _ (zMem 921 (by decide +kernel) rfl)⟩
/-- addresses for the voices to come -/
theorem LF_new {N : Nat} {D : va_G} {cA : Nat → ClassId} {ad adm : Nat → Nat} {vT vH vA : Value} {v : SM} {H : Heap} (hN : N ≤ H.size) (hP : va_P D vwCl (wV cA ad vT vH vA V_u0 ++ wM cA adm v) H) (hD : va_D (fun q => N ≤ q) (wV cA ad vT vH vA V_u0 ++ wM cA adm v)) : ∃ ad', (LF ad' adm N ∧ ad' 0 = ad 0) ∧ va_P D vwCl (wV cA ad' vT vH vA V_u0 ++ wM cA adm v) H := by
  have hfst : (wV cA ad vT vH vA V_u0 ++ wM cA adm v).map Prod.fst = (List.range 93).map (fun i => if i < 70 then ad i else adm (i - 70)) := by
    rw [List.map_append, wV_fst, V_nv0]
    rfl
  obtain ⟨hI, hA⟩ := zD_inj hfst hD
  have hlt : ∀ i, i < 93 → (fun i => if i < 70 then ad i else adm (i - 70)) i < H.size := by
    intro i hi
    have hf : ((wV cA ad vT vH vA V_u0 ++ wM cA adm v).map Prod.fst)[i]? = some ((fun i => if i < 70 then ad i else adm (i - 70)) i) := by
      rw [hfst, List.getElem?_map, List.getElem?_range hi]
      rfl
    rw [List.getElem?_map] at hf
    cases hz : (wV cA ad vT vH vA V_u0 ++ wM cA adm v)[i]? with
    | none => rw [hz] at hf; cases hf
    | some z => rw [hz] at hf; rw [← Option.some.inj hf]; exact (hP i z hz).lt
  have eV : ∀ i, i < 70 → (fun i => if i < 70 then ad i else adm (i - 70)) i = ad i := fun i hi => if_pos hi
  have eM : ∀ i, (fun i => if i < 70 then ad i else adm (i - 70)) (70 + i) = adm i := fun i => by
    show (if 70 + i < 70 then _ else adm (70 + i - 70)) = adm i
    rw [if_neg (by omega), Nat.add_sub_cancel_left]
  have lV : ∀ i, i < 70 → ad i < H.size := fun i hi => eV i hi ▸ hlt i (by omega)
  have lM : ∀ i, i < 23 → adm i < H.size := fun i hi => eM i ▸ hlt (70 + i) (by omega)
  have gV : ∀ i, i < 70 → N ≤ ad i := fun i hi => hA _ ⟨i, by omega, (eV i hi).symm⟩
  have gM : ∀ i, i < 23 → N ≤ adm i := fun i hi => hA _ ⟨70 + i, by omega, (eM i).symm⟩
  let ad' : Nat → Nat := fun i => if i < 70 then ad i else H.size + i
  have e1 : ∀ i, i < 70 → ad' i = ad i := fun i hi => if_pos hi
  have e2 : ∀ i, ¬ i < 70 → ad' i = H.size + i := fun i hi => if_neg hi
  refine ⟨ad', ⟨⟨fun i j hi hj hij => ?_, fun i j hi hj hij => ?_, fun j hj => ?_, gM, fun j k hj hk => ?_⟩, e1 0 (by omega)⟩, ?_⟩
  · by_cases hi1 : i < 70 <;> by_cases hj1 : j < 70
    · rw [e1 i hi1, e1 j hj1] at hij
      exact hI i j (by omega) (by omega) ((eV i hi1).trans (hij.trans (eV j hj1).symm))
    · rw [e1 i hi1, e2 j hj1] at hij; have := lV i hi1; omega
    · rw [e2 i hi1, e1 j hj1] at hij; have := lV j hj1; omega
    · rw [e2 i hi1, e2 j hj1] at hij; omega
  · have := hI (70 + i) (70 + j) (by omega) (by omega) ((eM i).trans (hij.trans (eM j).symm))
    omega
  · by_cases hj1 : j < 70
    · rw [e1 j hj1]; exact gV j hj1
    · rw [e2 j hj1]; omega
  · by_cases hj1 : j < 70
    · rw [e1 j hj1]
      intro h
      have := hI j (70 + k) (by omega) (by omega) ((eV j hj1).trans (h.trans (eM k).symm))
      omega
    · rw [e2 j hj1]; have := lM k hk; omega
  · exact va_P.app (zV_re (fun i hi => e1 i (by rw [V_nv0] at hi; exact hi)) (zP_sub hP (fun _ h => List.mem_append_left _ h))) (zP_sub hP (fun _ h => List.mem_append_right _ h))
theorem law_start {p : Program} {l : Launch} {e : Env} {s : State} {m : MethodId} {below : List Frame} {meth : Method} {c : Code} {D : va_G} {cA : Nat → ClassId} {tK tB : Nat} {kS vS : Nat → Nat} {b L : Nat} {xs : Nat → Int32} {Rel : SV → SM → Prop} (hC : zC p s m #[Value.ref b] meth c code 4 RL zTS D (zTy cA) (fun q => s.heap.size ≤ q) (zE tK tB kS vS)) (hr : meth.sig.returnType = ret) (hX : va_X b L xs s s.heap) (hbl : b < s.heap.size) (hL : L ≤ 3072) (hs : zSim Rel) (h0 : Rel V_u0 M_u0) : yG p l e room_1 s m #[Value.ref b] below meth c 4 D (fun q => s.heap.size ≤ q) (lw_Z below #[Value.ref b] s) 0 0 [] [(0, .ref b)] 0 [] := by
  have hA : ∀ q, s.heap.size ≤ q → s.heap.size ≤ q := fun _ h => h
  refine y_newL_7 hC hA (Nat.le_of_ble_eq_true rfl) (Nat.le_of_ble_eq_true rfl) dL_law_0 (fun q1 => ?_)
  refine y_dup hC dL_law_3 rfl ?_
  refine y_ctorI (As := []) (wr := []) hC hA (fun sz => cV_init (cA := cA) _ sz) (ccL_9 hC.1.2.2.2.2 (rm := zRmA 2 69 1624) rfl rfl ⟨Nat.le_of_ble_eq_true rfl, Nat.le_of_ble_eq_true rfl⟩) dL_law_4 rfl rfl (Nat.le_of_ble_eq_true rfl) ⟨Nat.le_of_ble_eq_true rfl, Nat.le_of_ble_eq_true rfl⟩ (fun ad e1 => ?_)
  subst e1
  refine y_astore_n (lv' := [(1, .ref (ad 0)), (0, .ref b)]) hC dL_law_7 rfl (by decide) rfl ?_
  refine y_newL_10 hC hA (Nat.le_of_ble_eq_true rfl) (Nat.le_of_ble_eq_true rfl) dL_law_8 (fun q2 => ?_)
  refine y_dup hC dL_law_11 rfl ?_
  refine y_ctorI (As := []) (wr := wV cA ad .null .null .null V_u0) hC hA (fun sz => cM_init (cA := cA) _ sz) (ccL_12 hC.1.2.2.2.2 (rm := zRmA 1 22 1603) rfl rfl ⟨Nat.le_of_ble_eq_true rfl, Nat.le_of_ble_eq_true rfl⟩) dL_law_12 rfl rfl (Nat.le_of_ble_eq_true rfl) ⟨Nat.le_of_ble_eq_true rfl, Nat.le_of_ble_eq_true rfl⟩ (fun adm e2 => ?_)
  subst e2
  refine y_astore_n (lv' := [(2, .ref (adm 0)), (1, .ref (ad 0)), (0, .ref b)]) hC dL_law_15 rfl (by decide) rfl ?_
  refine y_iconst hC dL_law_16 kI_0 ?_
  refine y_istore_n (lv' := [(3, .int 0), (2, .ref (adm 0)), (1, .ref (ad 0)), (0, .ref b)]) hC dL_law_17 rfl (by decide) rfl ?_
  refine y_lv hC [3, 2, 1, 0] rfl ?_
  intro H locs ls hP hDD hS hL'
  obtain ⟨ad', ⟨F, e⟩, hP'⟩ := LF_new hS.1 hP hDD
  rw [← e] at hL'
  refine W.widen (k := 1000) (n := 100000) (Nat.le_of_ble_eq_true rfl) (Nat.le_of_ble_eq_true rfl) ?_
  exact law_loop hC hr hX hbl hL hs 513 0 1000 100000 ad' .null .null .null V_u0 M_u0 (by omega) (by omega) (by omega) (by omega) F h0 H locs ls hP' (LF_D F) hS hL' 
