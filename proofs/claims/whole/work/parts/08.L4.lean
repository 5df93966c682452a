/-! 08.L4: what the start knows; by wip/whole/gen/genL4.py -/
theorem zArr_prim {args : Array Value} {s : State} {ty : FieldType} (h : (Cond.arrayClass ty).before args s = true) (hra : ∀ c, s.vm.findClass ("[" ++ ty.toString) = some c → va_RA s c ty) : ∃ cA, ArrOfT s cA ty ∧ va_RA s cA ty := by
  obtain ⟨c, k, comp, h1, h2, h3⟩ := Cond.arrayClass_spec h
  exact ⟨c, fun N z => ⟨(fun k h => by cases h), k, h2, comp, h3⟩, hra c h1⟩
theorem zArr_obj {args : Array Value} {s : State} {C : String} (h : (Cond.arrayOver (.object C)).before args s = true) : ∃ cA, ArrOfT s cA (.object C) ∧ va_RA s cA (.object C) := by
  obtain ⟨comp, c, k, h1, h2, h3, h4, h5⟩ := Cond.arrayOver_spec h
  exact ⟨c, fun N z => ⟨(fun k h => by cases h), k, h3, comp, h4⟩, k, comp, h3, h4, h1, h5⟩
theorem law_K {args : Array Value} {s : State} (ht : ∀ w ∈ zTS, w.before args s = true) (hO : ∀ C ∈ ["FarVoice$House", "FarVoice$Tape", "FarVoice$Voice"], (Cond.arrayOver (.object C)).before args s = true) : ∃ (D : va_G) (cA : Nat → ClassId), va_K D vwCl (zTy cA) s := by
  obtain ⟨c0, i0, k0⟩ := u_known ht inlX0 (n := 3) (C := RX0) (T := TX0) (N := 3) (ht _ (zMem 177 (by decide +kernel) rfl))
  obtain ⟨c1, i1, k1⟩ := u_known ht inlX1 (n := 9) (C := RX1) (T := TX1) (N := 9) (ht _ (zMem 234 (by decide +kernel) rfl))
  obtain ⟨c2, i2, k2⟩ := u_known ht inlX2 (n := 8) (C := RX2) (T := TX2) (N := 8) (ht _ (zMem 197 (by decide +kernel) rfl))
  obtain ⟨c3, i3, k3⟩ := u_known ht inlX3 (n := 4) (C := RX3) (T := TX3) (N := 4) (ht _ (zMem 155 (by decide +kernel) rfl))
  obtain ⟨c4, i4, k4⟩ := u_known ht inlX4 (n := 7) (C := RX4) (T := TX4) (N := 7) (ht _ (zMem 117 (by decide +kernel) rfl))
  obtain ⟨c5, i5, k5⟩ := u_known ht inlX5 (n := 3) (C := RX5) (T := TX5) (N := 3) (ht _ (zMem 275 (by decide +kernel) rfl))
  obtain ⟨c6, i6, k6⟩ := u_known ht inlX6 (n := 3) (C := RX6) (T := TX6) (N := 3) (ht _ (zMem 597 (by decide +kernel) rfl))
  obtain ⟨c7, i7, k7⟩ := u_known ht inlX7 (n := 16) (C := RX7) (T := TX7) (N := 16) (ht _ (zMem 109 (by decide +kernel) rfl))
  obtain ⟨c8, i8, k8⟩ := u_known ht inlX8 (n := 45) (C := RX8) (T := TX8) (N := 45) (ht _ (zMem 919 (by decide +kernel) rfl))
  obtain ⟨a0, r0⟩ := zArr_prim (ht _ zm_ac0) (fun _ h => h)
  obtain ⟨a1, r1⟩ := zArr_prim (ht _ zm_ac1) (fun _ h => h)
  obtain ⟨a2, r2⟩ := zArr_prim (ht _ zm_ac2) (fun _ h => h)
  obtain ⟨a3, r3⟩ := zArr_prim (ht _ zm_ac3) (fun _ h => h)
  obtain ⟨a4, r4⟩ := zArr_obj (hO "FarVoice$House" (by decide))
  obtain ⟨a5, r5⟩ := zArr_obj (hO "FarVoice$Tape" (by decide))
  obtain ⟨a6, r6⟩ := zArr_obj (hO "FarVoice$Voice" (by decide))
  refine ⟨(fun c => ([c0, c1, c2, c3, c4, c5, c6, c7, c8] : List ClassId).getD c c0, fun c => ([i0, i1, i2, i3, i4, i5, i6, i7, i8] : List (Nat → Nat)).getD c i0), fun i => ([a0, a1, a2, a3, a4, a5, a6] : List ClassId).getD i a0, fun c q hq => ?_, fun k q hq => ?_⟩
  · have hc : c < 9 := (List.getElem?_eq_some_iff.mp hq).1
    have : c = 0 ∨ c = 1 ∨ c = 2 ∨ c = 3 ∨ c = 4 ∨ c = 5 ∨ c = 6 ∨ c = 7 ∨ c = 8 := by omega
    rcases this with rfl | rfl | rfl | rfl | rfl | rfl | rfl | rfl | rfl
    · cases hq; exact k0
    · cases hq; exact k1
    · cases hq; exact k2
    · cases hq; exact k3
    · cases hq; exact k4
    · cases hq; exact k5
    · cases hq; exact k6
    · cases hq; exact k7
    · cases hq; exact k8
  · have hk : k < 7 := (List.getElem?_eq_some_iff.mp hq).1
    have : k = 0 ∨ k = 1 ∨ k = 2 ∨ k = 3 ∨ k = 4 ∨ k = 5 ∨ k = 6 := by omega
    rcases this with rfl | rfl | rfl | rfl | rfl | rfl | rfl
    · cases hq; exact r0
    · cases hq; exact r1
    · cases hq; exact r2
    · cases hq; exact r3
    · cases hq; exact r4
    · cases hq; exact r5
    · cases hq; exact r6
theorem law_KA {args : Array Value} {s : State} (ht : ∀ w ∈ lw_tbl, w.before args s = true) (hg : (Jvm.Cond.and given_1 narrow_1).before args s = true) {A : Nat → Prop} (hA : ∀ a : Nat, a < s.heap.size → ¬ A a) : ∃ t, va_Z "FarVoice" "KIND_ABOVE" "[I" (.ref t) A s s.heap ∧ va_T .int t 7 (fun j => .int (zKA j)) A s s.heap := by
  have hs := flat_of_before _ hg
  obtain ⟨t, h1, h2⟩ := va_Tof (args := args) (s := s) (tm := (Term.static "FarVoice" "KIND_ABOVE" "[I")) (ty := .int) (N := 7) (f := fun j => .int (zKA j)) (A := A) (by decide) (hs _ (by decide +kernel)) (va_eqt (hs _ (by decide +kernel))) (fun j hj => va_eqt (show (Cond.eq (.elem (Term.static "FarVoice" "KIND_ABOVE" "[I") (.int (Int32.ofNat j))) (.int (zKA j))).before args s = true from (by
      have h9 : j = 0 ∨ j = 1 ∨ j = 2 ∨ j = 3 ∨ j = 4 ∨ j = 5 ∨ j = 6 := by omega
      rcases h9 with rfl | rfl | rfl | rfl | rfl | rfl | rfl <;> exact hs _ (by decide +kernel)))) hA
  exact ⟨t, va_Zof (ht _ (List.mem_of_getElem? (i := 667) (by decide +kernel))) (ht _ (List.mem_of_getElem? (i := 91) (by decide +kernel))) h1 hA, h2⟩
theorem law_BO {args : Array Value} {s : State} (ht : ∀ w ∈ lw_tbl, w.before args s = true) (hg : (Jvm.Cond.and given_1 narrow_1).before args s = true) {A : Nat → Prop} (hA : ∀ a : Nat, a < s.heap.size → ¬ A a) : ∃ t, va_Z "FarVoice$Acting" "BODY_OF" "[I" (.ref t) A s s.heap ∧ va_T .int t 21 (fun j => .int (zBO j)) A s s.heap := by
  have hs := flat_of_before _ hg
  obtain ⟨t, h1, h2⟩ := va_Tof (args := args) (s := s) (tm := (Term.static "FarVoice$Acting" "BODY_OF" "[I")) (ty := .int) (N := 21) (f := fun j => .int (zBO j)) (A := A) (by decide) (hs _ (by decide +kernel)) (va_eqt (hs _ (by decide +kernel))) (fun j hj => va_eqt (show (Cond.eq (.elem (Term.static "FarVoice$Acting" "BODY_OF" "[I") (.int (Int32.ofNat j))) (.int (zBO j))).before args s = true from (by
      have h9 : j = 0 ∨ j = 1 ∨ j = 2 ∨ j = 3 ∨ j = 4 ∨ j = 5 ∨ j = 6 ∨ j = 7 ∨ j = 8 ∨ j = 9 ∨ j = 10 ∨ j = 11 ∨ j = 12 ∨ j = 13 ∨ j = 14 ∨ j = 15 ∨ j = 16 ∨ j = 17 ∨ j = 18 ∨ j = 19 ∨ j = 20 := by omega
      rcases h9 with rfl | rfl | rfl | rfl | rfl | rfl | rfl | rfl | rfl | rfl | rfl | rfl | rfl | rfl | rfl | rfl | rfl | rfl | rfl | rfl | rfl <;> exact hs _ (by decide +kernel)))) hA
  exact ⟨t, va_Zof (ht _ (List.mem_of_getElem? (i := 866) (by decide +kernel))) (ht _ (List.mem_of_getElem? (i := 94) (by decide +kernel))) h1 hA, h2⟩
theorem law_S {args : Array Value} {s : State} (ht : ∀ w ∈ lw_tbl, w.before args s = true) (hg : (Jvm.Cond.and given_1 narrow_1).before args s = true) {A : Nat → Prop} (hA : ∀ a : Nat, a < s.heap.size → ¬ A a) : ∃ kS vS : Nat → Nat, vk_S 7 zSl zSb kS vS A s s.heap ∧ ∀ i : Nat, i < 7 → vk_R "FarVoice$Reader" (zSx i) (zSt i) (kS i) s := by
  have hs := flat_of_before _ hg
  obtain ⟨kS, vS, h1, h2⟩ := vk_Sof (args := args) (s := s) (N := 7) (tm := fun i => .string "FarVoice$Reader" (zSx i)) (len := zSl) (byt := zSb) (A := A) (fun i hi => (by
      have h9 : i = 0 ∨ i = 1 ∨ i = 2 ∨ i = 3 ∨ i = 4 ∨ i = 5 ∨ i = 6 := by omega
      rcases h9 with rfl | rfl | rfl | rfl | rfl | rfl | rfl <;> decide)) (fun i hi => (by
      have h9 : i = 0 ∨ i = 1 ∨ i = 2 ∨ i = 3 ∨ i = 4 ∨ i = 5 ∨ i = 6 := by omega
      rcases h9 with rfl | rfl | rfl | rfl | rfl | rfl | rfl <;> exact hs _ (by decide +kernel))) (fun i hi => (by
      have h9 : i = 0 ∨ i = 1 ∨ i = 2 ∨ i = 3 ∨ i = 4 ∨ i = 5 ∨ i = 6 := by omega
      rcases h9 with rfl | rfl | rfl | rfl | rfl | rfl | rfl <;> exact hs _ (by decide +kernel))) (fun i hi => (by
      have h9 : i = 0 ∨ i = 1 ∨ i = 2 ∨ i = 3 ∨ i = 4 ∨ i = 5 ∨ i = 6 := by omega
      rcases h9 with rfl | rfl | rfl | rfl | rfl | rfl | rfl <;> exact hs _ (by decide +kernel))) (fun i hi => (by
      have h9 : i = 0 ∨ i = 1 ∨ i = 2 ∨ i = 3 ∨ i = 4 ∨ i = 5 ∨ i = 6 := by omega
      rcases h9 with rfl | rfl | rfl | rfl | rfl | rfl | rfl <;> exact hs _ (by decide +kernel)))
    (fun i hi j hj => by
      have h9 : i = 0 ∨ i = 1 ∨ i = 2 ∨ i = 3 ∨ i = 4 ∨ i = 5 ∨ i = 6 := by omega
      rcases h9 with rfl | rfl | rfl | rfl | rfl | rfl | rfl
      · have h8 : j = 0 ∨ j = 1 ∨ j = 2 := by have : j < 3 := hj; omega
        rcases h8 with rfl | rfl | rfl <;> exact hs _ (by decide +kernel)
      · have h8 : j = 0 ∨ j = 1 ∨ j = 2 := by have : j < 3 := hj; omega
        rcases h8 with rfl | rfl | rfl <;> exact hs _ (by decide +kernel)
      · have h8 : j = 0 ∨ j = 1 ∨ j = 2 ∨ j = 3 := by have : j < 4 := hj; omega
        rcases h8 with rfl | rfl | rfl | rfl <;> exact hs _ (by decide +kernel)
      · have h8 : j = 0 ∨ j = 1 ∨ j = 2 ∨ j = 3 ∨ j = 4 := by have : j < 5 := hj; omega
        rcases h8 with rfl | rfl | rfl | rfl | rfl <;> exact hs _ (by decide +kernel)
      · have h8 : j = 0 ∨ j = 1 ∨ j = 2 ∨ j = 3 := by have : j < 4 := hj; omega
        rcases h8 with rfl | rfl | rfl | rfl <;> exact hs _ (by decide +kernel)
      · have h8 : j = 0 ∨ j = 1 ∨ j = 2 ∨ j = 3 ∨ j = 4 := by have : j < 5 := hj; omega
        rcases h8 with rfl | rfl | rfl | rfl | rfl <;> exact hs _ (by decide +kernel)
      · have h8 : j = 0 ∨ j = 1 ∨ j = 2 := by have : j < 3 := hj; omega
        rcases h8 with rfl | rfl | rfl <;> exact hs _ (by decide +kernel))
    (fun i j hi hj hij => by
      have h9 : i = 0 ∨ i = 1 ∨ i = 2 ∨ i = 3 ∨ i = 4 ∨ i = 5 ∨ i = 6 := by omega
      have h8 : j = 0 ∨ j = 1 ∨ j = 2 ∨ j = 3 ∨ j = 4 ∨ j = 5 ∨ j = 6 := by omega
      rcases h9 with rfl | rfl | rfl | rfl | rfl | rfl | rfl <;> rcases h8 with rfl | rfl | rfl | rfl | rfl | rfl | rfl <;> first | exact absurd rfl hij | exact Or.inl (hs _ (by decide +kernel)) | exact Or.inr (hs _ (by decide +kernel))) hA
  refine ⟨kS, vS, h1, fun i hi => vk_R.of (A := args) ?_ ?_⟩
  · have h9 : i = 0 ∨ i = 1 ∨ i = 2 ∨ i = 3 ∨ i = 4 ∨ i = 5 ∨ i = 6 := by omega
    rcases h9 with rfl | rfl | rfl | rfl | rfl | rfl | rfl
    · exact (ht _ (List.mem_of_getElem? (i := 397) (by decide +kernel)))
    · exact (ht _ (List.mem_of_getElem? (i := 398) (by decide +kernel)))
    · exact (ht _ (List.mem_of_getElem? (i := 399) (by decide +kernel)))
    · exact (ht _ (List.mem_of_getElem? (i := 400) (by decide +kernel)))
    · exact (ht _ (List.mem_of_getElem? (i := 401) (by decide +kernel)))
    · exact (ht _ (List.mem_of_getElem? (i := 501) (by decide +kernel)))
    · exact (ht _ (List.mem_of_getElem? (i := 561) (by decide +kernel)))
  · exact h2 i hi
theorem law_E {args : Array Value} {s : State} (ht : ∀ w ∈ lw_tbl, w.before args s = true) (hg : (Jvm.Cond.and given_1 narrow_1).before args s = true) {A : Nat → Prop} (hA : ∀ a : Nat, a < s.heap.size → ¬ A a) : ∃ (tK tB : Nat) (kS vS : Nat → Nat), zE tK tB kS vS A s s.heap := by
  have hs := flat_of_before _ hg
  obtain ⟨tK, hK⟩ := law_KA ht hg hA
  obtain ⟨tB, hB⟩ := law_BO ht hg hA
  obtain ⟨kS, vS, hS⟩ := law_S ht hg hA
  refine ⟨tK, tB, kS, vS, hK, hB, hS, va_Zof (ht _ (List.mem_of_getElem? (i := 415) (by decide +kernel))) (ht _ (List.mem_of_getElem? (i := 100) (by decide +kernel))) (va_eqi (hs _ (by decide +kernel))) hA, va_Zqof (ht _ (List.mem_of_getElem? (i := 431) (by decide +kernel))) (ht _ (List.mem_of_getElem? (i := 102) (by decide +kernel))) (hs _ (by decide +kernel)) hA, ?_, ?_, va_AO.of (ht _ (List.mem_of_getElem? (i := 153) (by decide +kernel))), va_AO.of (ht _ (List.mem_of_getElem? (i := 195) (by decide +kernel))), va_AO.of (ht _ (List.mem_of_getElem? (i := 175) (by decide +kernel)))⟩
  · exact List.forall_mem_cons.mpr ⟨va_Nw.of rfl (ht _ (List.mem_of_getElem? (i := 666) (by decide +kernel))), List.forall_mem_cons.mpr ⟨va_Nw.of rfl (ht _ (List.mem_of_getElem? (i := 864) (by decide +kernel))), List.forall_mem_nil _⟩⟩
  · exact List.forall_mem_cons.mpr ⟨va_Nw.of rfl (ht _ (List.mem_of_getElem? (i := 562) (by decide +kernel))), List.forall_mem_cons.mpr ⟨va_Nw.of rfl (ht _ (List.mem_of_getElem? (i := 691) (by decide +kernel))), List.forall_mem_cons.mpr ⟨va_Nw.of rfl (ht _ (List.mem_of_getElem? (i := 118) (by decide +kernel))), List.forall_mem_cons.mpr ⟨va_Nw.of rfl (ht _ (List.mem_of_getElem? (i := 156) (by decide +kernel))), List.forall_mem_cons.mpr ⟨va_Nw.of rfl (ht _ (List.mem_of_getElem? (i := 178) (by decide +kernel))), List.forall_mem_cons.mpr ⟨va_Nw.of rfl (ht _ (List.mem_of_getElem? (i := 198) (by decide +kernel))), List.forall_mem_cons.mpr ⟨va_Nw.of rfl (ht _ (List.mem_of_getElem? (i := 276) (by decide +kernel))), List.forall_mem_nil _⟩⟩⟩⟩⟩⟩⟩
theorem whole_of (Rel : SV → SM → Prop) (hsim : zSim Rel) (h0 : Rel V_u0 M_u0) {p : Program} {e : Env} {s : State} {m : MethodId} {below : List Frame} {meth : Method} {c : Code} (l : Launch) {b L : Nat} {xs : Nat → Int32} (hL : L ≤ 3072) (C0 : lw_At p s m meth c b L xs) : W p l e room_1 s m #[Value.ref b] below meth c s.heap [] 0 0 (lw_Z below #[Value.ref b] s) (entryFrame m ([Value.ref b] : List Value).toArray 4) := by
  obtain ⟨hx, hb, hr, hml, hown, ht, hX, hbl, hlk, hg⟩ := C0
  have hA : ∀ a : Nat, a < s.heap.size → ¬ (fun q : Nat => s.heap.size ≤ q) a := fun a h => Nat.not_le_of_lt h
  have hz : ∀ w ∈ zTS, w.before #[Value.ref b] s = true := fun w hw => ht w (List.mem_filter.mp hw).1
  obtain ⟨D, cA, hK⟩ := law_K hz (fun C hC => by
    simp only [List.mem_cons, List.mem_nil_iff, or_false] at hC
    rcases hC with rfl | rfl | rfl
    · exact (ht _ (List.mem_of_getElem? (i := 153) (by decide +kernel)))
    · exact (ht _ (List.mem_of_getElem? (i := 195) (by decide +kernel)))
    · exact (ht _ (List.mem_of_getElem? (i := 175) (by decide +kernel))))
  obtain ⟨tK, tB, kS, vS, hE⟩ := law_E ht hg hA
  have hC : zC p s m #[Value.ref b] meth c code 4 RL zTS D (zTy cA) (fun q => s.heap.size ≤ q) (zE tK tB kS vS) := ⟨⟨hx, hb, hml, hown, hz⟩, hK, hlk, zE_ok, hE⟩
  have hl := lv_entry (n := 4) [Value.ref b] (Nat.le_of_ble_eq_true rfl)
  have hgo := law_start (l := l) (e := e) (below := below) hC hr hX hbl hL hsim h0
  rw [lg_entry_eq]
  exact hgo s.heap [] _ (fun k q h => nomatch h) ⟨(fun i j _ _ h _ => nomatch h), (fun k q h => nomatch h)⟩ va_S.rf hl
