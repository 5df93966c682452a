/-! 08.L4: what the start knows; by wip/whole/gen/genL4.py -/
theorem zArr_prim {args : Array Value} {s : State} {ty : FieldType} (h : (Cond.arrayClass ty).before args s = true) (hra : ∀ c, s.vm.findClass ("[" ++ ty.toString) = some c → va_RA s c ty) : ∃ cA, ArrOfT s cA ty ∧ va_RA s cA ty := by
  obtain ⟨c, k, comp, h1, h2, h3⟩ := Cond.arrayClass_spec h
  exact ⟨c, fun N z => ⟨(fun k h => by cases h), k, h2, comp, h3⟩, hra c h1⟩
theorem zArr_obj {args : Array Value} {s : State} {C : String} (h : (Cond.arrayOver (.object C)).before args s = true) : ∃ cA, ArrOfT s cA (.object C) ∧ va_RA s cA (.object C) := by
  obtain ⟨comp, c, k, h1, h2, h3, h4, h5⟩ := Cond.arrayOver_spec h
  exact ⟨c, fun N z => ⟨(fun k h => by cases h), k, h3, comp, h4⟩, k, comp, h3, h4, h1, h5⟩
theorem law_K {args : Array Value} {s : State} (ht : ∀ w ∈ zTS, w.before args s = true) (hO : ∀ C ∈ ["FarVoice$House", "FarVoice$Tape", "FarVoice$Voice"], (Cond.arrayOver (.object C)).before args s = true) : ∃ (D : va_G) (cA : Nat → ClassId), va_K D vwCl (zTy cA) s := by
  obtain ⟨c0, i0, k0⟩ := u_known ht inlX0 (n := 3) (C := RX0) (T := TX0) (N := 3) (ht _ (zMem 177 (by decide +kernel) rfl))
  obtain ⟨c1, i1, k1⟩ := u_known ht inlX1 (n := 9) (C := RX1) (T := TX1) (N := 9) (ht _ (zMem 234 (by decide +kernel) rfl))
  obtain ⟨c2, i2, k2⟩ := u_known ht inlX2 (n := 8) (C := RX2) (T := TX2) (N := 8) (ht _ (zMem 197 (by decide +kernel) rfl))
  obtain ⟨c3, i3, k3⟩ := u_known ht inlX3 (n := 4) (C := RX3) (T := TX3) (N := 4) (ht _ (zMem 155 (by decide +kernel) rfl))
  obtain ⟨c4, i4, k4⟩ := u_known ht inlX4 (n := 7) (C := RX4) (T := TX4) (N := 7) (ht _ (zMem 117 (by decide +kernel) rfl))
  obtain ⟨c5, i5, k5⟩ := u_known ht inlX5 (n := 3) (C := RX5) (T := TX5) (N := 3) (ht _ (zMem 275 (by decide +kernel) rfl))
  obtain ⟨c6, i6, k6⟩ := u_known ht inlX6 (n := 3) (C := RX6) (T := TX6) (N := 3) (ht _ (zMem 597 (by decide +kernel) rfl))
  obtain ⟨c7, i7, k7⟩ := u_known ht inlX7 (n := 16) (C := RX7) (T := TX7) (N := 16) (ht _ (zMem 109 (by decide +kernel) rfl))
  obtain ⟨c8, i8, k8⟩ := u_known ht inlX8 (n := 45) (C := RX8) (T := TX8) (N := 45) (ht _ (zMem 919 (by decide +kernel) rfl))
  obtain ⟨a0, r0⟩ := zArr_prim (ht _ zm_ac0) (fun _ h => h)
  obtain ⟨a1, r1⟩ := zArr_prim (ht _ zm_ac1) (fun _ h => h)
  obtain ⟨a2, r2⟩ := zArr_prim (ht _ zm_ac2) (fun _ h => h)
  obtain ⟨a3, r3⟩ := zArr_prim (ht _ zm_ac3) (fun _ h => h)
  obtain ⟨a4, r4⟩ := zArr_obj (hO "FarVoice$House" (by decide))
  obtain ⟨a5, r5⟩ := zArr_obj (hO "FarVoice$Tape" (by decide))
  obtain ⟨a6, r6⟩ := zArr_obj (hO "FarVoice$Voice" (by decide))
  refine ⟨(fun c => ([c0, c1, c2, c3, c4, c5, c6, c7, c8] : List ClassId).getD c c0, fun c => ([i0, i1, i2, i3, i4, i5, i6, i7, i8] : List (Nat → Nat)).getD c i0), fun i => ([a0, a1, a2, a3, a4, a5, a6] : List ClassId).getD i a0, fun c q hq => ?_, fun k q hq => ?_⟩
  · have hc : c < 9 := (List.getElem?_eq_some_iff.mp hq).1
    have : c = 0 ∨ c = 1 ∨ c = 2 ∨ c = 3 ∨ c = 4 ∨ c = 5 ∨ c = 6 ∨ c = 7 ∨ c = 8 := by omega
    rcases this with rfl | rfl | rfl | rfl | rfl | rfl | rfl | rfl | rfl
    · cases hq; exact k0
    · cases hq; exact k1
    · cases hq; exact k2
    · cases hq; exact k3
    · cases hq; exact k4
    · cases hq; exact k5
    · cases hq; exact k6
    · cases hq; exact k7
    · cases hq; exact k8
  · have hk : k < 7 := (List.getElem?_eq_some_iff.mp hq).1
    have : k = 0 ∨ k = 1 ∨ k = 2 ∨ k = 3 ∨ k = 4 ∨ k = 5 ∨ k = 6 := by omega
    rcases this with rfl | rfl | rfl | rfl | rfl | rfl | rfl
    · cases hq; exact r0
    · cases hq; exact r1
    · cases hq; exact r2
    · cases hq; exact r3
    · cases hq; exact r4
    · cases hq; exact r5
    · cases hq; exact r6
