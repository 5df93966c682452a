/-! 09.P7: the start -/
theorem z_let {a : Int32} (h : zrg 0 9 a) : a = 0 ∨ a = 1 ∨ a = 2 ∨ a = 3 ∨ a = 4 ∨ a = 5 ∨ a = 6 ∨ a = 7 ∨ a = 8 ∨ a = 9 := by
  unfold zrg at h
  simp only [← Int32.toInt_inj, Int32.reduceToInt]
  omega
theorem H_u0_R : RHv [] H_u0 := by
  refine ⟨rfl, rfl, fun i hi => (nomatch hi), rfl, fun a ha => ?_⟩
  rcases z_let ha with rfl | rfl | rfl | rfl | rfl | rfl | rfl | rfl | rfl | rfl <;> exact ⟨rfl, rfl, rfl⟩
theorem Rel_0 : Rel V_u0 M_u0 := by
  refine ⟨⟨⟨rfl, rfl, rfl, rfl, rfl, rfl⟩, fun k _ => rfl, ⟨⟨by decide, by decide⟩, ⟨by decide, by decide⟩, ⟨by decide, by decide⟩, ⟨by decide, by decide⟩, ⟨by decide, by decide⟩, ⟨by decide, by decide⟩⟩, fun k _ => (show zrg 0 9 0 from ⟨by decide, by decide⟩)⟩, ⟨⟨⟨rfl, rfl, rfl, rfl, rfl, rfl⟩, fun k _ => rfl, ⟨⟨by decide, by decide⟩, ⟨by decide, by decide⟩, ⟨by decide, by decide⟩, ⟨by decide, by decide⟩, ⟨by decide, by decide⟩, ⟨by decide, by decide⟩⟩, fun k _ => (show zrg 0 9 0 from ⟨by decide, by decide⟩)⟩, rfl⟩, ⟨⟨rfl, ⟨by decide, by decide⟩⟩, fun k _ => ⟨⟨rfl, rfl⟩, (show zrg 0 40 0 from ⟨by decide, by decide⟩), (show zrg 0 40 0 from ⟨by decide, by decide⟩)⟩⟩, ⟨⟨rfl, ⟨by decide, by decide⟩⟩, fun k hk => absurd hk (Nat.not_lt_zero k)⟩, ⟨⟨rfl, ⟨by decide, by decide⟩⟩, H_u0_R, fun k hk => absurd hk (Nat.not_lt_zero k)⟩, ⟨⟨rfl, ⟨by decide, by decide⟩⟩, fun k hk => absurd hk (Nat.not_lt_zero k)⟩, rfl, fun t ht => ?_, fun k hk => ?_⟩
  · have h : t = 0 ∨ t = 1 ∨ t = 2 ∨ t = 3 ∨ t = 4 ∨ t = 5 := by omega
    rcases h with rfl | rfl | rfl | rfl | rfl | rfl <;> exact ⟨⟨rfl, rfl⟩, ⟨⟨by decide, by decide⟩, ⟨by decide, by decide⟩, fun _ => rfl⟩, fun k _ => rfl⟩
  · have h : k = 0 ∨ k = 1 ∨ k = 2 ∨ k = 3 ∨ k = 4 ∨ k = 5 ∨ k = 6 ∨ k = 7 ∨ k = 8 ∨ k = 9 ∨ k = 10 ∨ k = 11 ∨ k = 12 ∨ k = 13 ∨ k = 14 ∨ k = 15 ∨ k = 16 ∨ k = 17 ∨ k = 18 := by omega
    rcases h with rfl | rfl | rfl | rfl | rfl | rfl | rfl | rfl | rfl | rfl | rfl | rfl | rfl | rfl | rfl | rfl | rfl | rfl | rfl <;> rfl
