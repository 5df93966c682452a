/-! 09.P26: what a text says, by itself -/
abbrev ZP : Type := Bool × Nat × List Int32
def spTest (c : Nat → Int) (a : Nat) : ZP :=
  if plc (c a) < 0 then (false, a, [])
  else if c (a + 1) < 60 ∨ 62 < c (a + 1) then (false, a + 1, [])
  else match spNum c (a + 2) with
    | none => (false, a + 2, [])
    | some q => (true, q.2, [Int32.ofInt (3 + 300 * plc (c a) + 100 * (c (a + 1) - 60) + q.1)])
/-- a row of such with a sign between: from behind the first on -/
def spL (c : Nat → Int) (sg : Int) (P : Nat → ZP) (op : Int32) : Nat → Nat → ZP
  | 0, a => (true, a, [])
  | k + 1, a => if c a = sg then (if (P (a + 1)).1 = true then ((spL c sg P op k (P (a + 1)).2.1).1, (spL c sg P op k (P (a + 1)).2.1).2.1, (P (a + 1)).2.2 ++ op :: (spL c sg P op k (P (a + 1)).2.1).2.2) else P (a + 1)) else (true, a, [])
def spR (c : Nat → Int) (sg : Int) (P : Nat → ZP) (op : Int32) (n a : Nat) : ZP :=
  if (P a).1 = true then ((spL c sg P op n (P a).2.1).1, (spL c sg P op n (P a).2.1).2.1, (P a).2.2 ++ (spL c sg P op n (P a).2.1).2.2) else P a
def spE (c : Nat → Int) (n : Nat) (P : Nat → ZP) (a : Nat) : ZP := spR c 124 (spR c 38 P 1 n) 2 n a
def spBr (c : Nat → Int) (r : ZP) : ZP := if r.1 = true then (if c r.2.1 = 41 then (true, r.2.1 + 1, r.2.2) else (false, r.2.1, r.2.2)) else r
def spNo (r : ZP) : ZP := if r.1 = true then (true, r.2.1, r.2.2 ++ [0]) else r
def spF (c : Nat → Int) (n : Nat) : Nat → Nat → ZP
  | 0, a => if c a = 40 ∨ c a = 33 then (false, a, []) else spTest c a
  | d + 1, a => if c a = 40 then spBr c (spE c n (spF c n d) (a + 1)) else if c a = 33 then spNo (spF c n d (a + 1)) else spTest c a
/-- what a good reading gives -/
def zGr (m a n : Nat) (r : ZP) : Prop := (r.2.2.length + a ≤ r.2.1 ∧ r.2.1 ≤ n) ∧ (∀ s ∈ r.2.2, zrg 0 1502 s) ∧ ∀ k, k + m ≤ 12 → zdp r.2.2 k = some (k + 1)
def zGd (n m : Nat) (P : Nat → ZP) : Prop := ∀ a, (P a).1 = true → a < (P a).2.1 ∧ zGr m a n (P a)
theorem zdp_app : ∀ (A B : List Int32) (k : Nat), zdp (A ++ B) k = (zdp A k).bind (zdp B)
  | [], B, k => by simp [zdp]
  | s :: A, B, k => by
    rw [List.cons_append, zdp, zdp]
    by_cases h0 : s = 0
    · rw [if_pos h0, if_pos h0]
      by_cases h1 : 1 ≤ k
      · rw [if_pos h1, if_pos h1, zdp_app A B k]
      · rw [if_neg h1, if_neg h1]; rfl
    · rw [if_neg h0, if_neg h0]
      by_cases h1 : s = 1 ∨ s = 2
      · rw [if_pos h1, if_pos h1]
        by_cases h2 : 2 ≤ k
        · rw [if_pos h2, if_pos h2, zdp_app A B (k - 1)]
        · rw [if_neg h2, if_neg h2]; rfl
      · rw [if_neg h1, if_neg h1]
        by_cases h2 : k < 12
        · rw [if_pos h2, if_pos h2, zdp_app A B (k + 1)]
        · rw [if_neg h2, if_neg h2]; rfl
theorem zdp_not (k : Nat) (h : 1 ≤ k) : zdp [0] k = some k := by
  rw [zdp, if_pos rfl, if_pos h, zdp]
theorem zdp_op {s : Int32} (hs : s = 1 ∨ s = 2) (T : List Int32) (k : Nat) (h : 2 ≤ k) : zdp (s :: T) k = zdp T (k - 1) := by
  rw [zdp, if_neg (by rcases hs with rfl | rfl <;> decide), if_pos hs, if_pos h]
theorem zdp_test {s : Int32} (hs : 3 ≤ s.toInt) (k : Nat) (h : k < 12) : zdp [s] k = some (k + 1) := by
  have n0 : ¬ s = 0 := fun e => by rw [e] at hs; exact absurd hs (by decide)
  have n1 : ¬ (s = 1 ∨ s = 2) := fun e => by rcases e with e | e <;> rw [e] at hs <;> exact absurd hs (by decide)
  rw [zdp, if_neg n0, if_neg n1, if_pos h, zdp]
theorem plc_rg (x : Int) : -1 ≤ plc x ∧ plc x ≤ 4 := by
  unfold plc
  by_cases h1 : x = 102
  · rw [if_pos h1]; omega
  · rw [if_neg h1]
    by_cases h2 : x = 111
    · rw [if_pos h2]; omega
    · rw [if_neg h2]
      by_cases h3 : x = 107
      · rw [if_pos h3]; omega
      · rw [if_neg h3]
        by_cases h4 : x = 108
        · rw [if_pos h4]; omega
        · rw [if_neg h4]
          by_cases h5 : x = 116
          · rw [if_pos h5]; omega
          · rw [if_neg h5]; omega
theorem ofInt_rg {x : Int} (h0 : -2147483648 ≤ x) (h1 : x ≤ 2147483647) : (Int32.ofInt x).toInt = x := Int32.toInt_ofInt_of_le (by omega) (by omega)
theorem spTest_gd {c : Nat → Int} {n : Nat} (hc : ∀ k, n ≤ k → c k = -1) : zGd n 1 (spTest c) := by
  intro a h
  unfold spTest at h ⊢
  have hp := plc_rg (c a)
  by_cases h1 : plc (c a) < 0
  · rw [if_pos h1] at h
    cases h
  · rw [if_neg h1] at h ⊢
    by_cases h2 : c (a + 1) < 60 ∨ 62 < c (a + 1)
    · rw [if_pos h2] at h
      cases h
    · rw [if_neg h2] at h ⊢
      cases hq : spNum c (a + 2) with
      | none => rw [hq] at h; cases h
      | some q =>
        obtain ⟨d, b⟩ := q
        obtain ⟨g1, g2, g3, g4⟩ := spNum_rg hc hq
        have e := ofInt_rg (x := 3 + 300 * plc (c a) + 100 * (c (a + 1) - 60) + d) (by omega) (by omega)
        refine ⟨by show a < b; omega, ⟨?_, by show b ≤ n; omega⟩, ?_, ?_⟩
        · show 1 + a ≤ b
          omega
        · intro s hs
          rw [List.mem_singleton.mp hs]
          exact ⟨by rw [e]; omega, by rw [e]; omega⟩
        · intro k hk
          exact zdp_test (by rw [e]; omega) k (by omega)
theorem spL_gd {c : Nat → Int} {n m : Nat} {sg : Int} {P : Nat → ZP} {op : Int32} (hg : zGd n m P) (ho : op = 1 ∨ op = 2) : ∀ (k a : Nat), a ≤ n → (spL c sg P op k a).1 = true → ((spL c sg P op k a).2.2.length + a ≤ (spL c sg P op k a).2.1 ∧ (spL c sg P op k a).2.1 ≤ n) ∧ (∀ s ∈ (spL c sg P op k a).2.2, zrg 0 1502 s) ∧ ∀ j, 1 ≤ j → j + m ≤ 12 → zdp (spL c sg P op k a).2.2 j = some j
  | 0, a, ha, _ => ⟨⟨Nat.le_of_eq (Nat.zero_add a), ha⟩, fun s hs => absurd hs (List.not_mem_nil), fun j _ _ => rfl⟩
  | k + 1, a, ha, h => by
    unfold spL at h ⊢
    by_cases c1 : c a = sg
    · rw [if_pos c1] at h ⊢
      by_cases c2 : (P (a + 1)).1 = true
      · rw [if_pos c2] at h ⊢
        obtain ⟨g1, ⟨g2, g3⟩, g4, g5⟩ := hg (a + 1) c2
        obtain ⟨⟨i1, i2⟩, i3, i4⟩ := spL_gd hg ho k (P (a + 1)).2.1 g3 h
        refine ⟨⟨?_, i2⟩, ?_, ?_⟩
        · show ((P (a + 1)).2.2 ++ op :: _).length + a ≤ _
          rw [List.length_append, List.length_cons]
          show _ ≤ (spL c sg P op k (P (a + 1)).2.1).2.1
          omega
        · intro s hs
          rcases List.mem_append.mp hs with hs | hs
          · exact g4 s hs
          · rcases List.mem_cons.mp hs with hs | hs
            · rw [hs]; rcases ho with rfl | rfl <;> exact ⟨by decide, by decide⟩
            · exact i3 s hs
        · intro j hj hm
          show zdp ((P (a + 1)).2.2 ++ op :: _) j = some j
          rw [zdp_app, g5 j hm, Option.bind_some, zdp_op ho _ _ (by omega), show j + 1 - 1 = j by omega, i4 j hj hm]
      · rw [if_neg c2] at h
        exact absurd h c2
    · rw [if_neg c1] at h ⊢
      exact ⟨⟨Nat.le_of_eq (Nat.zero_add a), ha⟩, fun s hs => absurd hs (List.not_mem_nil), fun j _ _ => rfl⟩
theorem spR_gd {c : Nat → Int} {n m : Nat} {sg : Int} {P : Nat → ZP} {op : Int32} (hg : zGd n m P) (ho : op = 1 ∨ op = 2) (N : Nat) : zGd n (m + 1) (spR c sg P op N) := by
  intro a h
  unfold spR at h ⊢
  by_cases c2 : (P a).1 = true
  · rw [if_pos c2] at h ⊢
    obtain ⟨g1, ⟨g2, g3⟩, g4, g5⟩ := hg a c2
    obtain ⟨⟨i1, i2⟩, i3, i4⟩ := spL_gd hg ho N (P a).2.1 g3 h
    refine ⟨?_, ⟨?_, i2⟩, ?_, ?_⟩
    · show a < (spL c sg P op N (P a).2.1).2.1
      omega
    · show ((P a).2.2 ++ _).length + a ≤ (spL c sg P op N (P a).2.1).2.1
      rw [List.length_append]
      omega
    · intro s hs
      rcases List.mem_append.mp hs with hs | hs
      · exact g4 s hs
      · exact i3 s hs
    · intro k hk
      show zdp ((P a).2.2 ++ _) k = some (k + 1)
      rw [zdp_app, g5 k (by omega), Option.bind_some, i4 (k + 1) (by omega) (by omega)]
  · rw [if_neg c2] at h
    exact absurd h c2
theorem zGd_mono {n m m' : Nat} {P : Nat → ZP} (h : zGd n m P) (hm : m ≤ m') : zGd n m' P := fun a q => ⟨(h a q).1, (h a q).2.1, (h a q).2.2.1, fun k hk => (h a q).2.2.2 k (by omega)⟩
theorem spE_gd {c : Nat → Int} {n m : Nat} {P : Nat → ZP} (hg : zGd n m P) : zGd n (m + 2) (spE c n P) := spR_gd (spR_gd hg (Or.inl rfl) n) (Or.inr rfl) n
theorem spF_gd {c : Nat → Int} {n : Nat} (hc : ∀ k, n ≤ k → c k = -1) : ∀ d, zGd n (2 * d + 1) (spF c n d)
  | 0 => by
    intro a h
    unfold spF at h ⊢
    by_cases c1 : c a = 40 ∨ c a = 33
    · rw [if_pos c1] at h
      cases h
    · rw [if_neg c1] at h ⊢
      exact spTest_gd hc a h
  | d + 1 => by
    intro a h
    unfold spF at h ⊢
    by_cases c1 : c a = 40
    · rw [if_pos c1] at h ⊢
      unfold spBr at h ⊢
      by_cases c2 : (spE c n (spF c n d) (a + 1)).1 = true
      · rw [if_pos c2] at h ⊢
        by_cases c3 : c (spE c n (spF c n d) (a + 1)).2.1 = 41
        · rw [if_pos c3]
          obtain ⟨g1, ⟨g2, g3⟩, g4, g5⟩ := spE_gd (c := c) (spF_gd hc d) (a + 1) c2
          have hn : (spE c n (spF c n d) (a + 1)).2.1 < n := by
            apply Classical.byContradiction
            intro q
            rw [hc _ (by omega)] at c3
            exact absurd c3 (by decide)
          refine ⟨?_, ⟨?_, ?_⟩, g4, fun k hk => g5 k (by omega)⟩
          · show a < (spE c n (spF c n d) (a + 1)).2.1 + 1
            omega
          · show (spE c n (spF c n d) (a + 1)).2.2.length + a ≤ (spE c n (spF c n d) (a + 1)).2.1 + 1
            omega
          · exact hn
        · rw [if_neg c3] at h
          cases h
      · rw [if_neg c2] at h
        exact absurd h c2
    · rw [if_neg c1] at h ⊢
      by_cases c2 : c a = 33
      · rw [if_pos c2] at h ⊢
        unfold spNo at h ⊢
        by_cases c3 : (spF c n d (a + 1)).1 = true
        · rw [if_pos c3]
          obtain ⟨g1, ⟨g2, g3⟩, g4, g5⟩ := spF_gd hc d (a + 1) c3
          refine ⟨?_, ⟨?_, g3⟩, ?_, ?_⟩
          · show a < (spF c n d (a + 1)).2.1
            omega
          · show ((spF c n d (a + 1)).2.2 ++ [0]).length + a ≤ (spF c n d (a + 1)).2.1
            rw [List.length_append, List.length_singleton]
            omega
          · intro s hs
            rcases List.mem_append.mp hs with hs | hs
            · exact g4 s hs
            · rw [List.mem_singleton.mp hs]; exact ⟨by decide, by decide⟩
          · intro k hk
            show zdp ((spF c n d (a + 1)).2.2 ++ [0]) k = some (k + 1)
            rw [zdp_app, g5 k (by omega), Option.bind_some, zdp_not _ (by omega)]
        · rw [if_neg c3] at h
          exact absurd h c3
      · rw [if_neg c2] at h ⊢
        obtain ⟨g1, g2, g4, g5⟩ := spTest_gd hc a h
        exact ⟨g1, g2, g4, fun k hk => g5 k (by omega)⟩
