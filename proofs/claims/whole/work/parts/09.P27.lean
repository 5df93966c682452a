/-! 09.P27: the E of the class -/
def CP (u : SR) (s : Nat) (r : ZP) (o : Option (Int32 × Int32 × Int32 × (Nat → Int32))) : Prop := ∃ (x p k : Int32) (g : Nat → Int32), o = some (x, (p, (k, g))) ∧ p.toInt = r.2.1 ∧ ((r.1 = true ∧ x = 1 ∧ k.toInt = ((s + r.2.2.length : Nat) : Int) ∧ (∀ i, i < s → g i = R_h_steps u i) ∧ zst g s r.2.2) ∨ (r.1 = false ∧ x = 0))
def CH (c : Nat → Int) (n : Nat) (RF : Int32 → SR → Option (Int32 × Int32 × Int32 × (Nat → Int32))) (x1 : Int32) (P : Nat → ZP) : Prop := ∀ (u : SR) (a s : Nat), TR u n c → (R_at u).toInt = a → a ≤ n → (R_h_stepCount u).toInt = s → s ≤ a → CP u s (P a) (RF x1 u)
theorem CP_b {α : Type} {u : SR} {s : Nat} {r : ZP} {o : Option α} {x : α} {F : α → Option (Int32 × Int32 × Int32 × (Nat → Int32))} (e : o = some x) (h : CP u s r (F x)) : CP u s r (o.bind F) := by
  rw [e]
  exact h
theorem z_bq {α β : Type} {o : Option α} {x : α} {F : α → Option β} {y : Option β} (e : o = some x) (h : F x = y) : o.bind F = y := by
  rw [e]
  exact h
theorem zst_cat {g : Nat → Int32} {s : Nat} {A B : List Int32} (h1 : zst g s A) (h2 : zst g (s + A.length) B) : zst g s (A ++ B) := by
  intro k hk
  rw [List.length_append] at hk
  by_cases q : k < A.length
  · rw [h1 k q, List.getElem_append_left q]
  · rw [List.getElem_append_right (by omega), ← h2 (k - A.length) (by omega), show s + A.length + (k - A.length) = s + k by omega]
theorem zst_cg {g g' : Nat → Int32} {s : Nat} {A : List Int32} (h : zst g s A) (e : ∀ i, i < s + A.length → g' i = g i) : zst g' s A := fun k hk => (e (s + k) (by omega)).trans (h k hk)
theorem zst_one {g : Nat → Int32} {s : Nat} {x : Int32} (h : g s = x) : zst g s [x] := by
  intro k hk
  have : k = 0 := by rw [List.length_singleton] at hk; omega
  subst this
  exact h
theorem zst_upd {g : Nat → Int32} {s : Nat} {A : List Int32} (h : zst g s A) (x : Int32) : zst (upd g (s + A.length) x) s (A ++ [x]) :=
  zst_cat (zst_cg h (fun i hi => upd_ne _ _ (by omega))) (zst_one (upd_eq _ _ _))
theorem CP_seq {u u' : SR} {s : Nat} {A : List Int32} {r : ZP} {o : Option (Int32 × Int32 × Int32 × (Nat → Int32))} {g : Nat → Int32} (hA : zst g s A) (hp : ∀ i, i < s → g i = R_h_steps u i) (hu : ∀ i, i < s + A.length → R_h_steps u' i = g i) (h : CP u' (s + A.length) r o) : CP u s (r.1, r.2.1, A ++ r.2.2) o := by
  obtain ⟨x, p, k, g', e, h1, h2⟩ := h
  refine ⟨x, p, k, g', e, h1, ?_⟩
  rcases h2 with ⟨d1, d2, d3, d4, d5⟩ | ⟨d1, d2⟩
  · refine Or.inl ⟨d1, d2, ?_, fun i hi => ?_, zst_cat (zst_cg hA (fun i hi => ?_)) d5⟩
    · rw [d3]
      show _ = ((s + (A ++ r.2.2).length : Nat) : Int)
      rw [List.length_append, Nat.add_assoc]
    · rw [d4 i (by omega), hu i (by omega), hp i hi]
    · rw [d4 i hi, hu i hi]
  · exact Or.inr ⟨d1, d2⟩
theorem CP_no {u : SR} {s : Nat} {r : ZP} {p k : Int32} {g : Nat → Int32} (hp : p.toInt = r.2.1) (h : r.1 = false) : CP u s r (some (0, (p, (k, g)))) := ⟨0, p, k, g, rfl, hp, Or.inr ⟨h, rfl⟩⟩
theorem c_skY {u : SR} {n : Nat} {c : Nat → Int} (T : TR u n c) {a : Nat} (ha : (R_at u).toInt = a) {x : Int32} (h : c a = x.toInt) (hx : 0 ≤ x.toInt ∧ x.toInt ≤ 127) : mR_skip x u = some (1, R_at u + 1) := by rw [c_skip T ha hx, if_pos h]
theorem c_skN {u : SR} {n : Nat} {c : Nat → Int} (T : TR u n c) {a : Nat} (ha : (R_at u).toInt = a) {x : Int32} (h : ¬ c a = x.toInt) (hx : 0 ≤ x.toInt ∧ x.toInt ≤ 127) : mR_skip x u = some (0, R_at u) := by rw [c_skip T ha hx, if_neg h]
theorem c_lt {n : Nat} {c : Nat → Int} (hc : ∀ k, n ≤ k → c k = -1) {a : Nat} (h : ¬ c a = -1) : a < n := by
  by_cases q : n ≤ a
  · exact absurd (hc a q) h
  · omega
theorem c_add {u : SR} (p k : Int32) (g : Nat → Int32) {K : Nat} (hk : k.toInt = K) (h : K < 100) (x : Int32) : mH_addStep x (R_toH2 (R_put_at_h_stepCount_h_steps (p, (k, g)) u)) = some (k + 1, upd g K x) := by
  have e1 : H_stepCount (R_toH2 (R_put_at_h_stepCount_h_steps (p, (k, g)) u)) = k := rfl
  have e2 : H_steps (R_toH2 (R_put_at_h_stepCount_h_steps (p, (k, g)) u)) = g := rfl
  unfold mH_addStep
  rw [e1, e2, if_neg (by (try simp only [z_in0, z_isPlaceM, z_isPlaceN, z_isLetterN, z_isTenthN, z_isTapeN, z_isTapeM]); (try simp only [Int32.lt_iff_toInt_lt, Int32.le_iff_toInt_le, ← Int32.toInt_inj, Int32.reduceToInt, Int64.reduceToInt]); omega), zgi_ok _ (by omega) (by omega), z_nat, hk, Int.toNat_natCast]
theorem plc_no {x : Int} (h : x < 102 ∨ 116 < x) : plc x = -1 := by
  unfold plc
  rw [if_neg (by omega), if_neg (by omega), if_neg (by omega), if_neg (by omega), if_neg (by omega)]
theorem c_chr {u : SR} {n : Nat} {c : Nat → Int} (T : TR u n c) {a : Nat} (ha : (R_at u).toInt = a) (h : a < n) : (R_text u (R_at u).toNatClampNeg).toInt = c a % 256 ∧ -128 ≤ c a ∧ c a ≤ 127 := by
  rw [z_nat, ha, Int.toNat_natCast]
  exact T.2.2.1 a h
theorem c_one5 {u : SR} {n : Nat} {c : Nat → Int} (T : TR u n c) {a : Nat} (ha : (R_at u).toInt = a) : mR_readOneOf 5 u = if plc (c a) < 0 then some (-1, R_at u) else some (Int32.ofInt (plc (c a)), R_at u + 1) := by
  have hl := T.1
  have h100 := T.2.1
  unfold mR_readOneOf
  by_cases h : n ≤ a
  · rw [if_neg (by (try simp only [z_in0, z_isPlaceM, z_isPlaceN, z_isLetterN, z_isTenthN, z_isTapeN, z_isTapeM]); (try simp only [Int32.lt_iff_toInt_lt, Int32.le_iff_toInt_le, ← Int32.toInt_inj, Int32.reduceToInt, Int64.reduceToInt]); omega), T.2.2.2 a h, if_pos (by decide)]
    unfold mR_readOneOf_J28
    rw [if_pos (by decide)]
  · obtain ⟨q1, q2, q3⟩ := c_chr T ha (by omega)
    have ep : plc (((c a % 256).toNat : Nat) : Int) = plc (c a) := by
      by_cases d : 0 ≤ c a
      · rw [show (((c a % 256).toNat : Nat) : Int) = c a by omega]
      · rw [plc_no (by omega), plc_no (by omega)]
    have ei := i_5 (c a % 256).toNat (by omega)
    rw [show Int32.ofNat (c a % 256).toNat = R_text u (R_at u).toNatClampNeg by rw [← q1]; exact z_ofNat (by omega), ep] at ei
    rw [if_pos (by (try simp only [z_in0, z_isPlaceM, z_isPlaceN, z_isLetterN, z_isTenthN, z_isTapeN, z_isTapeM]); (try simp only [Int32.lt_iff_toInt_lt, Int32.le_iff_toInt_le, ← Int32.toInt_inj, Int32.reduceToInt, Int64.reduceToInt]); omega), zgi_ok _ (by omega) (by omega), ei, Option.bind_some]
    unfold mR_readOneOf_J28
    have hp := plc_rg (c a)
    have e5 : (Int32.ofInt (plc (c a))).toInt = plc (c a) := ofInt_rg (by omega) (by omega)
    simp only [Int32.lt_iff_toInt_lt, e5, Int32.reduceToInt]
    by_cases d : plc (c a) < 0
    · rw [if_pos d, if_pos d, show plc (c a) = -1 by omega]
      rfl
    · rw [if_neg d, if_neg d]
theorem c_one6 {u : SR} {n : Nat} {c : Nat → Int} (T : TR u n c) {a : Nat} (ha : (R_at u).toInt = a) : mR_readOneOf 6 u = if c a < 60 ∨ 62 < c a then some (-1, R_at u) else some (Int32.ofInt (c a - 60), R_at u + 1) := by
  have hl := T.1
  have h100 := T.2.1
  unfold mR_readOneOf
  by_cases h : n ≤ a
  · rw [if_neg (by (try simp only [z_in0, z_isPlaceM, z_isPlaceN, z_isLetterN, z_isTenthN, z_isTapeN, z_isTapeM]); (try simp only [Int32.lt_iff_toInt_lt, Int32.le_iff_toInt_le, ← Int32.toInt_inj, Int32.reduceToInt, Int64.reduceToInt]); omega), T.2.2.2 a h, if_pos (by decide)]
    unfold mR_readOneOf_J28
    rw [if_pos (by decide)]
  · obtain ⟨q1, q2, q3⟩ := c_chr T ha (by omega)
    have ei := i_6 (c a % 256).toNat (by omega)
    rw [show Int32.ofNat (c a % 256).toNat = R_text u (R_at u).toNatClampNeg by rw [← q1]; exact z_ofNat (by omega)] at ei
    rw [if_pos (by (try simp only [z_in0, z_isPlaceM, z_isPlaceN, z_isLetterN, z_isTenthN, z_isTapeN, z_isTapeM]); (try simp only [Int32.lt_iff_toInt_lt, Int32.le_iff_toInt_le, ← Int32.toInt_inj, Int32.reduceToInt, Int64.reduceToInt]); omega), zgi_ok _ (by omega) (by omega), ei, Option.bind_some]
    unfold mR_readOneOf_J28
    by_cases d : c a < 60 ∨ 62 < c a
    · rw [if_pos d, if_neg (show ¬ (60 ≤ (c a % 256).toNat ∧ (c a % 256).toNat ≤ 62) by omega), if_pos (by decide)]
    · have e5 : (Int32.ofInt (c a - 60)).toInt = c a - 60 := ofInt_rg (by omega) (by omega)
      have e6 : Int32.ofNat ((c a % 256).toNat - 60) = Int32.ofInt (c a - 60) := by
        rw [show (c a % 256).toNat - 60 = (Int32.ofInt (c a - 60)).toInt.toNat by omega]
        exact z_ofNat (by omega)
      rw [if_neg d, if_pos (show (60 ≤ (c a % 256).toNat ∧ (c a % 256).toNat ≤ 62) by omega), e6, if_neg (by rw [Int32.lt_iff_toInt_lt, e5]; simp only [Int32.reduceToInt]; omega)]
theorem c_test {u : SR} {n : Nat} {c : Nat → Int} {a s : Nat} (T : TR u n c) (ha : (R_at u).toInt = a) (han : a ≤ n) (hs : (R_h_stepCount u).toInt = s) (hsa : s ≤ a) : CP u s (spTest c a) (mR_readTest u) := by
  have h100 := T.2.1
  have hx := z_one (R_at u) (by omega) (by omega)
  have TT : ∀ p, TR (R_put_at_h_stepCount_h_steps p u) n c := fun _ => T
  unfold mR_readTest
  unfold spTest
  by_cases h1 : plc (c a) < 0
  · rw [if_pos h1]
    refine CP_b ((c_one5 T ha).trans (if_pos h1)) ?_
    rw [if_neg (show ¬ (0 : Int32) ≤ -1 by decide)]
    unfold mR_readTest_J21
    rw [if_neg (show ¬ (0 : Int32) ≤ -1 by decide)]
    unfold mR_readTest_J34
    rw [if_neg (show ¬ (0 : Int32) ≤ -1 by decide)]
    exact CP_no ha rfl
  · have hp := plc_rg (c a)
    have hn : a < n := c_lt T.2.2.2 (fun e => h1 (by rw [e]; decide))
    have e5 : (Int32.ofInt (plc (c a))).toInt = plc (c a) := ofInt_rg (by omega) (by omega)
    have p1 : (0 : Int32) ≤ Int32.ofInt (plc (c a)) := by rw [Int32.le_iff_toInt_le, e5]; simp only [Int32.reduceToInt]; omega
    rw [if_neg h1]
    refine CP_b ((c_one5 T ha).trans (if_neg h1)) ?_
    rw [if_pos p1]
    have o6 := c_one6 (TT (R_at u + 1, (R_h_stepCount u, R_h_steps u))) (a := a + 1) (by show (R_at u + 1).toInt = _; omega)
    by_cases h2 : c (a + 1) < 60 ∨ 62 < c (a + 1)
    · rw [if_pos h2]
      refine CP_b (o6.trans (if_pos h2)) ?_
      unfold mR_readTest_J21
      rw [if_neg (show ¬ (0 : Int32) ≤ -1 by decide)]
      unfold mR_readTest_J34
      rw [if_neg (show ¬ (0 : Int32) ≤ -1 by decide)]
      exact CP_no (show (R_at u + 1).toInt = ((a + 1 : Nat) : Int) by omega) rfl
    · rw [if_neg h2]
      refine CP_b (o6.trans (if_neg h2)) ?_
      have hn2 : a + 1 < n := c_lt T.2.2.2 (fun e => h2 (by rw [e]; decide))
      have hx2 := z_one (R_at u + 1) (by omega) (by omega)
      have e6 : (Int32.ofInt (c (a + 1) - 60)).toInt = c (a + 1) - 60 := ofInt_rg (by omega) (by omega)
      have p2 : (0 : Int32) ≤ Int32.ofInt (c (a + 1) - 60) := by rw [Int32.le_iff_toInt_le, e6]; simp only [Int32.reduceToInt]; omega
      unfold mR_readTest_J21
      rw [if_pos p2]
      obtain ⟨w1, w2⟩ := c_number (TT (R_at u + 1 + 1, (R_h_stepCount u, R_h_steps u))) (a := a + 2) (by show (R_at u + 1 + 1).toInt = _; omega) (by omega)
      cases hq : spNum c (a + 2) with
      | none =>
        refine CP_b (w1 hq) ?_
        unfold mR_readTest_J34
        rw [if_neg (show ¬ (0 : Int32) ≤ -1 by decide)]
        exact CP_no (show (R_at u + 1 + 1).toInt = ((a + 2 : Nat) : Int) by omega) rfl
      | some r =>
        obtain ⟨d, b⟩ := r
        obtain ⟨g1, g2, g3, g4⟩ := spNum_rg T.2.2.2 hq
        obtain ⟨p, q, f1, f2, f3⟩ := w2 d b hq
        refine CP_b f1 ?_
        unfold mR_readTest_J34
        rw [if_pos (show (0 : Int32) ≤ q by rw [Int32.le_iff_toInt_le, f3]; simp only [Int32.reduceToInt]; omega)]
        refine CP_b (c_add p (R_h_stepCount u) (R_h_steps u) (K := s) hs (by omega) _) ?_
        refine ⟨1, p, R_h_stepCount u + 1, _, rfl, f2, Or.inl ⟨rfl, rfl, ?_, fun i hi => upd_ne _ _ (by omega), zst_one ?_⟩⟩
        · rw [z_one _ (by omega) (by omega), hs]
          rfl
        · refine (upd_eq _ _ _).trans ?_
          rw [← Int32.toInt_inj]
          show (mN_testStep (Int32.ofInt (plc (c a))) (Int32.ofInt (c (a + 1) - 60)) q).toInt = (Int32.ofInt (3 + 300 * plc (c a) + 100 * (c (a + 1) - 60) + d)).toInt
          rw [ofInt_rg (by omega) (by omega)]
          unfold mN_testStep
          have k1 : (Int32.ofInt (plc (c a)) * 3).toInt = plc (c a) * 3 := by rw [z_mulI (by rw [e5]; simp only [Int32.reduceToInt]; omega) (by rw [e5]; simp only [Int32.reduceToInt]; omega), e5]; simp only [Int32.reduceToInt]
          have k2 : (Int32.ofInt (plc (c a)) * 3 + Int32.ofInt (c (a + 1) - 60)).toInt = plc (c a) * 3 + (c (a + 1) - 60) := by rw [z_addI (by omega) (by omega), k1, e6]
          have k3 : ((Int32.ofInt (plc (c a)) * 3 + Int32.ofInt (c (a + 1) - 60)) * 100).toInt = (plc (c a) * 3 + (c (a + 1) - 60)) * 100 := by rw [z_mulI (by rw [k2]; simp only [Int32.reduceToInt]; omega) (by rw [k2]; simp only [Int32.reduceToInt]; omega), k2]; simp only [Int32.reduceToInt]
          have k4 : (3 + (Int32.ofInt (plc (c a)) * 3 + Int32.ofInt (c (a + 1) - 60)) * 100).toInt = 3 + (plc (c a) * 3 + (c (a + 1) - 60)) * 100 := by rw [z_addI (by rw [k3]; simp only [Int32.reduceToInt]; omega) (by rw [k3]; simp only [Int32.reduceToInt]; omega), k3]; simp only [Int32.reduceToInt]
          rw [z_addI (by omega) (by omega), k4, f3]
          omega
theorem c_L38 {c : Nat → Int} {n m : Nat} {RF : Int32 → SR → Option (Int32 × Int32 × Int32 × (Nat → Int32))} {x1 : Int32} {P : Nat → ZP} (hr : CH c n RF x1 P) (hg : zGd n m P) : ∀ (k N : Nat) (x2 : Int32) (u : SR) (a s : Nat), k < N → 0 ≤ x2.toInt → x2.toInt + k = n → TR u n c → (R_at u).toInt = a → a ≤ n → (R_h_stepCount u).toInt = s → s ≤ a → CP u s (spL c 38 P 1 k a) (mR_readAll_L12 RF x1 N x2 u)
  | 0, N, x2, u, a, s, hN, h0, hx, T, ha, han, hs, hsa => by
    obtain ⟨N, rfl⟩ : ∃ M, N = M + 1 := ⟨N - 1, by omega⟩
    have hl := T.1
    rw [mR_readAll_L12, if_pos (by (try simp only [z_in0, z_isPlaceM, z_isPlaceN, z_isLetterN, z_isTenthN, z_isTapeN, z_isTapeM]); (try simp only [Int32.lt_iff_toInt_lt, Int32.le_iff_toInt_le, ← Int32.toInt_inj, Int32.reduceToInt, Int64.reduceToInt]); omega)]
    exact ⟨1, _, _, _, rfl, ha, Or.inl ⟨rfl, rfl, hs, fun _ _ => rfl, fun k h => absurd h (Nat.not_lt_zero k)⟩⟩
  | k + 1, N, x2, u, a, s, hN, h0, hx, T, ha, han, hs, hsa => by
    obtain ⟨N, rfl⟩ : ∃ M, N = M + 1 := ⟨N - 1, by omega⟩
    have hl := T.1
    have h100 := T.2.1
    have hx1 := z_one (R_at u) (by omega) (by omega)
    have hx2 := z_one x2 (by omega) (by omega)
    rw [mR_readAll_L12, if_neg (by (try simp only [z_in0, z_isPlaceM, z_isPlaceN, z_isLetterN, z_isTenthN, z_isTapeN, z_isTapeM]); (try simp only [Int32.lt_iff_toInt_lt, Int32.le_iff_toInt_le, ← Int32.toInt_inj, Int32.reduceToInt, Int64.reduceToInt]); omega), spL]
    by_cases c1 : c a = 38
    · have hn : a < n := c_lt T.2.2.2 (by omega)
      rw [if_pos c1]
      refine CP_b (c_skY T ha (x := 38) (c1.trans (by decide)) (by decide)) ?_
      rw [if_neg (show ¬ (1 : Int32) = 0 by decide)]
      obtain ⟨x, p, k', g, e, hp, hd⟩ := hr (R_put_at_h_stepCount_h_steps (R_at u + 1, (R_h_stepCount u, R_h_steps u)) u) (a + 1) s T (by show (R_at u + 1).toInt = _; omega) (by omega) hs (by omega)
      refine CP_b e ?_
      rcases hd with ⟨d1, rfl, d3, d4, d5⟩ | ⟨d1, rfl⟩
      · obtain ⟨g1, ⟨g2, g3⟩, g4⟩ := hg (a + 1) d1
        rw [if_neg (show ¬ (1 : Int32) = 0 by decide), if_pos d1, List.append_cons]
        refine CP_b (c_add p k' g (K := s + (P (a + 1)).2.2.length) d3 (by omega) 1) ?_
        have hk1 := z_one k' (by omega) (by omega)
        refine CP_seq (A := (P (a + 1)).2.2 ++ [1]) (g := upd g (s + (P (a + 1)).2.2.length) 1) (u' := R_put_at_h_stepCount_h_steps (p, (k' + 1, upd g (s + (P (a + 1)).2.2.length) 1)) u) (zst_upd d5 1) (fun i hi => ?_) (fun i hi => rfl) (c_L38 hr hg k N (x2 + 1) _ (P (a + 1)).2.1 _ (by omega) (by omega) (by omega) T hp g3 ?_ ?_)
        · rw [upd_ne _ _ (by omega)]
          exact d4 i hi
        · show (k' + 1).toInt = _
          rw [List.length_append, List.length_singleton]
          omega
        · rw [List.length_append, List.length_singleton]
          omega
      · rw [if_pos rfl, if_neg (by rw [d1]; decide)]
        exact CP_no hp d1
    · rw [if_neg c1]
      refine CP_b (c_skN T ha (x := 38) (fun e => c1 (e.trans (by decide))) (by decide)) ?_
      rw [if_pos rfl]
      exact ⟨1, _, _, _, rfl, ha, Or.inl ⟨rfl, rfl, hs, fun _ _ => rfl, fun k h => absurd h (Nat.not_lt_zero k)⟩⟩
theorem c_R38 {c : Nat → Int} {n m : Nat} {RF : Int32 → SR → Option (Int32 × Int32 × Int32 × (Nat → Int32))} {x1 : Int32} {P : Nat → ZP} (hr : CH c n RF x1 P) (hg : zGd n m P) : CH c n (mR_readAll RF) x1 (spR c 38 P 1 n) := by
  intro u a s T ha han hs hsa
  have h100 := T.2.1
  unfold mR_readAll
  obtain ⟨x, p, k', g, e, hp, hd⟩ := hr u a s T ha han hs hsa
  refine CP_b e ?_
  unfold spR
  rcases hd with ⟨d1, rfl, d3, d4, d5⟩ | ⟨d1, rfl⟩
  · obtain ⟨g1, ⟨g2, g3⟩, g4⟩ := hg a d1
    rw [if_neg (show ¬ (1 : Int32) = 0 by decide), if_pos d1]
    exact CP_seq (u' := R_put_at_h_stepCount_h_steps (p, (k', g)) u) d5 d4 (fun _ _ => rfl) (c_L38 hr hg n 256 0 _ _ _ (by omega) (by decide) (by simp only [Int32.reduceToInt]; omega) T hp g3 d3 (by omega))
  · rw [if_pos rfl, if_neg (by rw [d1]; decide)]
    exact CP_no hp d1
theorem c_L124 {c : Nat → Int} {n m : Nat} {RF : Int32 → SR → Option (Int32 × Int32 × Int32 × (Nat → Int32))} {x1 : Int32} {P : Nat → ZP} (hr : CH c n RF x1 P) (hg : zGd n m P) : ∀ (k N : Nat) (x2 : Int32) (u : SR) (a s : Nat), k < N → 0 ≤ x2.toInt → x2.toInt + k = n → TR u n c → (R_at u).toInt = a → a ≤ n → (R_h_stepCount u).toInt = s → s ≤ a → CP u s (spL c 124 P 2 k a) (mR_readAny_L12 RF x1 N x2 u)
  | 0, N, x2, u, a, s, hN, h0, hx, T, ha, han, hs, hsa => by
    obtain ⟨N, rfl⟩ : ∃ M, N = M + 1 := ⟨N - 1, by omega⟩
    have hl := T.1
    rw [mR_readAny_L12, if_pos (by (try simp only [z_in0, z_isPlaceM, z_isPlaceN, z_isLetterN, z_isTenthN, z_isTapeN, z_isTapeM]); (try simp only [Int32.lt_iff_toInt_lt, Int32.le_iff_toInt_le, ← Int32.toInt_inj, Int32.reduceToInt, Int64.reduceToInt]); omega)]
    exact ⟨1, _, _, _, rfl, ha, Or.inl ⟨rfl, rfl, hs, fun _ _ => rfl, fun k h => absurd h (Nat.not_lt_zero k)⟩⟩
  | k + 1, N, x2, u, a, s, hN, h0, hx, T, ha, han, hs, hsa => by
    obtain ⟨N, rfl⟩ : ∃ M, N = M + 1 := ⟨N - 1, by omega⟩
    have hl := T.1
    have h100 := T.2.1
    have hx1 := z_one (R_at u) (by omega) (by omega)
    have hx2 := z_one x2 (by omega) (by omega)
    rw [mR_readAny_L12, if_neg (by (try simp only [z_in0, z_isPlaceM, z_isPlaceN, z_isLetterN, z_isTenthN, z_isTapeN, z_isTapeM]); (try simp only [Int32.lt_iff_toInt_lt, Int32.le_iff_toInt_le, ← Int32.toInt_inj, Int32.reduceToInt, Int64.reduceToInt]); omega), spL]
    by_cases c1 : c a = 124
    · have hn : a < n := c_lt T.2.2.2 (by omega)
      rw [if_pos c1]
      refine CP_b (c_skY T ha (x := 124) (c1.trans (by decide)) (by decide)) ?_
      rw [if_neg (show ¬ (1 : Int32) = 0 by decide)]
      obtain ⟨x, p, k', g, e, hp, hd⟩ := hr (R_put_at_h_stepCount_h_steps (R_at u + 1, (R_h_stepCount u, R_h_steps u)) u) (a + 1) s T (by show (R_at u + 1).toInt = _; omega) (by omega) hs (by omega)
      refine CP_b e ?_
      rcases hd with ⟨d1, rfl, d3, d4, d5⟩ | ⟨d1, rfl⟩
      · obtain ⟨g1, ⟨g2, g3⟩, g4⟩ := hg (a + 1) d1
        rw [if_neg (show ¬ (1 : Int32) = 0 by decide), if_pos d1, List.append_cons]
        refine CP_b (c_add p k' g (K := s + (P (a + 1)).2.2.length) d3 (by omega) 2) ?_
        have hk1 := z_one k' (by omega) (by omega)
        refine CP_seq (A := (P (a + 1)).2.2 ++ [2]) (g := upd g (s + (P (a + 1)).2.2.length) 2) (u' := R_put_at_h_stepCount_h_steps (p, (k' + 1, upd g (s + (P (a + 1)).2.2.length) 2)) u) (zst_upd d5 2) (fun i hi => ?_) (fun i hi => rfl) (c_L124 hr hg k N (x2 + 1) _ (P (a + 1)).2.1 _ (by omega) (by omega) (by omega) T hp g3 ?_ ?_)
        · rw [upd_ne _ _ (by omega)]
          exact d4 i hi
        · show (k' + 1).toInt = _
          rw [List.length_append, List.length_singleton]
          omega
        · rw [List.length_append, List.length_singleton]
          omega
      · rw [if_pos rfl, if_neg (by rw [d1]; decide)]
        exact CP_no hp d1
    · rw [if_neg c1]
      refine CP_b (c_skN T ha (x := 124) (fun e => c1 (e.trans (by decide))) (by decide)) ?_
      rw [if_pos rfl]
      exact ⟨1, _, _, _, rfl, ha, Or.inl ⟨rfl, rfl, hs, fun _ _ => rfl, fun k h => absurd h (Nat.not_lt_zero k)⟩⟩
theorem c_R124 {c : Nat → Int} {n m : Nat} {RF : Int32 → SR → Option (Int32 × Int32 × Int32 × (Nat → Int32))} {x1 : Int32} {P : Nat → ZP} (hr : CH c n RF x1 P) (hg : zGd n m P) : CH c n (mR_readAny RF) x1 (spR c 124 P 2 n) := by
  intro u a s T ha han hs hsa
  have h100 := T.2.1
  unfold mR_readAny
  obtain ⟨x, p, k', g, e, hp, hd⟩ := hr u a s T ha han hs hsa
  refine CP_b e ?_
  unfold spR
  rcases hd with ⟨d1, rfl, d3, d4, d5⟩ | ⟨d1, rfl⟩
  · obtain ⟨g1, ⟨g2, g3⟩, g4⟩ := hg a d1
    rw [if_neg (show ¬ (1 : Int32) = 0 by decide), if_pos d1]
    exact CP_seq (u' := R_put_at_h_stepCount_h_steps (p, (k', g)) u) d5 d4 (fun _ _ => rfl) (c_L124 hr hg n 256 0 _ _ _ (by omega) (by decide) (by simp only [Int32.reduceToInt]; omega) T hp g3 d3 (by omega))
  · rw [if_pos rfl, if_neg (by rw [d1]; decide)]
    exact CP_no hp d1
theorem c_facT {u : SR} {n : Nat} {c : Nat → Int} {a s : Nat} {RA RF : Int32 → SR → Option (Int32 × Int32 × Int32 × (Nat → Int32))} (x : Int32) (T : TR u n c) (ha : (R_at u).toInt = a) (han : a ≤ n) (hs : (R_h_stepCount u).toInt = s) (hsa : s ≤ a) (h1 : ¬ c a = 40) (h2 : ¬ c a = 33) : CP u s (spTest c a) (mR_readFactor RA RF x u) := by
  have hl := T.1
  have h100 := T.2.1
  have key : CP u s (spTest c a) ((mR_readTest u).bind fun q => zgb q.1 (some (q.1, (q.2.1, q.2.2.1, q.2.2.2)))) := by
    obtain ⟨x, p, k, g, e, hp, hd⟩ := c_test T ha han hs hsa
    refine CP_b e ?_
    rcases hd with ⟨d1, rfl, d⟩ | ⟨d1, rfl⟩
    · exact ⟨1, p, k, g, if_pos (Or.inr rfl), hp, Or.inl ⟨d1, rfl, d⟩⟩
    · exact ⟨0, p, k, g, if_pos (Or.inl rfl), hp, Or.inr ⟨d1, rfl⟩⟩
  unfold mR_readFactor
  by_cases hn : n ≤ a
  · rw [if_pos (by (try simp only [z_in0, z_isPlaceM, z_isPlaceN, z_isLetterN, z_isTenthN, z_isTapeN, z_isTapeM]); (try simp only [Int32.lt_iff_toInt_lt, Int32.le_iff_toInt_le, ← Int32.toInt_inj, Int32.reduceToInt, Int64.reduceToInt]); omega)]
    exact key
  · obtain ⟨q1, q2, q3⟩ := c_chr T ha (by omega)
    rw [if_neg (by (try simp only [z_in0, z_isPlaceM, z_isPlaceN, z_isLetterN, z_isTenthN, z_isTapeN, z_isTapeM]); (try simp only [Int32.lt_iff_toInt_lt, Int32.le_iff_toInt_le, ← Int32.toInt_inj, Int32.reduceToInt, Int64.reduceToInt]); omega), zgi_ok _ (by omega) (by omega), if_neg (by (try simp only [z_in0, z_isPlaceM, z_isPlaceN, z_isLetterN, z_isTenthN, z_isTapeN, z_isTapeM]); (try simp only [Int32.lt_iff_toInt_lt, Int32.le_iff_toInt_le, ← Int32.toInt_inj, Int32.reduceToInt, Int64.reduceToInt]); omega), zgi_ok _ (by omega) (by omega), if_neg (by (try simp only [z_in0, z_isPlaceM, z_isPlaceN, z_isLetterN, z_isTenthN, z_isTapeN, z_isTapeM]); (try simp only [Int32.lt_iff_toInt_lt, Int32.le_iff_toInt_le, ← Int32.toInt_inj, Int32.reduceToInt, Int64.reduceToInt]); omega)]
    exact key
theorem c_facJ {u : SR} {n : Nat} {c : Nat → Int} {a : Nat} {RA RF : Int32 → SR → Option (Int32 × Int32 × Int32 × (Nat → Int32))} (x : Int32) (T : TR u n c) (ha : (R_at u).toInt = a) (h1 : c a = 40 ∨ c a = 33) : mR_readFactor RA RF x u = mR_readFactor_J44 RA RF x u := by
  have hl := T.1
  have h100 := T.2.1
  have hn : a < n := c_lt T.2.2.2 (by omega)
  obtain ⟨q1, q2, q3⟩ := c_chr T ha hn
  unfold mR_readFactor
  rw [if_neg (by (try simp only [z_in0, z_isPlaceM, z_isPlaceN, z_isLetterN, z_isTenthN, z_isTapeN, z_isTapeM]); (try simp only [Int32.lt_iff_toInt_lt, Int32.le_iff_toInt_le, ← Int32.toInt_inj, Int32.reduceToInt, Int64.reduceToInt]); omega), zgi_ok _ (by omega) (by omega)]
  by_cases d : c a = 40
  · rw [if_pos (by (try simp only [z_in0, z_isPlaceM, z_isPlaceN, z_isLetterN, z_isTenthN, z_isTapeN, z_isTapeM]); (try simp only [Int32.lt_iff_toInt_lt, Int32.le_iff_toInt_le, ← Int32.toInt_inj, Int32.reduceToInt, Int64.reduceToInt]); omega)]
  · rw [if_neg (by (try simp only [z_in0, z_isPlaceM, z_isPlaceN, z_isLetterN, z_isTenthN, z_isTapeN, z_isTapeM]); (try simp only [Int32.lt_iff_toInt_lt, Int32.le_iff_toInt_le, ← Int32.toInt_inj, Int32.reduceToInt, Int64.reduceToInt]); omega), zgi_ok _ (by omega) (by omega), if_pos (by (try simp only [z_in0, z_isPlaceM, z_isPlaceN, z_isLetterN, z_isTenthN, z_isTapeN, z_isTapeM]); (try simp only [Int32.lt_iff_toInt_lt, Int32.le_iff_toInt_le, ← Int32.toInt_inj, Int32.reduceToInt, Int64.reduceToInt]); omega)]
theorem c_F {c : Nat → Int} {n : Nat} (hc : ∀ k, n ≤ k → c k = -1) : ∀ (d m : Nat) (x1 : Int32), d ≤ 4 → d < m → x1.toInt + d = 4 → CH c n (mR_F m) x1 (spF c n d)
  | 0, m, x1, h4, hm, hx => by
    intro u a s T ha han hs hsa
    obtain ⟨m, rfl⟩ : ∃ M, m = M + 1 := ⟨m - 1, by omega⟩
    rw [mR_F, spF]
    by_cases c1 : c a = 40 ∨ c a = 33
    · rw [if_pos c1, c_facJ x1 T ha c1]
      unfold mR_readFactor_J44
      rw [if_neg (by (try simp only [z_in0, z_isPlaceM, z_isPlaceN, z_isLetterN, z_isTenthN, z_isTapeN, z_isTapeM]); (try simp only [Int32.lt_iff_toInt_lt, Int32.le_iff_toInt_le, ← Int32.toInt_inj, Int32.reduceToInt, Int64.reduceToInt]); omega)]
      exact CP_no ha rfl
    · rw [if_neg c1]
      exact c_facT x1 T ha han hs hsa (fun e => c1 (Or.inl e)) (fun e => c1 (Or.inr e))
  | d + 1, m, x1, h4, hm, hx => by
    intro u a s T ha han hs hsa
    have h100 := T.2.1
    obtain ⟨m, rfl⟩ : ∃ M, m = M + 1 := ⟨m - 1, by omega⟩
    have hx1 := z_one (R_at u) (by omega) (by omega)
    have hy1 := z_one x1 (by omega) (by omega)
    have iF := c_F hc d m (x1 + 1) (by omega) (by omega) (by omega)
    have gF := spF_gd hc d
    have iE : CH c n (mR_readAny (mR_readAll (mR_F m))) (x1 + 1) (spE c n (spF c n d)) := c_R124 (c_R38 iF gF) (spR_gd gF (Or.inl rfl) n)
    have gE := spE_gd (c := c) gF
    rw [mR_F, spF]
    by_cases c1 : c a = 40
    · have hn : a < n := c_lt hc (by omega)
      rw [if_pos c1, c_facJ x1 T ha (Or.inl c1)]
      unfold mR_readFactor_J44
      rw [if_pos (by (try simp only [z_in0, z_isPlaceM, z_isPlaceN, z_isLetterN, z_isTenthN, z_isTapeN, z_isTapeM]); (try simp only [Int32.lt_iff_toInt_lt, Int32.le_iff_toInt_le, ← Int32.toInt_inj, Int32.reduceToInt, Int64.reduceToInt]); omega)]
      refine CP_b (c_skY T ha (x := 40) (c1.trans (by decide)) (by decide)) ?_
      rw [if_neg (show ¬ (1 : Int32) = 0 by decide)]
      obtain ⟨x, p, k, g, e, hp, hd⟩ := iE (R_put_at_h_stepCount_h_steps (R_at u + 1, (R_h_stepCount u, R_h_steps u)) u) (a + 1) s T (by show (R_at u + 1).toInt = _; omega) (by omega) hs (by omega)
      refine CP_b e ?_
      unfold spBr
      rcases hd with ⟨d1, rfl, d3, d4, d5⟩ | ⟨d1, rfl⟩
      · obtain ⟨g1, ⟨g2, g3⟩, g4⟩ := gE (a + 1) d1
        rw [if_neg (show ¬ (1 : Int32) = 0 by decide), if_pos d1]
        have TT : TR (R_put_at_h_stepCount_h_steps (p, (k, g)) u) n c := T
        by_cases c3 : c (spE c n (spF c n d) (a + 1)).2.1 = 41
        · rw [if_pos c3]
          refine CP_b (c_skY TT hp (x := 41) (c3.trans (by decide)) (by decide)) ?_
          rw [if_neg (show ¬ (1 : Int32) = 0 by decide)]
          refine ⟨1, p + 1, k, g, rfl, ?_, Or.inl ⟨rfl, rfl, d3, d4, d5⟩⟩
          rw [z_one p (by omega) (by omega), hp]
          rfl
        · rw [if_neg c3]
          refine CP_b (c_skN TT hp (x := 41) (fun e => c3 (e.trans (by decide))) (by decide)) ?_
          rw [if_pos rfl]
          exact CP_no hp rfl
      · rw [if_pos rfl, if_neg (by rw [d1]; decide)]
        exact CP_no hp d1
    · rw [if_neg c1]
      by_cases c2 : c a = 33
      · have hn : a < n := c_lt hc (by omega)
        rw [if_pos c2, c_facJ x1 T ha (Or.inr c2)]
        unfold mR_readFactor_J44
        rw [if_pos (by (try simp only [z_in0, z_isPlaceM, z_isPlaceN, z_isLetterN, z_isTenthN, z_isTapeN, z_isTapeM]); (try simp only [Int32.lt_iff_toInt_lt, Int32.le_iff_toInt_le, ← Int32.toInt_inj, Int32.reduceToInt, Int64.reduceToInt]); omega)]
        refine CP_b (c_skN T ha (x := 40) (fun e => c1 (e.trans (by decide))) (by decide)) ?_
        rw [if_pos rfl]
        obtain ⟨x, p, k, g, e, hp, hd⟩ := iF (R_put_at_h_stepCount_h_steps (R_at u + 1, (R_h_stepCount u, R_h_steps u)) u) (a + 1) s T (by show (R_at u + 1).toInt = _; omega) (by omega) hs (by omega)
        refine CP_b e ?_
        unfold spNo
        rcases hd with ⟨d1, rfl, d3, d4, d5⟩ | ⟨d1, rfl⟩
        · obtain ⟨g1, ⟨g2, g3⟩, g4⟩ := gF (a + 1) d1
          rw [if_neg (show ¬ (1 : Int32) = 0 by decide), if_pos d1]
          refine CP_b (c_add p k g (K := s + (spF c n d (a + 1)).2.2.length) d3 (by omega) 0) ?_
          refine ⟨1, p, k + 1, _, rfl, hp, Or.inl ⟨rfl, rfl, ?_, fun i hi => (upd_ne _ _ (by omega)).trans (d4 i hi), zst_upd d5 0⟩⟩
          rw [z_one k (by omega) (by omega), d3, List.length_append, List.length_singleton]
          omega
        · rw [if_pos rfl, if_neg (by rw [d1]; decide)]
          exact CP_no hp d1
      · rw [if_neg c2]
        exact c_facT x1 T ha han hs hsa c1 c2
/-- E -/
def spTop (c : Nat → Int) (n a : Nat) : ZP := spE c n (spF c n 4) a
theorem spTop_gd {c : Nat → Int} {n : Nat} (hc : ∀ k, n ≤ k → c k = -1) : zGd n 11 (spTop c n) := spE_gd (spF_gd hc 4)
theorem c_top {c : Nat → Int} {n : Nat} (hc : ∀ k, n ≤ k → c k = -1) : CH c n mR_readAnyC 0 (spTop c n) := fun u a s T ha han hs hsa => c_R124 (c_R38 (c_F hc 4 8 0 (by decide) (by decide) (by decide)) (spF_gd hc 4)) (spR_gd (spF_gd hc 4) (Or.inl rfl) n) u a s T ha han hs hsa
