/-! 09.P30: the words -/
def zwl (i : Nat) : List Int := if i = 0 then [101, 97, 114] else if i = 1 then [101, 121, 101] else if i = 2 then [108, 97, 116, 101] else if i = 3 then [104, 101, 97, 114, 115] else [115, 119, 97, 112]
/-- how many of these come -/
def spPre (c : Nat → Int) : List Int → Nat → Nat
  | [], _ => 0
  | x :: L, a => if c a = x then spPre c L (a + 1) + 1 else 0
def spSel (c : Nat → Int) (a : Nat) : Nat := if c a = 101 then (if c (a + 1) = 121 then 1 else 0) else if c a = 104 then 3 else if c a = 108 then 2 else 4
def spP (c : Nat → Int) (a : Nat) : Nat := spPre c (zwl (spSel c a)) a
theorem spPre_le (c : Nat → Int) : ∀ (L : List Int) (a : Nat), spPre c L a ≤ L.length
  | [], _ => Nat.le_refl 0
  | x :: L, a => by
    rw [spPre]
    by_cases h : c a = x
    · rw [if_pos h, List.length_cons]
      exact Nat.succ_le_succ (spPre_le c L (a + 1))
    · rw [if_neg h]
      exact Nat.zero_le _
theorem spPre_lt {c : Nat → Int} {n : Nat} (hc : ∀ k, n ≤ k → c k = -1) : ∀ (L : List Int) (a : Nat), (∀ x ∈ L, ¬ x = -1) → a ≤ n → a + spPre c L a ≤ n
  | [], _, _, h => h
  | x :: L, a, hL, h => by
    rw [spPre]
    by_cases e : c a = x
    · rw [if_pos e]
      have hn : a < n := c_lt hc (by rw [e]; exact hL x (List.mem_cons_self))
      have := spPre_lt hc L (a + 1) (fun y hy => hL y (List.mem_cons_of_mem _ hy)) hn
      omega
    · rw [if_neg e]
      exact h
theorem zwl_rg : ∀ i, i < 5 → ∀ j, j < (zwl i).length → 97 ≤ (zwl i).getD j 0 ∧ (zwl i).getD j 0 ≤ 121 := by decide +kernel
theorem zwl_le : ∀ i, i < 5 → 3 ≤ (zwl i).length ∧ (zwl i).length ≤ 5 := by decide +kernel
theorem zwl_n1 : ∀ i, i < 5 → ∀ x ∈ zwl i, ¬ x = -1 := by decide +kernel
theorem w_ch : ∀ i, i < 5 → ∀ j, j < (zwl i).length → mN_charAt_5068e i (Int32.ofNat j) = some (Int32.ofInt ((zwl i).getD j 0)) := by decide +kernel
theorem w_len : ∀ i, i < 5 → mN_length_8abf5 i = Int32.ofNat (zwl i).length := by decide +kernel
theorem w_len2 : ∀ i, i < 5 → (Int32.ofNat (zwl i).length).toInt = (zwl i).length := by decide +kernel
theorem w_of : ∀ i, i < 5 → mN_wordOf (Int32.ofNat i) = i := by decide +kernel
theorem zwl_drop {i k : Nat} (hk : k < (zwl i).length) : (zwl i).drop k = (zwl i).getD k 0 :: (zwl i).drop (k + 1) := by
  rw [List.drop_eq_getElem_cons hk, List.getD_eq_getElem?_getD, List.getElem?_eq_getElem hk, Option.getD_some]
theorem spSel_lt (c : Nat → Int) (a : Nat) : spSel c a < 5 := by
  unfold spSel
  by_cases h1 : c a = 101
  · rw [if_pos h1]
    by_cases h2 : c (a + 1) = 121
    · rw [if_pos h2]; omega
    · rw [if_neg h2]; omega
  · rw [if_neg h1]
    by_cases h2 : c a = 104
    · rw [if_pos h2]; omega
    · rw [if_neg h2]
      by_cases h3 : c a = 108
      · rw [if_pos h3]; omega
      · rw [if_neg h3]; omega
theorem c_sameL {u : SR} {n : Nat} {c : Nat → Int} (T : TR u n c) {a : Nat} (ha : (R_at u).toInt = a) (han : a ≤ n) {i : Nat} (hi : i < 5) : ∀ (d k N : Nat) (x2 : Int32), k + d = (zwl i).length → d < N → x2.toInt = k → ∃ r, mR_sameAs_L2 i u N x2 = some r ∧ r.toInt = ((k + spPre c ((zwl i).drop k) (a + k) : Nat) : Int)
  | 0, k, N, x2, hk, hN, hx => by
    obtain ⟨N, rfl⟩ : ∃ M, N = M + 1 := ⟨N - 1, by omega⟩
    have w1 := w_len2 i hi
    rw [mR_sameAs_L2, w_len i hi, if_pos (by (try simp only [z_in0, z_isPlaceM, z_isPlaceN, z_isLetterN, z_isTenthN, z_isTapeN, z_isTapeM]); (try simp only [Int32.lt_iff_toInt_lt, Int32.le_iff_toInt_le, ← Int32.toInt_inj, Int32.reduceToInt, Int64.reduceToInt]); omega), List.drop_of_length_le (by omega)]
    exact ⟨_, rfl, by rw [w1, spPre]; omega⟩
  | d + 1, k, N, x2, hk, hN, hx => by
    obtain ⟨N, rfl⟩ : ∃ M, N = M + 1 := ⟨N - 1, by omega⟩
    have hl := T.1
    have h100 := T.2.1
    have w1 := w_len2 i hi
    have w2 := zwl_le i hi
    have w3 := zwl_rg i hi k (by omega)
    have hxa : (R_at u + x2).toInt = ((a + k : Nat) : Int) := by rw [z_addI (by omega) (by omega)]; omega
    have hx2 := z_one x2 (by omega) (by omega)
    have ex : x2 = Int32.ofNat k := by
      rw [show k = x2.toInt.toNat by omega]
      exact (z_ofNat (by omega)).symm
    rw [mR_sameAs_L2, w_len i hi, if_neg (by (try simp only [z_in0, z_isPlaceM, z_isPlaceN, z_isLetterN, z_isTenthN, z_isTapeN, z_isTapeM]); (try simp only [Int32.lt_iff_toInt_lt, Int32.le_iff_toInt_le, ← Int32.toInt_inj, Int32.reduceToInt, Int64.reduceToInt]); omega), zwl_drop (show k < (zwl i).length by omega), spPre]
    by_cases hn : n ≤ a + k
    · rw [if_pos (show R_length u ≤ R_at u + x2 by (try simp only [z_in0, z_isPlaceM, z_isPlaceN, z_isLetterN, z_isTenthN, z_isTapeN, z_isTapeM]); (try simp only [Int32.lt_iff_toInt_lt, Int32.le_iff_toInt_le, ← Int32.toInt_inj, Int32.reduceToInt, Int64.reduceToInt]); omega), if_neg (by rw [T.2.2.2 _ hn]; omega)]
      exact ⟨x2, rfl, by omega⟩
    · obtain ⟨q1, q2, q3⟩ := T.2.2.1 (a + k) (by omega)
      have e0 : (Int32.ofInt ((zwl i).getD k 0)).toInt = (zwl i).getD k 0 := ofInt_rg (by omega) (by omega)
      have et : R_text u (R_at u + x2).toNatClampNeg = R_text u (a + k) := by rw [z_nat, hxa, Int.toNat_natCast]
      have ec : mN_charAt_5068e i x2 = some (Int32.ofInt ((zwl i).getD k 0)) := by rw [ex]; exact w_ch i hi k (by omega)
      rw [if_neg (show ¬ R_length u ≤ R_at u + x2 by (try simp only [z_in0, z_isPlaceM, z_isPlaceN, z_isLetterN, z_isTenthN, z_isTapeN, z_isTapeM]); (try simp only [Int32.lt_iff_toInt_lt, Int32.le_iff_toInt_le, ← Int32.toInt_inj, Int32.reduceToInt, Int64.reduceToInt]); omega), zgi_ok _ (by omega) (by omega), ec, Option.bind_some, et]
      by_cases e : c (a + k) = (zwl i).getD k 0
      · obtain ⟨r, r1, r2⟩ := c_sameL T ha han hi d (k + 1) N (x2 + 1) (by omega) (by omega) (by omega)
        rw [if_pos e, if_pos (by rw [← Int32.toInt_inj, e0, q1]; omega)]
        exact ⟨r, r1, by rw [r2, Nat.add_assoc a k 1]; omega⟩
      · rw [if_neg e, if_neg (by rw [← Int32.toInt_inj, e0, q1]; omega)]
        exact ⟨x2, rfl, by omega⟩
theorem c_same {u : SR} {n : Nat} {c : Nat → Int} (T : TR u n c) {a : Nat} (ha : (R_at u).toInt = a) (han : a ≤ n) {i : Nat} (hi : i < 5) : ∃ r, mR_sameAs i u = some r ∧ r.toInt = ((spPre c (zwl i) a : Nat) : Int) := by
  obtain ⟨r, r1, r2⟩ := c_sameL T ha han hi (zwl i).length 0 256 0 (by omega) (by have := zwl_le i hi; omega) rfl
  refine ⟨r, r1, ?_⟩
  rw [r2, List.drop_zero, Nat.zero_add, Nat.add_zero]
/-- the word that comes, or how far any goes -/
theorem c_wordN {u : SR} {n : Nat} {c : Nat → Int} (T : TR u n c) {a : Nat} (ha : (R_at u).toInt = a) (han : a ≤ n) {i : Nat} (hi : i < 5) (N : Nat) {x1 : Int32} {m : Nat} (hm : x1.toInt = m) : (spPre c (zwl i) a = (zwl i).length → ∃ q : Int32, mR_readWord_L4 (N + 1) x1 (Int32.ofNat i) u = some (Int32.ofNat i, q) ∧ q.toInt = ((a + (zwl i).length : Nat) : Int)) ∧ (¬ spPre c (zwl i) a = (zwl i).length → ∃ x1' : Int32, x1'.toInt = ((if m < spPre c (zwl i) a then spPre c (zwl i) a else m : Nat) : Int) ∧ mR_readWord_L4 (N + 1) x1 (Int32.ofNat i) u = mR_readWord_L4 N x1' (Int32.ofNat i + 1) u) := by
  have h100 := T.2.1
  have w1 := w_len2 i hi
  have w2 := zwl_le i hi
  have w3 := spPre_le c (zwl i) a
  obtain ⟨r, r1, r2⟩ := c_same T ha han hi
  have hi5 : (Int32.ofNat i).toInt = i := by
    rcases (show i = 0 ∨ i = 1 ∨ i = 2 ∨ i = 3 ∨ i = 4 by omega) with rfl | rfl | rfl | rfl | rfl <;> rfl
  have h4 : ¬ (4 : Int32) < Int32.ofNat i := by rw [Int32.lt_iff_toInt_lt, hi5]; simp only [Int32.reduceToInt]; omega
  constructor
  · intro e
    refine ⟨R_at u + r, ?_, ?_⟩
    · rw [mR_readWord_L4, if_neg h4, w_of i hi, r1, Option.bind_some, w_len i hi, if_pos (by rw [← Int32.toInt_inj, r2, w1, e])]
    · rw [z_addI (by omega) (by omega)]
      omega
  · intro e
    refine ⟨zmax x1 r, ?_, ?_⟩
    · unfold zmax
      by_cases d : m < spPre c (zwl i) a
      · rw [if_pos d, if_pos (by rw [Int32.lt_iff_toInt_lt]; omega), r2]
      · rw [if_neg d, if_neg (by rw [Int32.lt_iff_toInt_lt]; omega), hm]
    · rw [mR_readWord_L4, if_neg h4, w_of i hi, r1, Option.bind_some, w_len i hi, if_neg (by rw [← Int32.toInt_inj, r2, w1]; omega)]
theorem c_word {u : SR} {n : Nat} {c : Nat → Int} (T : TR u n c) {a : Nat} (ha : (R_at u).toInt = a) (han : a ≤ n) : ∃ w q : Int32, mR_readWord u = some (w, q) ∧ (spP c a = (zwl (spSel c a)).length → w = Int32.ofNat (spSel c a) ∧ q.toInt = ((a + spP c a : Nat) : Int)) ∧ (¬ spP c a = (zwl (spSel c a)).length → w = -1 ∧ q.toInt = ((a + spP c a : Nat) : Int)) := by
  have h100 := T.2.1
  obtain ⟨K, hK⟩ : ∃ K : Nat, K = 250 := ⟨_, rfl⟩
  unfold mR_readWord
  rw [show (256 : Nat) = K + 1 + 1 + 1 + 1 + 1 + 1 by omega]
  obtain ⟨y0, n0⟩ := c_wordN T ha han (i := 0) (by decide) (K + 1 + 1 + 1 + 1 + 1) (x1 := 0) (m := 0) rfl
  have p0 : spPre c (zwl 0) a = if c a = 101 then (if c (a + 1) = 97 then (if c (a + 1 + 1) = 114 then 0 + 1 else 0) + 1 else 0) + 1 else 0 := rfl
  have p1 : spPre c (zwl 1) a = if c a = 101 then (if c (a + 1) = 121 then (if c (a + 1 + 1) = 101 then 0 + 1 else 0) + 1 else 0) + 1 else 0 := rfl
  have p2 : spPre c (zwl 2) a = if c a = 108 then spPre c [97, 116, 101] (a + 1) + 1 else 0 := rfl
  have p3 : spPre c (zwl 3) a = if c a = 104 then spPre c [101, 97, 114, 115] (a + 1) + 1 else 0 := rfl
  have p4 : spPre c (zwl 4) a = if c a = 115 then spPre c [119, 97, 112] (a + 1) + 1 else 0 := rfl
  have l0 : (zwl 0).length = 3 := rfl
  have l1 : (zwl 1).length = 3 := rfl
  have l2 : (zwl 2).length = 4 := rfl
  have l3 : (zwl 3).length = 5 := rfl
  have l4 : (zwl 4).length = 4 := rfl
  unfold spP
  have hs : spSel c a = if c a = 101 then (if c (a + 1) = 121 then 1 else 0) else if c a = 104 then 3 else if c a = 108 then 2 else 4 := rfl
  by_cases e0 : spPre c (zwl 0) a = (zwl 0).length
  · have f1 : c a = 101 := by
      by_cases d : c a = 101
      · exact d
      · rw [if_neg d] at p0; omega
    have f2 : c (a + 1) = 97 := by
      by_cases d : c (a + 1) = 97
      · exact d
      · rw [if_pos f1, if_neg d] at p0; omega
    rw [if_pos f1, if_neg (by omega)] at hs
    rw [hs]
    obtain ⟨q, q1, q2⟩ := y0 e0
    exact ⟨_, q, q1, fun _ => ⟨rfl, by rw [q2, e0]⟩, fun e => absurd e0 e⟩
  obtain ⟨m1, hm1, t1⟩ := n0 e0
  obtain ⟨y1, n1⟩ := c_wordN T ha han (i := 1) (by decide) (K + 1 + 1 + 1 + 1) hm1
  have t1' : mR_readWord_L4 (K + 1 + 1 + 1 + 1 + 1 + 1) 0 0 u = mR_readWord_L4 (K + 1 + 1 + 1 + 1 + 1) m1 (Int32.ofNat 1) u := t1
  rw [t1']
  by_cases e1 : spPre c (zwl 1) a = (zwl 1).length
  · have f1 : c a = 101 := by
      by_cases d : c a = 101
      · exact d
      · rw [if_neg d] at p1; omega
    have f2 : c (a + 1) = 121 := by
      by_cases d : c (a + 1) = 121
      · exact d
      · rw [if_pos f1, if_neg d] at p1; omega
    rw [if_pos f1, if_pos f2] at hs
    rw [hs]
    obtain ⟨q, q1, q2⟩ := y1 e1
    exact ⟨_, q, q1, fun _ => ⟨rfl, by rw [q2, e1]⟩, fun e => absurd e1 e⟩
  obtain ⟨m2, hm2, t2⟩ := n1 e1
  obtain ⟨y2, n2⟩ := c_wordN T ha han (i := 2) (by decide) (K + 1 + 1 + 1) hm2
  have t2' : mR_readWord_L4 (K + 1 + 1 + 1 + 1 + 1) m1 (Int32.ofNat 1) u = mR_readWord_L4 (K + 1 + 1 + 1 + 1) m2 (Int32.ofNat 2) u := t2
  rw [t2']
  by_cases e2 : spPre c (zwl 2) a = (zwl 2).length
  · have f1 : c a = 108 := by
      by_cases d : c a = 108
      · exact d
      · rw [if_neg d] at p2; omega
    rw [if_neg (by omega), if_neg (by omega), if_pos f1] at hs
    rw [hs]
    obtain ⟨q, q1, q2⟩ := y2 e2
    exact ⟨_, q, q1, fun _ => ⟨rfl, by rw [q2, e2]⟩, fun e => absurd e2 e⟩
  obtain ⟨m3, hm3, t3⟩ := n2 e2
  obtain ⟨y3, n3⟩ := c_wordN T ha han (i := 3) (by decide) (K + 1 + 1) hm3
  have t3' : mR_readWord_L4 (K + 1 + 1 + 1 + 1) m2 (Int32.ofNat 2) u = mR_readWord_L4 (K + 1 + 1 + 1) m3 (Int32.ofNat 3) u := t3
  rw [t3']
  by_cases e3 : spPre c (zwl 3) a = (zwl 3).length
  · have f1 : c a = 104 := by
      by_cases d : c a = 104
      · exact d
      · rw [if_neg d] at p3; omega
    rw [if_neg (by omega), if_pos f1] at hs
    rw [hs]
    obtain ⟨q, q1, q2⟩ := y3 e3
    exact ⟨_, q, q1, fun _ => ⟨rfl, by rw [q2, e3]⟩, fun e => absurd e3 e⟩
  obtain ⟨m4, hm4, t4⟩ := n3 e3
  obtain ⟨y4, n4⟩ := c_wordN T ha han (i := 4) (by decide) (K + 1) hm4
  have t4' : mR_readWord_L4 (K + 1 + 1 + 1) m3 (Int32.ofNat 3) u = mR_readWord_L4 (K + 1 + 1) m4 (Int32.ofNat 4) u := t4
  rw [t4']
  by_cases e4 : spPre c (zwl 4) a = (zwl 4).length
  · have f1 : c a = 115 := by
      by_cases d : c a = 115
      · exact d
      · rw [if_neg d] at p4; omega
    rw [if_neg (by omega), if_neg (by omega), if_neg (by omega)] at hs
    rw [hs]
    obtain ⟨q, q1, q2⟩ := y4 e4
    exact ⟨_, q, q1, fun _ => ⟨rfl, by rw [q2, e4]⟩, fun e => absurd e4 e⟩
  obtain ⟨m5, hm5, t5⟩ := n4 e4
  have t5' : mR_readWord_L4 (K + 1 + 1) m4 (Int32.ofNat 4) u = mR_readWord_L4 (K + 1) m5 5 u := t5
  have z0 := spPre_le c (zwl 0) a
  have z1 := spPre_le c (zwl 1) a
  have z2 := spPre_le c (zwl 2) a
  have z3 := spPre_le c (zwl 3) a
  have z4 := spPre_le c (zwl 4) a
  have key : m5.toInt = ((spPre c (zwl (spSel c a)) a : Nat) : Int) ∧ ¬ spPre c (zwl (spSel c a)) a = (zwl (spSel c a)).length := by
    rw [hm5]
    clear t1 t2 t3 t4 t5 t1' t2' t3' t4' t5' y0 y1 y2 y3 y4 n0 n1 n2 n3 n4 hm1 hm2 hm3 hm4 hm5
    by_cases d1 : c a = 101
    · have q2 : spPre c (zwl 2) a = 0 := by rw [p2, if_neg (by omega)]
      have q3 : spPre c (zwl 3) a = 0 := by rw [p3, if_neg (by omega)]
      have q4 : spPre c (zwl 4) a = 0 := by rw [p4, if_neg (by omega)]
      rw [if_pos d1] at p0 p1 hs
      rw [q2, q3, q4]
      by_cases d2 : c (a + 1) = 121
      · rw [if_neg (by omega)] at p0
        rw [if_pos d2] at p1 hs
        rw [hs]
        refine ⟨?_, e1⟩
        generalize spPre c (zwl 0) a = s0 at *
        generalize spPre c (zwl 1) a = s1 at *
        have g1 : 2 ≤ s1 := by omega
        simp (disch := omega) only [if_pos, if_neg]
      · rw [if_neg d2] at p1 hs
        rw [hs]
        refine ⟨?_, e0⟩
        generalize spPre c (zwl 0) a = s0 at *
        generalize spPre c (zwl 1) a = s1 at *
        have g1 : 1 ≤ s0 := by omega
        simp (disch := omega) only [if_pos, if_neg]
    · have q0 : spPre c (zwl 0) a = 0 := by rw [p0, if_neg d1]
      have q1 : spPre c (zwl 1) a = 0 := by rw [p1, if_neg d1]
      rw [if_neg d1] at hs
      rw [q0, q1]
      by_cases d2 : c a = 104
      · have q2 : spPre c (zwl 2) a = 0 := by rw [p2, if_neg (by omega)]
        have q4 : spPre c (zwl 4) a = 0 := by rw [p4, if_neg (by omega)]
        rw [if_pos d2] at hs
        rw [hs, q2, q4]
        refine ⟨?_, e3⟩
        generalize spPre c (zwl 3) a = s3 at *
        by_cases g : 0 < s3
        · simp (disch := omega) only [if_pos, if_neg]
        · simp (disch := omega) only [if_pos, if_neg]
          omega
      · have q3 : spPre c (zwl 3) a = 0 := by rw [p3, if_neg d2]
        rw [if_neg d2] at hs
        rw [q3]
        by_cases d3 : c a = 108
        · have q4 : spPre c (zwl 4) a = 0 := by rw [p4, if_neg (by omega)]
          rw [if_pos d3] at hs
          rw [hs, q4]
          refine ⟨?_, e2⟩
          generalize spPre c (zwl 2) a = s2 at *
          by_cases g : 0 < s2
          · simp (disch := omega) only [if_pos, if_neg]
          · simp (disch := omega) only [if_pos, if_neg]
            omega
        · have q2 : spPre c (zwl 2) a = 0 := by rw [p2, if_neg d3]
          rw [if_neg d3] at hs
          rw [hs, q2]
          refine ⟨?_, e4⟩
          generalize spPre c (zwl 4) a = s4 at *
          by_cases g : 0 < s4
          · simp (disch := omega) only [if_pos, if_neg]
          · simp (disch := omega) only [if_pos, if_neg]
            omega
  have w3 := spPre_le c (zwl (spSel c a)) a
  have w2 := zwl_le (spSel c a) (spSel_lt c a)
  refine ⟨-1, R_at u + m5, ?_, fun e => absurd e key.2, fun _ => ⟨rfl, ?_⟩⟩
  · rw [t5', mR_readWord_L4, if_pos (by decide)]
  · rw [z_addI (by omega) (by omega)]
    omega
/-- the reference's words -/
def zoff (i : Nat) : Nat := if i = 0 then 3 else if i = 1 then 0 else if i = 2 then 6 else if i = 3 then 10 else 15
theorem zoff_ch : ∀ i, i < 5 → ∀ j, j < (zwl i).length → (zLW (zoff i + j)).toInt = (zwl i).getD j 0 ∧ zoff i + j < 19 := by decide +kernel
theorem zoff_rg : ∀ i, i < 5 → (Int32.ofNat (zoff i)).toInt = zoff i ∧ zoff i ≤ 15 := by decide +kernel
theorem m_wordL {n : Nat} {c : Nat → Int} {i : Nat} (hi : i < 5) : ∀ (d k N : Nat) (x3 : Int32) (v : SM) (a : Nat), TM v n c → Ql_low v → (M_at v).toInt = a → a ≤ n → k + d = (zwl i).length → d < N → x3.toInt = k → ∃ x q : Int32, mM_takesWord_L2 (Int32.ofNat (zoff i)) (Int32.ofNat (zwl i).length) N x3 v = some (x, q) ∧ (spPre c ((zwl i).drop k) a = d → c (a + d) = 32 → x = 1 ∧ q.toInt = ((a + d + 1 : Nat) : Int)) ∧ (spPre c ((zwl i).drop k) a = d → ¬ c (a + d) = 32 → x = 0 ∧ q.toInt = ((a + d : Nat) : Int)) ∧ (¬ spPre c ((zwl i).drop k) a = d → x = 0 ∧ q.toInt = ((a + spPre c ((zwl i).drop k) a : Nat) : Int))
  | 0, k, N, x3, v, a, T, hL, ha, han, hk, hN, hx => by
    obtain ⟨N, rfl⟩ : ∃ M, N = M + 1 := ⟨N - 1, by omega⟩
    have h100 := T.2.1
    have w1 := w_len2 i hi
    have hx1 := z_one (M_at v) (by omega) (by omega)
    rw [mM_takesWord_L2, if_pos (by (try simp only [z_in0, z_isPlaceM, z_isPlaceN, z_isLetterN, z_isTenthN, z_isTapeN, z_isTapeM]); (try simp only [Int32.lt_iff_toInt_lt, Int32.le_iff_toInt_le, ← Int32.toInt_inj, Int32.reduceToInt, Int64.reduceToInt]); omega), m_sign T ha, List.drop_of_length_le (by omega), spPre]
    by_cases e : c a = (32 : Int32).toInt
    · rw [if_pos e]
      have e' : c a = 32 := e
      exact ⟨1, M_at v + 1, z_bq rfl (if_pos (Or.inr rfl)), fun _ _ => ⟨rfl, by omega⟩, fun _ h => absurd e' h, fun h => absurd rfl h⟩
    · rw [if_neg e]
      have e' : ¬ c a = 32 := e
      exact ⟨0, M_at v, z_bq rfl (if_pos (Or.inl rfl)), fun _ h => absurd h e', fun _ _ => ⟨rfl, by omega⟩, fun h => absurd rfl h⟩
  | d + 1, k, N, x3, v, a, T, hL, ha, han, hk, hN, hx => by
    obtain ⟨N, rfl⟩ : ∃ M, N = M + 1 := ⟨N - 1, by omega⟩
    have h100 := T.2.1
    have w1 := w_len2 i hi
    have w2 := zwl_le i hi
    have w3 := zwl_rg i hi k (by omega)
    obtain ⟨w4, w5⟩ := zoff_ch i hi k (by omega)
    obtain ⟨w6, w7⟩ := zoff_rg i hi
    have hx1 := z_one (M_at v) (by omega) (by omega)
    have hx3 := z_one x3 (by omega) (by omega)
    have ho : (Int32.ofNat (zoff i) + x3).toInt = ((zoff i + k : Nat) : Int) := by rw [z_addI (by omega) (by omega)]; omega
    have ew : M_letterOfWords v (Int32.ofNat (zoff i) + x3).toNatClampNeg = zLW (zoff i + k) := by rw [z_nat, ho, Int.toNat_natCast]; exact hL _ w5
    rw [mM_takesWord_L2, if_neg (by (try simp only [z_in0, z_isPlaceM, z_isPlaceN, z_isLetterN, z_isTenthN, z_isTapeN, z_isTapeM]); (try simp only [Int32.lt_iff_toInt_lt, Int32.le_iff_toInt_le, ← Int32.toInt_inj, Int32.reduceToInt, Int64.reduceToInt]); omega), zgi_ok _ (by omega) (by omega), ew, m_sign T ha, w4, zwl_drop (show k < (zwl i).length by omega), spPre]
    by_cases e : c a = (zwl i).getD k 0
    · have hn : a < n := c_lt T.2.2.2 (by omega)
      rw [if_pos e, if_pos e]
      obtain ⟨x, q, i1, i2, i3, i4⟩ := m_wordL hi d (k + 1) N (x3 + 1) (M_put_at (M_at v + 1) v) (a + 1) T hL (by show (M_at v + 1).toInt = _; omega) (by omega) (by omega) (by omega) (by omega)
      refine ⟨x, q, z_bq rfl i1, ?_, ?_, ?_⟩
      · intro g1 g2
        obtain ⟨j1, j2⟩ := i2 (by omega) (by rw [show a + 1 + d = a + (d + 1) by omega]; exact g2)
        exact ⟨j1, by omega⟩
      · intro g1 g2
        obtain ⟨j1, j2⟩ := i3 (by omega) (by rw [show a + 1 + d = a + (d + 1) by omega]; exact g2)
        exact ⟨j1, by omega⟩
      · intro g1
        obtain ⟨j1, j2⟩ := i4 (by omega)
        exact ⟨j1, by omega⟩
    · rw [if_neg e, if_neg e]
      exact ⟨0, M_at v, rfl, fun h => absurd h (by omega), fun h => absurd h (by omega), fun _ => ⟨rfl, by omega⟩⟩
theorem m_word {n : Nat} {c : Nat → Int} {i : Nat} (hi : i < 5) {v : SM} {a : Nat} (T : TM v n c) (hL : Ql_low v) (ha : (M_at v).toInt = a) (han : a ≤ n) : ∃ x q : Int32, mM_takesWord (Int32.ofNat (zoff i)) (Int32.ofNat (zwl i).length) v = some (x, q) ∧ (x = 0 ∨ x = 1) ∧ (spPre c (zwl i) a = (zwl i).length → c (a + (zwl i).length) = 32 → x = 1 ∧ q.toInt = ((a + (zwl i).length + 1 : Nat) : Int)) ∧ (spPre c (zwl i) a = (zwl i).length → ¬ c (a + (zwl i).length) = 32 → x = 0 ∧ q.toInt = ((a + (zwl i).length : Nat) : Int)) ∧ (¬ spPre c (zwl i) a = (zwl i).length → x = 0 ∧ q.toInt = ((a + spPre c (zwl i) a : Nat) : Int)) := by
  obtain ⟨x, q, i1, i2, i3, i4⟩ := m_wordL hi (zwl i).length 0 256 0 v a T hL ha han (by omega) (by have := zwl_le i hi; omega) rfl
  rw [List.drop_zero] at i2 i3 i4
  refine ⟨x, q, i1, ?_, i2, i3, i4⟩
  by_cases d : spPre c (zwl i) a = (zwl i).length
  · by_cases e : c (a + (zwl i).length) = 32
    · exact Or.inr (i2 d e).1
    · exact Or.inl (i3 d e).1
  · exact Or.inl (i4 d).1
theorem m_head {n : Nat} {c : Nat → Int} {v : SM} {a : Nat} {x1 : Int32} (hX : 0 ≤ x1.toInt ∧ x1.toInt < 50) (T : TM v n c) (hL : Ql_low v) (ha : (M_at v).toInt = a) (han : a ≤ n) : ∃ x q : Int32, mM_takesHead x1 v = some (x, (q, upd (M_word v) x1.toInt.toNat (Int32.ofNat (spSel c a)))) ∧ (spP c a = (zwl (spSel c a)).length → c (a + spP c a) = 32 → x = 1 ∧ q.toInt = ((a + spP c a + 1 : Nat) : Int)) ∧ (spP c a = (zwl (spSel c a)).length → ¬ c (a + spP c a) = 32 → x = 0 ∧ q.toInt = ((a + spP c a : Nat) : Int)) ∧ (¬ spP c a = (zwl (spSel c a)).length → x = 0 ∧ q.toInt = ((a + spP c a : Nat) : Int)) := by
  have h100 := T.2.1
  have TT : ∀ p, TM (M_put_at_word p v) n c := fun _ => T
  have LL : ∀ p, Ql_low (M_put_at_word p v) := fun _ => hL
  obtain ⟨r, r1, r2⟩ := m_next T ha
  obtain ⟨s, s1, s2⟩ := m_second T ha (by omega)
  obtain ⟨x, q, i1, i2, i3, i4, i5⟩ := m_word (spSel_lt c a) (TT (M_at v, upd (M_word v) x1.toInt.toNat (Int32.ofNat (spSel c a)))) (LL _) ha han
  have z1 : ∀ o : Option (Int32 × Int32 × (Nat → Int32)), zgi x1 50 o = o := fun o => zgi_ok o hX.1 (by omega)
  have zb : ∀ o : Option (Int32 × Int32 × (Nat → Int32)), zgb x o = o := fun o => if_pos i2
  refine ⟨x, q, ?_, fun e => by unfold spP at *; rw [e]; exact i3 e, fun e => by unfold spP at *; rw [e]; exact i4 e, i5⟩
  unfold mM_takesHead
  refine z_bq s1 (z_bq r1 ?_)
  have hs : spSel c a = if c a = 101 then (if c (a + 1) = 121 then 1 else 0) else if c a = 104 then 3 else if c a = 108 then 2 else 4 := rfl
  by_cases d1 : c a = 101
  · rw [if_pos (show r = 101 from Int32.toInt_inj.mp (r2.trans (d1.trans (by decide))))]
    rw [if_pos d1] at hs
    by_cases d2 : c (a + 1) = 121
    · have e2 : s = 121 := Int32.toInt_inj.mp (s2.trans (d2.trans (by decide)))
      rw [if_pos d2] at hs
      rw [if_pos e2]
      rw [hs] at i1 ⊢
      unfold mM_takesHead_J60
      rw [z1, if_pos e2]
      exact z_bq i1 (zb _)
    · have e2 : ¬ s = 121 := fun e => d2 (by rw [← s2, e]; decide)
      rw [if_neg d2] at hs
      rw [if_neg e2]
      rw [hs] at i1 ⊢
      unfold mM_takesHead_J60
      rw [z1, if_neg e2]
      exact z_bq i1 (zb _)
  · rw [if_neg (show ¬ r = 101 from fun e => d1 (by rw [← r2, e]; decide))]
    rw [if_neg d1] at hs
    by_cases d2 : c a = 104
    · rw [if_pos d2] at hs
      rw [if_pos (show r = 104 from Int32.toInt_inj.mp (r2.trans (d2.trans (by decide))))]
      rw [hs] at i1 ⊢
      rw [z1]
      exact z_bq i1 (zb _)
    · rw [if_neg d2] at hs
      rw [if_neg (show ¬ r = 104 from fun e => d2 (by rw [← r2, e]; decide))]
      by_cases d3 : c a = 108
      · rw [if_pos d3] at hs
        rw [if_pos (show r = 108 from Int32.toInt_inj.mp (r2.trans (d3.trans (by decide))))]
        rw [hs] at i1 ⊢
        rw [z1]
        exact z_bq i1 (zb _)
      · rw [if_neg d3] at hs
        rw [if_neg (show ¬ r = 108 from fun e => d3 (by rw [← r2, e]; decide))]
        rw [hs] at i1 ⊢
        rw [z1]
        exact z_bq i1 (zb _)
