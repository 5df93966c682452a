/-! 09.P25: the text in both -/
/-- the text as the reference reads it: signed bytes, -1 behind its end -/
def TM (v : SM) (n : Nat) (c : Nat → Int) : Prop := (M_fed v).toInt = n ∧ n ≤ 100 ∧ (∀ k, k < n → (M_text v k).toInt = c k ∧ -128 ≤ c k ∧ c k ≤ 127) ∧ ∀ k, n ≤ k → c k = -1
def TR (u : SR) (n : Nat) (c : Nat → Int) : Prop := (R_length u).toInt = n ∧ n ≤ 100 ∧ (∀ k, k < n → (R_text u k).toInt = c k % 256 ∧ -128 ≤ c k ∧ c k ≤ 127) ∧ ∀ k, n ≤ k → c k = -1
theorem m_next {v : SM} {n : Nat} {c : Nat → Int} (T : TM v n c) {a : Nat} (ha : (M_at v).toInt = a) : ∃ r, mM_next v = some r ∧ r.toInt = c a := by
  obtain ⟨t1, t2, t3, t4⟩ := T
  unfold mM_next
  by_cases h : n ≤ a
  · rw [if_pos (by (try simp only [z_in0, z_isPlaceM, z_isPlaceN, z_isLetterN, z_isTenthN, z_isTapeN, z_isTapeM]); (try simp only [Int32.lt_iff_toInt_lt, Int32.le_iff_toInt_le, ← Int32.toInt_inj, Int32.reduceToInt, Int64.reduceToInt]); omega)]
    exact ⟨-1, rfl, by rw [t4 a h]; rfl⟩
  · rw [if_neg (by (try simp only [z_in0, z_isPlaceM, z_isPlaceN, z_isLetterN, z_isTenthN, z_isTapeN, z_isTapeM]); (try simp only [Int32.lt_iff_toInt_lt, Int32.le_iff_toInt_le, ← Int32.toInt_inj, Int32.reduceToInt, Int64.reduceToInt]); omega), zgi_ok _ (by omega) (by omega), z_nat, ha]
    exact ⟨_, rfl, (t3 a (by omega)).1⟩
theorem m_second {v : SM} {n : Nat} {c : Nat → Int} (T : TM v n c) {a : Nat} (ha : (M_at v).toInt = a) (h100 : a ≤ 100) : ∃ r, mM_second v = some r ∧ r.toInt = c (a + 1) := by
  obtain ⟨t1, t2, t3, t4⟩ := T
  have hx := z_one (M_at v) (by omega) (by omega)
  unfold mM_second
  by_cases h : n ≤ a + 1
  · rw [if_pos (by (try simp only [z_in0, z_isPlaceM, z_isPlaceN, z_isLetterN, z_isTenthN, z_isTapeN, z_isTapeM]); (try simp only [Int32.lt_iff_toInt_lt, Int32.le_iff_toInt_le, ← Int32.toInt_inj, Int32.reduceToInt, Int64.reduceToInt]); omega)]
    exact ⟨-1, rfl, by rw [t4 _ h]; rfl⟩
  · rw [if_neg (by (try simp only [z_in0, z_isPlaceM, z_isPlaceN, z_isLetterN, z_isTenthN, z_isTapeN, z_isTapeM]); (try simp only [Int32.lt_iff_toInt_lt, Int32.le_iff_toInt_le, ← Int32.toInt_inj, Int32.reduceToInt, Int64.reduceToInt]); omega), zgi_ok _ (by omega) (by omega), z_nat, hx, show ((M_at v).toInt + 1).toNat = a + 1 by omega]
    exact ⟨_, rfl, (t3 (a + 1) (by omega)).1⟩
theorem m_sign {v : SM} {n : Nat} {c : Nat → Int} (T : TM v n c) {a : Nat} (ha : (M_at v).toInt = a) (x : Int32) : mM_takesSign x v = if c a = x.toInt then some (1, M_at v + 1) else some (0, M_at v) := by
  obtain ⟨r, h1, h2⟩ := m_next T ha
  unfold mM_takesSign
  rw [h1, Option.bind_some, ← h2]
  simp only [← Int32.toInt_inj]
theorem c_skip {u : SR} {n : Nat} {c : Nat → Int} (T : TR u n c) {a : Nat} (ha : (R_at u).toInt = a) {x : Int32} (hx : 0 ≤ x.toInt ∧ x.toInt ≤ 127) : mR_skip x u = if c a = x.toInt then some (1, R_at u + 1) else some (0, R_at u) := by
  obtain ⟨t1, t2, t3, t4⟩ := T
  unfold mR_skip
  by_cases h : n ≤ a
  · rw [if_pos (by (try simp only [z_in0, z_isPlaceM, z_isPlaceN, z_isLetterN, z_isTenthN, z_isTapeN, z_isTapeM]); (try simp only [Int32.lt_iff_toInt_lt, Int32.le_iff_toInt_le, ← Int32.toInt_inj, Int32.reduceToInt, Int64.reduceToInt]); omega), t4 a h, if_neg (by omega)]
  · obtain ⟨q1, q2, q3⟩ := t3 a (by omega)
    rw [if_neg (by (try simp only [z_in0, z_isPlaceM, z_isPlaceN, z_isLetterN, z_isTenthN, z_isTapeN, z_isTapeM]); (try simp only [Int32.lt_iff_toInt_lt, Int32.le_iff_toInt_le, ← Int32.toInt_inj, Int32.reduceToInt, Int64.reduceToInt]); omega), zgi_ok _ (by omega) (by omega), z_nat, ha, show ((a : Int)).toNat = a by omega]
    simp only [← Int32.toInt_inj, q1]
    by_cases d : c a = x.toInt
    · rw [if_pos d, if_pos (by omega)]
    · rw [if_neg d, if_neg (by omega)]
/-- one figure or two: the number, and where it ends -/
def spNum (c : Nat → Int) (a : Nat) : Option (Int × Nat) := if 48 ≤ c a ∧ c a ≤ 57 then (if 48 ≤ c (a + 1) ∧ c (a + 1) ≤ 57 then some (10 * (c a - 48) + (c (a + 1) - 48), a + 2) else some (c a - 48, a + 1)) else none
theorem spNum_rg {c : Nat → Int} {n a a' : Nat} {d : Int} (hc : ∀ k, n ≤ k → c k = -1) (h : spNum c a = some (d, a')) : (0 ≤ d ∧ d ≤ 99) ∧ a < a' ∧ a' ≤ n ∧ a' ≤ a + 2 := by
  unfold spNum at h
  have h0 : 48 ≤ c a → a < n := fun q => by
    by_cases hn : n ≤ a
    · rw [hc a hn] at q; omega
    · omega
  have h1 : 48 ≤ c (a + 1) → a + 1 < n := fun q => by
    by_cases hn : n ≤ a + 1
    · rw [hc _ hn] at q; omega
    · omega
  split at h
  · split at h
    · cases h
      omega
    · cases h
      omega
  · cases h
theorem m_isDigit {v : SM} {n : Nat} {c : Nat → Int} (T : TM v n c) {a : Nat} (ha : (M_at v).toInt = a) : mM_isDigit v = some (if 48 ≤ c a ∧ c a ≤ 57 then 1 else 0) := by
  obtain ⟨r, h1, h2⟩ := m_next T ha
  unfold mM_isDigit mM_in
  rw [h1, Option.bind_some]
  simp only [Int32.lt_iff_toInt_lt, h2, Int32.reduceToInt]
  by_cases d1 : c a < 48
  · rw [if_pos d1, if_neg (by omega)]
  · by_cases d2 : 57 < c a
    · rw [if_neg d1, if_pos d2, if_neg (by omega)]
    · rw [if_neg d1, if_neg d2, if_pos (by omega)]
theorem z_digit {x y : Int32} (hx : 0 ≤ x.toInt ∧ x.toInt ≤ 9) (hy : 48 ≤ y.toInt ∧ y.toInt ≤ 57) : (10 * x + y - 48).toInt = 10 * x.toInt + (y.toInt - 48) := by
  have e1 : ((10 : Int32) * x).toInt = 10 * x.toInt := by
    rw [z_mulI (by simp only [Int32.reduceToInt]; omega) (by simp only [Int32.reduceToInt]; omega)]
    simp only [Int32.reduceToInt]
  have e2 : ((10 : Int32) * x + y).toInt = 10 * x.toInt + y.toInt := by rw [z_addI (by omega) (by omega), e1]
  rw [z_subI (by rw [e2]; simp only [Int32.reduceToInt]; omega) (by rw [e2]; simp only [Int32.reduceToInt]; omega), e2]
  simp only [Int32.reduceToInt]
  omega
theorem m_number {v : SM} {n : Nat} {c : Nat → Int} (T : TM v n c) {a : Nat} (ha : (M_at v).toInt = a) (h100 : a ≤ 100) : (spNum c a = none → mM_takesNumber v = some (0, (M_at v, M_digits v))) ∧ ∀ d a', spNum c a = some (d, a') → ∃ p q : Int32, mM_takesNumber v = some (1, (p, q)) ∧ p.toInt = a' ∧ q.toInt = d := by
  have hd := m_isDigit T ha
  have TT : ∀ p, TM (M_put_at_digits p v) n c := fun _ => T
  unfold mM_takesNumber
  rw [hd, Option.bind_some]
  constructor
  · intro h
    unfold spNum at h
    by_cases c1 : 48 ≤ c a ∧ c a ≤ 57
    · rw [if_pos c1] at h
      split at h <;> cases h
    · rw [if_neg c1, if_pos rfl]
  · intro d a' h
    unfold spNum at h
    by_cases c1 : 48 ≤ c a ∧ c a ≤ 57
    · rw [if_pos c1] at h
      obtain ⟨N, hN⟩ : ∃ N : Nat, N = 253 := ⟨_, rfl⟩
      rw [if_pos c1, if_neg (show ¬ (1 : Int32) = 0 by decide), show (256 : Nat) = N + 1 + 1 + 1 by omega]
      obtain ⟨r, r1, r2⟩ := m_next (TT (M_at v, 0)) (a := a) ha
      have hx := z_one (M_at v) (by omega) (by omega)
      have hd0 := m_isDigit (TT (M_at v, 0)) (a := a) ha
      rw [mM_takesNumber_L16, if_neg (by decide), hd0, Option.bind_some, if_pos c1, if_neg (show ¬ (1 : Int32) = 0 by decide), r1, Option.bind_some]
      have ez := z_digit (x := 0) (y := r) (by decide) (by omega)
      simp only [Int32.reduceToInt] at ez
      obtain ⟨D, hD⟩ : ∃ D : Int32, D = 10 * 0 + r - 48 := ⟨_, rfl⟩
      rw [← hD] at ez
      show ∃ p q, mM_takesNumber_L16 (N + 1 + 1) (0 + 1) (M_put_at_digits (M_at v + 1, 10 * 0 + r - 48) v) = some (1, (p, q)) ∧ _
      rw [← hD]
      have hd1 := m_isDigit (TT (M_at v + 1, D)) (a := a + 1) (by show (M_at v + 1).toInt = _; omega)
      rw [mM_takesNumber_L16, if_neg (by decide), hd1, Option.bind_some]
      by_cases c2 : 48 ≤ c (a + 1) ∧ c (a + 1) ≤ 57
      · rw [if_pos c2] at h
        cases h
        obtain ⟨s, s1, s2⟩ := m_next (TT (M_at v + 1, D)) (a := a + 1) (by show (M_at v + 1).toInt = _; omega)
        have hx2 := z_one (M_at v + 1) (by omega) (by omega)
        rw [if_pos c2, if_neg (show ¬ (1 : Int32) = 0 by decide), s1, Option.bind_some]
        have ez2 := z_digit (x := D) (y := s) (by omega) (by omega)
        rw [mM_takesNumber_L16, if_pos (by decide)]
        refine ⟨_, _, rfl, ?_, ?_⟩
        · show (M_at v + 1 + 1).toInt = _
          omega
        · show (10 * D + s - 48).toInt = _
          omega
      · rw [if_neg c2] at h
        cases h
        rw [if_neg c2, if_pos rfl]
        refine ⟨_, _, rfl, ?_, ?_⟩
        · show (M_at v + 1).toInt = _
          omega
        · show D.toInt = _
          omega
    · rw [if_neg c1] at h
      cases h
theorem c_numL {w : SR} {n : Nat} {c : Nat → Int} (T : TR w n c) {b : Nat} (hb : (R_at w).toInt = b) (N : Nat) (x1 x2 : Int32) (h2 : x2.toInt < 2) : (¬ (48 ≤ c b ∧ c b ≤ 57) → mR_readNumber_L4 (N + 1) x1 x2 w = if x2 = 0 then some (-1, R_at w) else some (x1, R_at w)) ∧ ((48 ≤ c b ∧ c b ≤ 57) → ∃ y : Int32, y.toInt = c b ∧ mR_readNumber_L4 (N + 1) x1 x2 w = mR_readNumber_L4 N (10 * x1 + y - 48) (x2 + 1) (R_put_at (R_at w + 1) w)) := by
  obtain ⟨t1, t2, t3, t4⟩ := T
  rw [mR_readNumber_L4, if_neg (by (try simp only [z_in0, z_isPlaceM, z_isPlaceN, z_isLetterN, z_isTenthN, z_isTapeN, z_isTapeM]); (try simp only [Int32.lt_iff_toInt_lt, Int32.le_iff_toInt_le, ← Int32.toInt_inj, Int32.reduceToInt, Int64.reduceToInt]); omega)]
  by_cases h : n ≤ b
  · rw [if_pos (by (try simp only [z_in0, z_isPlaceM, z_isPlaceN, z_isLetterN, z_isTenthN, z_isTapeN, z_isTapeM]); (try simp only [Int32.lt_iff_toInt_lt, Int32.le_iff_toInt_le, ← Int32.toInt_inj, Int32.reduceToInt, Int64.reduceToInt]); omega), t4 b h]
    exact ⟨fun _ => rfl, fun q => absurd q.1 (by omega)⟩
  · obtain ⟨q1, q2, q3⟩ := t3 b (by omega)
    have e : (R_text w (R_at w).toNatClampNeg).toInt = c b % 256 := by rw [z_nat, hb, show ((b : Int)).toNat = b by omega]; exact q1
    have n1 : ¬ R_length w ≤ R_at w := by (try simp only [z_in0, z_isPlaceM, z_isPlaceN, z_isLetterN, z_isTenthN, z_isTapeN, z_isTapeM]); (try simp only [Int32.lt_iff_toInt_lt, Int32.le_iff_toInt_le, ← Int32.toInt_inj, Int32.reduceToInt, Int64.reduceToInt]); omega
    rw [if_neg n1, zgi_ok _ (by omega) (by omega), zgi_ok _ (by omega) (by omega), zgi_ok _ (by omega) (by omega)]
    simp only [Int32.lt_iff_toInt_lt, e, Int32.reduceToInt]
    refine ⟨fun d => ?_, fun d => ⟨R_text w (R_at w).toNatClampNeg, by rw [e]; omega, ?_⟩⟩
    · by_cases d1 : c b % 256 < 48
      · rw [if_pos d1]
      · rw [if_neg d1, if_pos (by omega)]
    · rw [if_neg (by omega), if_neg (by omega)]
theorem c_number {u : SR} {n : Nat} {c : Nat → Int} (T : TR u n c) {a : Nat} (ha : (R_at u).toInt = a) (h100 : a ≤ 100) : (spNum c a = none → mR_readNumber u = some (-1, R_at u)) ∧ ∀ d a', spNum c a = some (d, a') → ∃ p q : Int32, mR_readNumber u = some (q, p) ∧ p.toInt = a' ∧ q.toInt = d := by
  have TT : ∀ p, TR (R_put_at p u) n c := fun _ => T
  obtain ⟨N, hN⟩ : ∃ N : Nat, N = 253 := ⟨_, rfl⟩
  have hx := z_one (R_at u) (by omega) (by omega)
  obtain ⟨s1, s2⟩ := c_numL T ha (N + 1 + 1) 0 0 (by decide)
  unfold mR_readNumber
  rw [show (256 : Nat) = N + 1 + 1 + 1 by omega]
  unfold spNum
  by_cases c1 : 48 ≤ c a ∧ c a ≤ 57
  · rw [if_pos c1]
    refine ⟨fun h => (by split at h <;> cases h), fun d a' h => ?_⟩
    obtain ⟨y, y1, y2⟩ := s2 c1
    have ez := z_digit (x := 0) (y := y) (by decide) (by omega)
    simp only [Int32.reduceToInt] at ez
    obtain ⟨D, hD⟩ : ∃ D : Int32, D = 10 * 0 + y - 48 := ⟨_, rfl⟩
    rw [← hD] at ez y2
    rw [y2]
    obtain ⟨s3, s4⟩ := c_numL (TT (R_at u + 1)) (b := a + 1) (by show (R_at u + 1).toInt = _; omega) (N + 1) D (0 + 1) (by decide)
    by_cases c2 : 48 ≤ c (a + 1) ∧ c (a + 1) ≤ 57
    · rw [if_pos c2] at h
      cases h
      obtain ⟨z, z1, z2⟩ := s4 c2
      have ez2 := z_digit (x := D) (y := z) (by omega) (by omega)
      have hx2 := z_one (R_at u + 1) (by omega) (by omega)
      rw [z2, mR_readNumber_L4, if_pos (by decide), if_neg (by decide)]
      refine ⟨_, _, rfl, ?_, by omega⟩
      show (R_at u + 1 + 1).toInt = _
      omega
    · rw [if_neg c2] at h
      cases h
      rw [s3 c2, if_neg (by decide)]
      refine ⟨_, _, rfl, ?_, by omega⟩
      show (R_at u + 1).toInt = _
      omega
  · rw [if_neg c1]
    refine ⟨fun _ => ?_, fun d a' h => (by cases h)⟩
    rw [s1 c1, if_pos rfl]
/-- one figure, at most so much -/
theorem m_figure {v : SM} {n : Nat} {c : Nat → Int} (T : TM v n c) {a : Nat} (ha : (M_at v).toInt = a) {x : Int32} (hx : 0 ≤ x.toInt ∧ x.toInt ≤ 9) : (¬ (48 ≤ c a ∧ c a ≤ 48 + x.toInt) → mM_takesFigure x v = some (0, (M_at v, M_digits v))) ∧ ((48 ≤ c a ∧ c a ≤ 48 + x.toInt) → ∃ q : Int32, mM_takesFigure x v = some (1, (M_at v + 1, q)) ∧ q.toInt = c a - 48) := by
  obtain ⟨r, h1, h2⟩ := m_next T ha
  have e : ((48 : Int32) + x).toInt = 48 + x.toInt := by
    rw [z_addI (by simp only [Int32.reduceToInt]; omega) (by simp only [Int32.reduceToInt]; omega)]
    simp only [Int32.reduceToInt]
  unfold mM_takesFigure
  rw [h1, Option.bind_some, Option.bind_some]
  simp only [z_in0, e, h2, Int32.reduceToInt]
  refine ⟨fun d => if_pos (by omega), fun d => ⟨r - 48, if_neg (by omega), ?_⟩⟩
  rw [z_subI (by simp only [Int32.reduceToInt]; omega) (by simp only [Int32.reduceToInt]; omega), h2]
  simp only [Int32.reduceToInt]
theorem c_figure {u : SR} {n : Nat} {c : Nat → Int} (T : TR u n c) {a : Nat} (ha : (R_at u).toInt = a) (h100 : a ≤ 100) {x : Int32} (hx : 0 ≤ x.toInt ∧ x.toInt ≤ 9) : (¬ (48 ≤ c a ∧ c a ≤ 48 + x.toInt) → mR_readFigure x u = some (-1, R_at u)) ∧ ((48 ≤ c a ∧ c a ≤ 48 + x.toInt) → ∃ q : Int32, mR_readFigure x u = some (q, R_at u + 1) ∧ q.toInt = c a - 48) := by
  obtain ⟨t1, t2, t3, t4⟩ := T
  have e : ((48 : Int32) + x).toInt = 48 + x.toInt := by
    rw [z_addI (by simp only [Int32.reduceToInt]; omega) (by simp only [Int32.reduceToInt]; omega)]
    simp only [Int32.reduceToInt]
  have e11 : R_at u + 1 - 1 = R_at u := Int32.toInt_inj.mp (by rw [z_sub1 (by rw [z_one _ (by omega) (by omega)]; omega), z_one _ (by omega) (by omega)]; omega)
  unfold mR_readFigure
  rw [e11]
  by_cases h : n ≤ a
  · rw [if_pos (by (try simp only [z_in0, z_isPlaceM, z_isPlaceN, z_isLetterN, z_isTenthN, z_isTapeN, z_isTapeM]); (try simp only [Int32.lt_iff_toInt_lt, Int32.le_iff_toInt_le, ← Int32.toInt_inj, Int32.reduceToInt, Int64.reduceToInt]); omega), t4 a h]
    exact ⟨fun _ => rfl, fun q => absurd q.1 (by omega)⟩
  · obtain ⟨q1, q2, q3⟩ := t3 a (by omega)
    have et : (R_text u (R_at u).toNatClampNeg).toInt = c a % 256 := by rw [z_nat, ha, show ((a : Int)).toNat = a by omega]; exact q1
    have n1 : ¬ R_length u ≤ R_at u := by (try simp only [z_in0, z_isPlaceM, z_isPlaceN, z_isLetterN, z_isTenthN, z_isTapeN, z_isTapeM]); (try simp only [Int32.lt_iff_toInt_lt, Int32.le_iff_toInt_le, ← Int32.toInt_inj, Int32.reduceToInt, Int64.reduceToInt]); omega
    rw [if_neg n1, zgi_ok _ (by omega) (by omega), zgi_ok _ (by omega) (by omega), zgi_ok _ (by omega) (by omega)]
    simp only [Int32.lt_iff_toInt_lt, Int32.le_iff_toInt_le, et, e, Int32.reduceToInt]
    refine ⟨fun d => ?_, fun d => ⟨R_text u (R_at u).toNatClampNeg - 48, ?_, ?_⟩⟩
    · by_cases d1 : c a % 256 < 48
      · rw [if_pos d1]
      · rw [if_neg d1, if_neg (by omega)]
    · rw [if_neg (by omega), if_pos (by omega)]
    · rw [z_subI (by rw [et]; simp only [Int32.reduceToInt]; omega) (by rw [et]; simp only [Int32.reduceToInt]; omega), et]
      simp only [Int32.reduceToInt]
      omega
/-- what is asked: its number, or -1 -/
def plc (x : Int) : Int := if x = 102 then 0 else if x = 111 then 1 else if x = 107 then 2 else if x = 108 then 3 else if x = 116 then 4 else -1
theorem m_place (q : Int32) : (mM_place q).toInt = plc q.toInt := by
  unfold mM_place plc
  simp only [← Int32.toInt_inj, Int32.reduceToInt, apply_ite Int32.toInt]
  generalize q.toInt = x
  by_cases h1 : x = 102
  · simp (disch := omega) only [if_pos, if_neg]
  · by_cases h2 : x = 111
    · simp (disch := omega) only [if_pos, if_neg]
    · by_cases h3 : x = 107
      · simp (disch := omega) only [if_pos, if_neg]
      · by_cases h4 : x = 108
        · simp (disch := omega) only [if_pos, if_neg]
        · by_cases h5 : x = 116
          · simp (disch := omega) only [if_pos, if_neg]
          · simp only [if_neg h1, if_neg h2, if_neg h3, if_neg h4, if_neg h5, ite_self]
theorem i_5 : ∀ k, k < 256 → (mN_indexOf_0f7a4 5 (Int32.ofNat k)) = some (Int32.ofInt (plc k)) := by decide +kernel
theorem i_6 : ∀ k, k < 256 → (mN_indexOf_0f7a4 6 (Int32.ofNat k)) = some (if 60 ≤ k ∧ k ≤ 62 then Int32.ofNat (k - 60) else -1) := by decide +kernel
