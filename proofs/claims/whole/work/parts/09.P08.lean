/-! 09.P8: the steps of an E in both -/
theorem z_div {x y : Int32} (hx : 0 ≤ x.toInt) (hy : 0 < y.toInt) : (x / y).toInt = x.toInt / y.toInt := by
  have h1 := z_lt x
  have h2 := z_lt y
  rw [Int32.toInt_div, Int.tdiv_eq_ediv_of_nonneg hx]
  have h3 : 0 ≤ x.toInt / y.toInt := Int.ediv_nonneg hx (by omega)
  have h4 : x.toInt / y.toInt ≤ x.toInt := Int.ediv_le_self _ hx
  rw [Int.bmod_def]
  generalize x.toInt / y.toInt = q at *
  omega
theorem z_rem {x y : Int32} (hx : 0 ≤ x.toInt) (hy : 0 < y.toInt) : (x - x / y * y).toInt = x.toInt % y.toInt := by
  have h1 := z_lt x
  have h2 := z_lt y
  have h3 := z_div hx hy
  have h4 : x.toInt % y.toInt = x.toInt - x.toInt / y.toInt * y.toInt := by
    have := Int.mul_ediv_add_emod x.toInt y.toInt
    rw [Int.mul_comm] at this
    omega
  have h5 : 0 ≤ x.toInt % y.toInt := Int.emod_nonneg _ (by omega)
  have h6 : x.toInt % y.toInt < y.toInt := Int.emod_lt_of_pos _ hy
  have h7 : 0 ≤ x.toInt / y.toInt := Int.ediv_nonneg hx (by omega)
  have h8 : 0 ≤ x.toInt / y.toInt * y.toInt := Int.mul_nonneg h7 (by omega)
  have h9 : (x / y * y).toInt = x.toInt / y.toInt * y.toInt := by
    rw [z_mulI (by rw [h3]; omega) (by rw [h3]; omega), h3]
  rw [z_subI (by rw [h9]; omega) (by rw [h9]; omega), h9, h4]
/-- what a test says -/
def ztest (s : Int32) (fc : Nat → Int32) : Bool := if (s.toInt - 3) / 100 % 3 = 0 then decide ((fc ((s.toInt - 3) / 300).toNat).toInt < (s.toInt - 3) % 100) else if (s.toInt - 3) / 100 % 3 = 1 then decide ((fc ((s.toInt - 3) / 300).toNat).toInt = (s.toInt - 3) % 100) else decide ((s.toInt - 3) % 100 < (fc ((s.toInt - 3) / 300).toNat).toInt)
def zstp (fc : Nat → Int32) (s : Int32) (st : List Bool) : List Bool := if s = 0 then (match st with | b :: r => (!b) :: r | [] => []) else if s = 1 then (match st with | b :: a :: r => (a && b) :: r | _ => st) else if s = 2 then (match st with | b :: a :: r => (a || b) :: r | _ => st) else ztest s fc :: st
def zev (fc : Nat → Int32) : List Int32 → List Bool → List Bool
  | [], st => st
  | s :: T, st => zev fc T (zstp fc s st)
def ztf (b : Bool) : Int32 := if b then 1 else 0
theorem m_passes {s : Int32} (u : SF) (h : zrg 3 1502 s) : mF_passes (s - 3) u = some (ztf (ztest s (F_facts u))) := by
  unfold zrg at h
  have e : (s - 3).toInt = s.toInt - 3 := z_subI (by simp only [Int32.reduceToInt]; omega) (by simp only [Int32.reduceToInt]; omega)
  have d3 : ((s - 3) / 300).toInt = (s.toInt - 3) / 300 := by rw [z_div (by omega) (by decide), e]; rfl
  have d1 : ((s - 3) / 100).toInt = (s.toInt - 3) / 100 := by rw [z_div (by omega) (by decide), e]; rfl
  have r1 : ((s - 3) - (s - 3) / 100 * 100).toInt = (s.toInt - 3) % 100 := by rw [z_rem (by omega) (by decide), e]; rfl
  have r2 : ((s - 3) / 100 - (s - 3) / 100 / 3 * 3).toInt = (s.toInt - 3) / 100 % 3 := by rw [z_rem (by omega) (by decide), d1]; rfl
  unfold mF_passes
  simp only [Int32.lt_iff_toInt_lt, Int32.le_iff_toInt_le, ← Int32.toInt_inj, Int32.reduceToInt, d3, r1, r2, z_nat]
  rw [zgi_ok _ (by omega) (by omega), zgi_ok _ (by omega) (by omega), zgi_ok _ (by omega) (by omega)]
  unfold ztest
  have k : (s.toInt - 3) / 100 % 3 = 0 ∨ (s.toInt - 3) / 100 % 3 = 1 ∨ (s.toInt - 3) / 100 % 3 = 2 := by omega
  generalize (F_facts u ((s.toInt - 3) / 300).toNat).toInt = q at *
  rcases k with k | k | k
  · by_cases c : q < (s.toInt - 3) % 100
    · simp (disch := omega) only [if_pos, if_neg, decide_eq_true c]; rfl
    · simp (disch := omega) only [if_pos, if_neg, decide_eq_false c]; rfl
  · by_cases c : q = (s.toInt - 3) % 100
    · simp (disch := omega) only [if_pos, if_neg, decide_eq_true c]; rfl
    · simp (disch := omega) only [if_pos, if_neg, decide_eq_false c]; rfl
  · by_cases c : (s.toInt - 3) % 100 < q
    · simp (disch := omega) only [if_pos, if_neg, decide_eq_true c]; rfl
    · simp (disch := omega) only [if_pos, if_neg, decide_eq_false c]; rfl
def zbits : List Bool → Nat
  | [] => 0
  | b :: r => (if b then 1 else 0) + 2 * zbits r
theorem zbF (r : List Bool) : zbits (false :: r) = 2 * zbits r := by simp [zbits]
theorem zbT (r : List Bool) : zbits (true :: r) = 2 * zbits r + 1 := by simp [zbits]; omega
theorem zbits_lt : ∀ (st : List Bool), zbits st < 2 ^ st.length
  | [] => by decide
  | b :: r => by
    have := zbits_lt r
    simp only [zbits, List.length_cons, Nat.pow_succ]
    split <;> omega
theorem z_b0 : ∀ a, a < 64 → ∀ b, b < 64 → (Int32.ofNat (64 * a + b) ^^^ 1).toInt = (if (64 * a + b) % 2 = 0 then 64 * a + b + 1 else 64 * a + b - 1 : Nat) := by decide +kernel
theorem z_b1 : ∀ a, a < 64 → ∀ b, b < 64 → ((Int32.ofNat (64 * a + b) >>> ((1 : Int32) &&& 31)) &&& ((Int32.ofNat (64 * a + b) &&& (1 : Int32)) ||| (-2 : Int32))).toInt = (if (64 * a + b) % 2 = 1 then (64 * a + b) / 2 else (64 * a + b) / 2 / 2 * 2 : Nat) := by decide +kernel
theorem z_b2 : ∀ a, a < 64 → ∀ b, b < 64 → ((Int32.ofNat (64 * a + b) >>> ((1 : Int32) &&& 31)) ||| (Int32.ofNat (64 * a + b) &&& (1 : Int32))).toInt = (if (64 * a + b) % 2 = 1 then (64 * a + b) / 2 / 2 * 2 + 1 else (64 * a + b) / 2 : Nat) := by decide +kernel
theorem z_b3 : ∀ a, a < 64 → ∀ b, b < 64 → ((Int32.ofNat (64 * a + b) <<< ((1 : Int32) &&& 31)) ||| (0 : Int32)).toInt = (2 * (64 * a + b) : Nat) ∧ ((Int32.ofNat (64 * a + b) <<< ((1 : Int32) &&& 31)) ||| (1 : Int32)).toInt = (2 * (64 * a + b) + 1 : Nat) ∧ (Int32.ofNat (64 * a + b) &&& (1 : Int32)).toInt = ((64 * a + b) % 2 : Nat) := by decide +kernel
theorem z_bit {x : Int32} {n : Nat} (h : x.toInt = n) (hn : n < 4096) : (x ^^^ 1).toInt = (if n % 2 = 0 then n + 1 else n - 1 : Nat) ∧ ((x >>> ((1 : Int32) &&& 31)) &&& ((x &&& (1 : Int32)) ||| (-2 : Int32))).toInt = (if n % 2 = 1 then n / 2 else n / 2 / 2 * 2 : Nat) ∧ ((x >>> ((1 : Int32) &&& 31)) ||| (x &&& (1 : Int32))).toInt = (if n % 2 = 1 then n / 2 / 2 * 2 + 1 else n / 2 : Nat) ∧ ((x <<< ((1 : Int32) &&& 31)) ||| (0 : Int32)).toInt = (2 * n : Nat) ∧ ((x <<< ((1 : Int32) &&& 31)) ||| (1 : Int32)).toInt = (2 * n + 1 : Nat) ∧ (x &&& (1 : Int32)).toInt = (n % 2 : Nat) := by
  have e : x = Int32.ofNat (64 * (n / 64) + n % 64) := by
    rw [Nat.div_add_mod, ← z_ofNat (x := x) (by omega), h]
    rfl
  have a0 := z_b0 (n / 64) (by omega) (n % 64) (by omega)
  have a1 := z_b1 (n / 64) (by omega) (n % 64) (by omega)
  have a2 := z_b2 (n / 64) (by omega) (n % 64) (by omega)
  have a3 := z_b3 (n / 64) (by omega) (n % 64) (by omega)
  rw [← e, Nat.div_add_mod] at a0 a1 a2 a3
  exact ⟨a0, a1, a2, a3⟩
/-- the head -/
def zhd (st : List Bool) : Bool := st.headD false
theorem z_tst {s : Int32} (h : zrg 0 1502 s) (h0 : ¬ s = 0) (h1 : ¬ s = 1) (h2 : ¬ s = 2) : zrg 3 1502 s := by
  unfold zrg at *
  simp only [← Int32.toInt_inj, Int32.reduceToInt] at h0 h1 h2
  omega
theorem l_true {u : SHF} {c : Int32} (hc : 0 ≤ c.toInt ∧ c.toInt ≤ 9) {e m : Nat} (he : (HF_ends u c.toNatClampNeg).toInt = e) (h5 : e ≤ 100) : ∀ (T : List Int32) (n i : Nat) (x3 x4 : Int32) (st : List Bool), T.length < n → x4.toInt = i → e = i + T.length → zst (HF_steps u) i T → (∀ s ∈ T, zrg 0 1502 s) → zdp T st.length = some m → st.length ≤ 12 → x3.toInt = zbits st → mHF_isTrue_L20 c u n x3 x4 = some (ztf (zhd (zev (HF_facts u) T st))) := by
  intro T
  induction T with
  | nil =>
    intro n i x3 x4 st h1 h2 h3 h4 h6 h7 h8 h9
    obtain ⟨n, rfl⟩ : ∃ m, n = m + 1 := ⟨n - 1, by simp at h1; omega⟩
    have hb := zbits_lt st
    have hb2 : 2 ^ st.length ≤ 2 ^ 12 := Nat.pow_le_pow_right (by omega) h8
    have hz := (z_bit h9 (by omega)).2.2.2.2.2
    rw [mHF_isTrue_L20, zgi_ok _ hc.1 (by omega), if_pos (by (try simp only [z_in0, z_isPlaceM, z_isPlaceN, z_isLetterN, z_isTenthN, z_isTapeN, z_isTapeM]); (try simp only [Int32.lt_iff_toInt_lt, Int32.le_iff_toInt_le, ← Int32.toInt_inj, Int32.reduceToInt, Int64.reduceToInt, he]); simp at h3; omega)]
    show (if x3 &&& 1 = 0 then _ else _) = some (ztf (zhd st))
    simp only [← Int32.toInt_inj, hz, Int32.reduceToInt]
    cases st with
    | nil => rfl
    | cons b r =>
      cases b
      · have q1 := zbF r
        rw [if_pos (by omega)]; rfl
      · have q1 := zbT r
        rw [if_neg (by omega)]; rfl
  | cons s T ih =>
    intro n i x3 x4 st h1 h2 h3 h4 h6 h7 h8 h9
    obtain ⟨n, rfl⟩ : ∃ m, n = m + 1 := ⟨n - 1, by simp at h1; omega⟩
    have hb := zbits_lt st
    have hb2 : 2 ^ st.length ≤ 2 ^ 12 := Nat.pow_le_pow_right (by omega) h8
    obtain ⟨b0, b1, b2, b3, b4, b5⟩ := z_bit h9 (by omega)
    simp only [List.length_cons] at h1 h3
    have hs : HF_steps u x4.toNatClampNeg = s := by
      have := h4 0 (by simp)
      rw [z_nat, h2]
      exact this
    have h4' : zst (HF_steps u) (i + 1) T := by
      intro k hk
      have := h4 (k + 1) (by simp; omega)
      rw [show i + 1 + k = i + (k + 1) by omega, this]
      rfl
    have hx := z_one x4 (by omega) (by omega)
    have hsr := h6 s List.mem_cons_self
    have h6' : ∀ s ∈ T, zrg 0 1502 s := fun q hq => h6 q (List.mem_cons_of_mem _ hq)
    rw [mHF_isTrue_L20, zgi_ok _ hc.1 (by omega), if_neg (by (try simp only [z_in0, z_isPlaceM, z_isPlaceN, z_isLetterN, z_isTenthN, z_isTapeN, z_isTapeM]); (try simp only [Int32.lt_iff_toInt_lt, Int32.le_iff_toInt_le, ← Int32.toInt_inj, Int32.reduceToInt, Int64.reduceToInt, he]); omega), zgi_ok _ (by omega) (by omega), zgi_ok _ (by omega) (by omega), hs]
    show _ = some (ztf (zhd (zev (HF_facts u) T (zstp (HF_facts u) s st))))
    rw [zdp] at h7
    have goes : ∀ (x3' : Int32) (st' : List Bool), zstp (HF_facts u) s st = st' → zdp T st'.length = some m → st'.length ≤ 12 → x3'.toInt = zbits st' → mHF_isTrue_L20 c u n x3' (x4 + 1) = some (ztf (zhd (zev (HF_facts u) T (zstp (HF_facts u) s st)))) := by
      intro x3' st' g1 g2 g3 g4
      rw [g1]
      exact ih n (i + 1) x3' (x4 + 1) st' (by omega) (by omega) (by omega) h4' h6' g2 g3 g4
    by_cases c0 : s = 0
    · rw [if_pos c0] at h7 ⊢
      cases st with
      | nil => simp at h7
      | cons b r =>
        rw [if_pos (by simp)] at h7
        refine goes _ ((!b) :: r) (by rw [zstp, if_pos c0]) h7 h8 ?_
        rw [b0]
        have q1 := zbF r
        have q2 := zbT r
        cases b
        · show _ = ((zbits (true :: r) : Nat) : Int)
          split <;> omega
        · show _ = ((zbits (false :: r) : Nat) : Int)
          split <;> omega
    · rw [if_neg c0] at h7 ⊢
      by_cases c1 : s = 1
      · rw [if_pos (Or.inl c1)] at h7
        rw [if_pos c1]
        match st, h7, h8, h9, b1, goes with
        | [], h7, _, _, _, _ => simp at h7
        | [_], h7, _, _, _, _ => simp at h7
        | b :: a :: r, h7, h8, h9, b1, goes =>
          rw [if_pos (by simp)] at h7
          refine goes _ ((a && b) :: r) (by rw [zstp, if_neg c0, if_pos c1]) h7 (by simp at h8 ⊢; omega) ?_
          rw [b1]
          simp only [zbits]
          cases a <;> cases b <;> simp <;> omega
      · rw [if_neg c1]
        by_cases c2 : s = 2
        · rw [if_pos (Or.inr c2)] at h7
          rw [if_pos c2]
          match st, h7, h8, h9, b2, goes with
          | [], h7, _, _, _, _ => simp at h7
          | [_], h7, _, _, _, _ => simp at h7
          | b :: a :: r, h7, h8, h9, b2, goes =>
            rw [if_pos (by simp)] at h7
            refine goes _ ((a || b) :: r) (by rw [zstp, if_neg c0, if_neg c1, if_pos c2]) h7 (by simp at h8 ⊢; omega) ?_
            rw [b2]
            simp only [zbits]
            cases a <;> cases b <;> simp <;> omega
        · rw [if_neg (by rintro (h | h); exact c1 h; exact c2 h)] at h7
          rw [if_neg c2, m_passes _ (z_tst hsr c0 c1 c2)]
          by_cases c3 : st.length < 12
          · rw [if_pos c3] at h7
            have key := fun x3' => goes x3' (ztest s (HF_facts u) :: st) (by unfold zstp; rw [if_neg c0, if_neg c1, if_neg c2]) h7 (by simp; omega)
            show (if ztf (ztest s (HF_facts u)) = 0 then _ else _) = _
            cases hq : ztest s (HF_facts u)
            · rw [hq] at key
              rw [if_pos (show ztf false = 0 from rfl)]
              exact key _ (by rw [b3, zbF])
            · rw [hq] at key
              rw [if_neg (by decide)]
              exact key _ (by rw [b4, zbT])
          · rw [if_neg c3] at h7
            cases h7
