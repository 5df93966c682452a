/-! 09.P6: text, told -/
theorem z_char0 : ∀ n, n < 256 → vp_nar .char ((Int32.ofNat n).toUInt32 % 65536).toInt32 = Int32.ofNat n := by decide +kernel
theorem z_and255 (x : Int32) : (x &&& 255).toInt = x.toInt % 256 := by
  have h1 : (x &&& 255).toBitVec.toNat = x.toBitVec.toNat % 256 := by
    rw [Int32.toBitVec_and, BitVec.toNat_and]
    exact Nat.and_two_pow_sub_one_eq_mod x.toBitVec.toNat 8
  have h2 : (x &&& 255).toInt = (x &&& 255).toBitVec.toInt := rfl
  have h3 : x.toInt = x.toBitVec.toInt := rfl
  rw [h2, h3, BitVec.toInt_eq_toNat_cond, BitVec.toInt_eq_toNat_cond, h1]
  have := x.toBitVec.isLt
  split <;> split <;> omega
theorem z_char {y : Int32} (h : 0 ≤ y.toInt) (h2 : y.toInt < 256) : vp_nar .char (y.toUInt32 % 65536).toInt32 = y := by
  have := z_char0 y.toInt.toNat (by omega)
  rw [z_ofNat h] at this
  exact this
theorem z_u32 (x : Int32) : (x.toUInt32.toNat : Int) = x.toInt % 4294967296 := by
  have h3 : x.toInt = x.toBitVec.toInt := rfl
  have h4 : x.toUInt32.toNat = x.toBitVec.toNat := rfl
  rw [h3, h4, BitVec.toInt_eq_toNat_cond]
  have := x.toBitVec.isLt
  split <;> omega
theorem z_i32 (x : UInt32) : x.toInt32.toInt % 4294967296 = x.toNat := by
  have := z_u32 x.toInt32
  rw [← this]
  rfl
theorem z_byte (x k : Int32) (h : k = 0 ∨ k = 1 ∨ k = 2 ∨ k = 3) : (vp_nar .char ((((((x).toUInt32 >>> ((((8 : Int32) * k)).toUInt32 &&& Int32.toUInt32 31)).toInt32) &&& (255 : Int32))).toUInt32 % 65536).toInt32).toInt = ((x >>> (((8 : Int32) * k) &&& 31)).toInt8.toInt32).toInt % 256 ∧ zrg (-128) 127 ((x >>> (((8 : Int32) * k) &&& 31)).toInt8.toInt32) := by
  have key : ∃ c : Nat, c ≤ 24 ∧ ((((x).toUInt32 >>> ((((8 : Int32) * k)).toUInt32 &&& Int32.toUInt32 31)).toInt32).toInt % 256 = (x.toUInt32.toNat / 2 ^ c : Nat) % 256) ∧ (x >>> (((8 : Int32) * k) &&& 31)).toInt = x.toInt / 2 ^ c ∧ (c = 0 ∨ c = 8 ∨ c = 16 ∨ c = 24) := by
    have g : ∀ c : Nat, c ≤ 24 → ∀ b : UInt32, b.toNat % 32 = c → ((x.toUInt32 >>> b).toInt32).toInt % 256 = (x.toUInt32.toNat / 2 ^ c : Nat) % 256 := by
      intro c hc b hb
      have e1 := z_i32 (x.toUInt32 >>> b)
      rw [UInt32.toNat_shiftRight, hb, Nat.shiftRight_eq_div_pow] at e1
      rw [← e1]
      omega
    have g2 : ∀ c : Nat, ∀ b : Int32, (b.toBitVec.smod 32).toNat = c → (x >>> b).toInt = x.toInt / 2 ^ c := by
      intro c b hb
      show (x >>> b).toBitVec.toInt = x.toBitVec.toInt / 2 ^ c
      rw [Int32.toBitVec_shiftRight]
      show (x.toBitVec.sshiftRight (b.toBitVec.smod 32).toNat).toInt = _
      rw [hb, BitVec.toInt_sshiftRight, Int.shiftRight_eq_div_pow]
      norm_cast
    rcases h with rfl | rfl | rfl | rfl
    · exact ⟨0, by omega, g 0 (by omega) _ (by decide), g2 0 _ (by decide), by omega⟩
    · exact ⟨8, by omega, g 8 (by omega) _ (by decide), g2 8 _ (by decide), by omega⟩
    · exact ⟨16, by omega, g 16 (by omega) _ (by decide), g2 16 _ (by decide), by omega⟩
    · exact ⟨24, by omega, g 24 (by omega) _ (by decide), g2 24 _ (by decide), by omega⟩
  obtain ⟨c, hc, k1, k2, k3⟩ := key
  have e1 := z_and255 (((x).toUInt32 >>> ((((8 : Int32) * k)).toUInt32 &&& Int32.toUInt32 31)).toInt32)
  rw [z_char (by rw [e1]; omega) (by rw [e1]; omega), e1, k1]
  rw [Int8.toInt_toInt32, Int32.toInt_toInt8, k2]
  unfold zrg
  rw [Int8.toInt_toInt32, Int32.toInt_toInt8, k2]
  have e2 := z_u32 x
  have e3 := z_lt x
  rcases k3 with rfl | rfl | rfl | rfl <;> simp only [Int.bmod_def] <;> omega
theorem l_feed (x1 : Int32) : ∀ (n : Nat) (x3 : Int32) (u : SV) (v : SM), Ql_text u v → -1 ≤ x3.toInt → x3.toInt ≤ 3 → (M_fed v).toInt + x3.toInt + 1 ≤ 100 → x3.toInt + 1 < n → ∃ r w1 w2, mV_feed_L30 x1 n x3 u = some (r, w1) ∧ mM_feed_L31 x1 n x3 v = some (r, w2) ∧ Ql_text (V_put_textLength_text w1 u) (M_put_fed_text w2 v) := by
  intro n
  induction n with
  | zero => intro x3 u v R h1 h2 h3 h4; omega
  | succ n ih =>
    intro x3 u v R h1 h2 h3 h4
    obtain ⟨⟨a1, a2⟩, a3⟩ := id R
    have a2' := a2
    unfold zrg at a2'
    rw [mV_feed_L30, mM_feed_L31]
    simp only [Int32.lt_iff_toInt_lt, Int32.reduceToInt]
    by_cases h : x3.toInt < 0
    · rw [if_pos h, if_pos h, a1]
      exact ⟨M_fed v, (V_textLength u, V_text u), _, by rw [a1], rfl, R⟩
    · have e1 : (x3 + -1).toInt = x3.toInt - 1 := by
        rw [z_addI (by simp only [Int32.reduceToInt]; omega) (by simp only [Int32.reduceToInt]; omega)]
        simp only [Int32.reduceToInt]
        omega
      have e2 := z_one (M_fed v) (by omega) (by omega)
      rw [if_neg h, if_neg h, a1, zgi_ok _ (by omega) (by omega), zgi_ok _ (by omega) (by omega)]
      have hb := z_byte x1 x3 (by simp only [← Int32.toInt_inj, Int32.reduceToInt]; omega)
      refine ih (x3 + -1) _ _ ?_ (by omega) (by omega) ?_ (by omega)
      · refine ⟨⟨rfl, ?_⟩, ?_⟩
        · show zrg 0 100 (M_fed v + 1)
          unfold zrg
          omega
        · intro k hk
          have hk : k < (M_fed v + 1).toInt.toNat := hk
          show (upd (V_text u) (M_fed v).toNatClampNeg _ k).toInt = (upd (M_text v) (M_fed v).toNatClampNeg _ k).toInt % 256 ∧ zrg (-128) 127 (upd (M_text v) (M_fed v).toNatClampNeg _ k)
          by_cases f : k = (M_fed v).toNatClampNeg
          · rw [f, upd_eq, upd_eq]
            exact hb
          · rw [upd_ne _ _ f, upd_ne _ _ f]
            rw [z_nat] at f
            exact a3 k (by omega)
      · show (M_fed v + 1).toInt + (x3 + -1).toInt + 1 ≤ 100
        omega
theorem pS_feed : zS_feed Rel := by
  intro x1 x2 u v R
  obtain ⟨R1, R2, R3, R4, R5, R6, R7, R8, R9⟩ := id R
  obtain ⟨⟨a1, a2⟩, a3⟩ := id R4
  unfold zrg at a2
  unfold mV_feed mM_feed
  (try simp only [z_in0, z_isPlaceM, z_isPlaceN, z_isLetterN, z_isTenthN, z_isTapeN, z_isTapeM]); (try simp only [Int32.lt_iff_toInt_lt, Int32.le_iff_toInt_le, ← Int32.toInt_inj, Int32.reduceToInt, Int64.reduceToInt])
  rw [a1]
  by_cases h : x2.toInt < 0 ∨ 4 < x2.toInt
  · rw [if_pos h]
    refine ⟨-2, (V_textLength u, V_text u), _, ?_, rfl, R⟩
    rw [a1]
    by_cases h' : x2.toInt < 0
    · rw [if_pos h']
    · rw [if_neg h', if_neg (by omega)]
  · rw [if_neg h, if_neg (by omega), if_pos (by omega), z_addI (by omega) (by omega)]
    by_cases c : (M_fed v).toInt + x2.toInt ≤ 100
    · rw [if_pos c, if_pos c]
      have e : (x2 - 1).toInt = x2.toInt - 1 := z_subI (by simp only [Int32.reduceToInt]; omega) (by simp only [Int32.reduceToInt]; omega)
      obtain ⟨r, w1, w2, b1, b2, b3⟩ := l_feed x1 256 (x2 - 1) u v R4 (by omega) (by omega) (by omega) (by omega)
      exact ⟨r, w1, w2, b1, b2, R1, R2, R3, b3, R5, R6, R7, R8, R9⟩
    · rw [if_neg c, if_neg c]
      exact ⟨-4, (V_textLength u, V_text u), _, by rw [a1], rfl, R⟩
/-- the house that holds -/
theorem z_cur {u : SV} {v : SM} (R : Rel u v) : ∃ (C : List ZC) (b h : Nat), zcl C ∧ RHm C b (M_word v) (M_spot v) (M_number v) (M_from v) (M_to v) (M_sign v) ∧ mV_holding u = some h ∧ h < 6 ∧ RHv C (V_hs u h) ∧ (mM_first v).toInt = b ∧ (∃ e, mM_behind v = some e ∧ e.toInt = b + C.length) ∧ b + C.length ≤ 50 := by
  obtain ⟨⟨⟨h1, h2, h3, h4, h5, h6⟩, hw, ⟨r1, r2, r3, r4, r5, r6⟩, hl⟩, R2, R3, R4, ⟨⟨g1, g2⟩, g3, g4⟩, R6, R7, R8, R9⟩ := id R
  unfold zrg at g2
  unfold mV_holding mM_first mM_behind
  rw [h6]
  have e1 := z_one (M_the v) (by omega) (by omega)
  simp only [Int32.le_iff_toInt_le, Int32.reduceToInt]
  by_cases a : 0 ≤ (M_the v).toInt
  · rw [if_pos a, if_pos a]
    obtain ⟨C, c0, c1, c2, c3, c4⟩ := g4 (M_the v).toInt.toNat (by omega)
    have hC := c1.1
    have e2 : ((10 : Int32) * M_the v).toInt = 10 * (M_the v).toInt := by
      rw [z_mulI (by simp only [Int32.reduceToInt]; omega) (by simp only [Int32.reduceToInt]; omega)]
      simp only [Int32.reduceToInt]
    refine ⟨C, 10 * (M_the v).toInt.toNat, (M_the v).toInt.toNat + 1, c1, c3, ?_, by omega, c4, by rw [e2]; omega, ⟨10 * M_the v + M_clauses v (M_the v).toNatClampNeg, zgi_ok _ a (by omega), ?_⟩, by omega⟩
    · rw [zgi_ok _ (by omega) (by omega), z_nat, e1]
      exact congrArg some (by omega)
    · rw [z_nat, z_addI (by rw [e2, c2]; omega) (by rw [e2, c2]; omega), e2, c2]
      omega
  · rw [if_neg a, if_neg a]
    refine ⟨[], 0, 0, ⟨by simp, by simp [zsm], fun c hc => (nomatch hc)⟩, fun c hc => (nomatch hc), ?_, by omega, g3, rfl, ⟨0, rfl, rfl⟩, by simp⟩
    rw [zgi_ok _ (by omega) (by omega), z_nat, e1]
    exact congrArg some (by omega)
theorem l_last {v : SM} {C : List ZC} {b : Nat} {e : Int32} (hm : RHm C b (M_word v) (M_spot v) (M_number v) (M_from v) (M_to v) (M_sign v)) (hb : mM_behind v = some e) (he : e.toInt = b + C.length) (h5 : b + C.length ≤ 50) (w o : Int32) (d : Nat) : ∀ (n i : Nat) (x acc : Int32), i + d = C.length → d < n → x.toInt = b + i → mM_last_L9 w o v n acc x = some ((C.drop i).foldl (fun n c => if c.1 = w ∧ c.2.1 = o then c.2.2.1 else n) acc) := by
  induction d with
  | zero =>
    intro n i x acc h1 h2 h3
    obtain ⟨n, rfl⟩ : ∃ m, n = m + 1 := ⟨n - 1, by omega⟩
    rw [mM_last_L9, hb, Option.bind_some, if_pos (by (try simp only [z_in0, z_isPlaceM, z_isPlaceN, z_isLetterN, z_isTenthN, z_isTapeN, z_isTapeM]); (try simp only [Int32.lt_iff_toInt_lt, Int32.le_iff_toInt_le, ← Int32.toInt_inj, Int32.reduceToInt, Int64.reduceToInt]); omega), List.drop_of_length_le (by omega)]
    rfl
  | succ d ih =>
    intro n i x acc h1 h2 h3
    obtain ⟨n, rfl⟩ : ∃ m, n = m + 1 := ⟨n - 1, by omega⟩
    have hi : i < C.length := by omega
    obtain ⟨k1, k2, k3, k4⟩ := hm i hi
    have e1 := z_one x (by omega) (by omega)
    have ex : x.toNatClampNeg = b + i := by rw [z_nat]; omega
    rw [mM_last_L9, hb, Option.bind_some, if_neg (by (try simp only [z_in0, z_isPlaceM, z_isPlaceN, z_isLetterN, z_isTenthN, z_isTapeN, z_isTapeM]); (try simp only [Int32.lt_iff_toInt_lt, Int32.le_iff_toInt_le, ← Int32.toInt_inj, Int32.reduceToInt, Int64.reduceToInt]); omega), List.drop_eq_getElem_cons hi, List.foldl_cons]
    rw [zgi_ok _ (by omega) (by omega), zgi_ok _ (by omega) (by omega), zgi_ok _ (by omega) (by omega), ex, k1, k2, k3]
    rw [ih n (i + 1) (x + 1) _ (by omega) (by omega) (by omega), ih n (i + 1) (x + 1) _ (by omega) (by omega) (by omega)]
    by_cases a : C[i].1 = w
    · by_cases b : C[i].2.1 = o
      · rw [if_pos a, if_pos b, if_pos ⟨a, b⟩]
      · rw [if_pos a, if_neg b, if_neg (fun h => b h.2)]
    · rw [if_neg a, if_neg (fun h => a h.1)]
theorem m_last {v : SM} {C : List ZC} {b : Nat} {e : Int32} (hm : RHm C b (M_word v) (M_spot v) (M_number v) (M_from v) (M_to v) (M_sign v)) (hf : (mM_first v).toInt = b) (hb : mM_behind v = some e) (he : e.toInt = b + C.length) (h5 : b + C.length ≤ 50) (w o d : Int32) : mM_last w o d v = some (zlast C w o d) := by
  unfold mM_last
  rw [l_last hm hb he h5 w o C.length 256 0 (mM_first v) d (by omega) (by omega) hf]
  rfl
theorem z_16 {a : Int32} (h : zrg 0 9 a) : ((16 : Int32) * a).toInt = 16 * a.toInt := by
  unfold zrg at h
  rw [z_mulI (by simp only [Int32.reduceToInt]; omega) (by simp only [Int32.reduceToInt]; omega)]
  simp only [Int32.reduceToInt]
theorem z_so {C : List ZC} {h : SH} (H : RHv C h) {a : Int32} (ha : zrg 0 9 a) : mH_soundOf a 0 h = some (zlast C 3 (16 * a) a) ∧ mH_soundOf a 1 h = some (zlast C 3 (16 * a + 1) a) ∧ mH_swapOf a h = some (zlast C 4 (16 * a) a) ∧ H_late h = zlast C 2 0 1 := by
  obtain ⟨h1, h2, h3, h4, h5⟩ := H
  obtain ⟨s1, s2, s3⟩ := h5 a ha
  have ha' := ha
  unfold zrg at ha'
  unfold mH_soundOf mH_swapOf
  have e1 : ((0 : Int32) * 10 + a).toInt = a.toInt := by
    rw [z_addI (by simp only [Int32.reduceMul, Int32.reduceToInt]; omega) (by simp only [Int32.reduceMul, Int32.reduceToInt]; omega)]
    simp only [Int32.reduceMul, Int32.reduceToInt]
    omega
  have e2 : ((1 : Int32) * 10 + a).toInt = 10 + a.toInt := by
    rw [z_addI (by simp only [Int32.reduceMul, Int32.reduceToInt]; omega) (by simp only [Int32.reduceMul, Int32.reduceToInt]; omega)]
    simp only [Int32.reduceMul, Int32.reduceToInt]
  rw [zgi_ok _ (by omega) (by omega), zgi_ok _ (by omega) (by omega), zgi_ok _ (by omega) (by omega), z_nat, z_nat, z_nat, e1, e2, s1, s3, ← s2, show (10 + a.toInt).toNat = 10 + a.toInt.toNat by omega]
  exact ⟨rfl, rfl, rfl, h4⟩
theorem pS_told : zS_told Rel := by
  intro x1 x2 u v R
  obtain ⟨C, b, h, c1, c2, c3, c4, c5, c6, ⟨e, c7, c8⟩, c9⟩ := z_cur R
  unfold mV_told mM_told mM_hears mM_lateNow
  simp only [m_last c2 c6 c7 c8 c9, c3, Option.bind_some, zgk_ok _ c4]
  simp only [z_isLetterN, z_in0]
  simp only [Int32.reduceToInt]
  by_cases a : x1.toInt < 0 ∨ 9 < x1.toInt
  · rw [if_pos a, if_pos a]
    exact ⟨_, rfl, rfl, R⟩
  · rw [if_neg a, if_neg a]
    obtain ⟨s1, s2, s3, s4⟩ := z_so c5 (a := x1) ⟨by omega, by omega⟩
    rw [s1, s2, s3, s4]
    have e0 : (16 : Int32) * x1 + 0 = 16 * x1 := by
      rw [← Int32.toInt_inj, z_addI (by have := z_16 (a := x1) ⟨by omega, by omega⟩; simp only [Int32.reduceToInt]; omega) (by have := z_16 (a := x1) ⟨by omega, by omega⟩; simp only [Int32.reduceToInt]; omega)]
      simp only [Int32.reduceToInt]
      omega
    rw [e0]
    split
    · exact ⟨_, rfl, rfl, R⟩
    · split
      · exact ⟨_, rfl, rfl, R⟩
      · split
        · exact ⟨_, rfl, rfl, R⟩
        · split
          · exact ⟨_, rfl, rfl, R⟩
          · exact ⟨_, rfl, rfl, R⟩
