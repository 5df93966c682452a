/-! 09.P16: held, heard -/
theorem z_vo {u : SV} {v : SM} (R : Rel u v) (x : Int32) : (mV_voiceAt x u = some none ∧ mM_isVoice x v = 0) ∨ (mV_voiceAt x u = some (some x.toInt.toNat) ∧ ¬ mM_isVoice x v = 0 ∧ zV u v x) := by
  rcases z_voice R x with h | ⟨h1, h2, h3, h4, h5, h6, h7⟩
  · exact Or.inl h
  · exact Or.inr ⟨h1, h2, h3, h4, h5, h6, h7⟩
theorem z_st {u : SV} {v : SM} (R : Rel u v) (x : Int32) : (mV_isSeat x u = 0 ∧ mM_isSeat x v = 0) ∨ (¬ mV_isSeat x u = 0 ∧ ¬ mM_isSeat x v = 0 ∧ (0 ≤ x.toInt ∧ x.toInt ≤ 7)) := by
  obtain ⟨e1, e2, e3⟩ := z_isSeat R x
  unfold zrg at e3
  rw [e1]
  by_cases c : mM_isSeat x v = 0
  · exact Or.inl ⟨c, c⟩
  · refine Or.inr ⟨c, c, ?_⟩
    rw [e2] at c
    omega
theorem pS_held : zS_held Rel := by
  intro x1 x2 x3 x4 u v R
  have hRR : ∀ w1 w2, Rel (V_put_look w1 u) (M_put_pile w2 v) := fun _ _ => R
  unfold mV_held mM_held
  rcases z_vo R x1 with ⟨a, b⟩ | ⟨a, b, hV⟩
  · rw [a, if_pos b]
    exact ⟨_, _, _, rfl, rfl, R⟩
  · rw [a, if_neg b, Option.bind_some]
    simp only [zcs]
    rcases z_st R x2 with ⟨c, d⟩ | ⟨c, d, hs⟩
    · rw [if_pos c, if_pos d]
      exact ⟨_, _, _, rfl, rfl, R⟩
    · rw [if_neg c, if_neg d]
      simp only [z_isTenthN, z_in0, Int32.reduceToInt]
      by_cases e : x3.toInt < 0 ∨ 39 < x3.toInt
      · rw [if_pos e, if_pos e]
        exact ⟨_, _, _, rfl, rfl, R⟩
      · have ht : 0 ≤ x3.toInt ∧ x3.toInt ≤ 39 := by omega
        rw [if_neg e, if_neg e]
        obtain ⟨K, hK, k1, k2, k3, k4, k5, k6, k7⟩ := c_look R hV hs ht
        obtain ⟨p1, e1⟩ : ∃ p', mM_earOf x1 x2 x3 v = some (xE v x1 x2 x3, p') := q_ear R hV hs ht (M_pile v)
        obtain ⟨p2, e2⟩ : ∃ p', mM_unsure 1 x1 x2 x3 v = some (xU v 1 x1 x2 x3, p') := (q_unsure R (w := 1) (Or.inr rfl) hV.1 hs ht).1 (M_pile v)
        have e3 := q_sounds hV R.1.2.2.1.1 R.1.2.2.1.2.1
        obtain ⟨p4, e4⟩ : ∃ p', mM_joined x1 x2 x3 (M_jaw v) 0 v = some (ztf (xJ v x1 x2 x3 (M_jaw v) 0), p') := q_join R (l := 0) hV hs ht R.1.2.2.1.2.1 (by decide) (M_pile v)
        obtain ⟨p5, e5⟩ : ∃ p', mM_heldOf x1 x2 x3 v = some (xH v x1 x2 x3, p') := q_held R hV hs ht (M_pile v)
        obtain ⟨p6, e6⟩ : ∃ p', mM_isCaught x1 x2 x3 v = some (ztf (xC v x1 x2 x3), p') := q_caught R hV hs ht (M_pile v)
        rw [hK, Option.bind_some, k1, k2, k3, k5, k6, k7, e1, e2, e3, e4, e5, e6]
        simp only [Option.bind_some]
        split
        · exact ⟨_, _, _, rfl, rfl, hRR _ _⟩
        · split
          · exact ⟨_, _, _, rfl, rfl, hRR _ _⟩
          · split
            · exact ⟨_, _, _, rfl, rfl, hRR _ _⟩
            · split
              · cases xJ v x1 x2 x3 (M_jaw v) 0
                · exact ⟨_, _, _, rfl, rfl, hRR _ _⟩
                · exact ⟨_, _, _, rfl, rfl, hRR _ _⟩
              · split
                · exact ⟨_, _, _, rfl, rfl, hRR _ _⟩
                · split
                  · cases xC v x1 x2 x3
                    · exact ⟨_, _, _, rfl, rfl, hRR _ _⟩
                    · exact ⟨_, _, _, rfl, rfl, hRR _ _⟩
                  · exact ⟨_, _, _, rfl, rfl, hRR _ _⟩
/-- what is SAID for the i-th -/
def xs (v : SM) (a i : Int32) : Int32 := match mM_saidOf a i v with
  | some r => r
  | none => 0
/-- what a sound is heard as -/
def xh (v : SM) (l b : Int32) : Int32 := match mM_hears l b v with
  | some r => r
  | none => 0
theorem q_said {u : SV} {v : SM} (R : Rel u v) {a i : Int32} (hV : zV u v a) (hi : 0 ≤ i.toInt ∧ i.toInt ≤ 19) : mM_saidOf a i v = some (xs v a i) ∧ zrg 0 9 (xs v a i) ∧ mV_letterSaid a.toInt.toNat i u = some (xs v a i) := by
  obtain ⟨C, b, h, c1, c2, c3, c4, c5, c6, ⟨e, c7, c8⟩, c9⟩ := z_cur R
  obtain ⟨⟨h1, h2, h3, h4, h5, h6⟩, hw, hr, hl⟩ := R.1
  have hl' := hl i.toInt.toNat (by omega)
  obtain ⟨s1, s2, s3, s4⟩ := z_so c5 hl'
  have key : mM_saidOf a i v = some (if M_kind v a.toInt.toNat = 5 then zlast C 4 (16 * M_letter v i.toInt.toNat) (M_letter v i.toInt.toNat) else M_letter v i.toInt.toNat) := by
    unfold mM_saidOf
    rw [zgi_ok _ hV.1.1 (by have := hV.1.2; omega), zgi_ok _ hi.1 (by omega), zgi_ok _ hi.1 (by omega), zgi_ok _ hi.1 (by omega), m_last c2 c6 c7 c8 c9, z_nat, z_nat]
    split <;> rfl
  have hx : xs v a i = if M_kind v a.toInt.toNat = 5 then zlast C 4 (16 * M_letter v i.toInt.toNat) (M_letter v i.toInt.toNat) else M_letter v i.toInt.toNat := by
    unfold xs
    rw [key]
  rw [hx]
  refine ⟨key, ?_, ?_⟩
  · split
    · exact zlast_rg _ _ _ hl' (fun c hc h => (c1.2.2 c hc).2.2.1 (Or.inr h))
    · exact hl'
  · unfold mV_letterSaid
    rw [zgi_ok _ hi.1 (by omega), zgk_ok _ hV.2.1, hV.2.2.1, z_nat, hw _ (by omega), c3, Option.bind_some, zgk_ok _ c4, s3]
    show (if M_kind v a.toInt.toNat = 5 then _ else _) = _
    split <;> rfl
theorem q_hears {u : SV} {v : SM} (R : Rel u v) : ∃ h, mV_holding u = some h ∧ h < 6 ∧ ∀ l, zrg 0 9 l → (mM_hears l 0 v = some (xh v l 0) ∧ mM_hears l 1 v = some (xh v l 1)) ∧ mH_soundOf l 0 (V_hs u h) = some (xh v l 0) ∧ mH_soundOf l 1 (V_hs u h) = some (xh v l 1) := by
  obtain ⟨C, b, h, c1, c2, c3, c4, c5, c6, ⟨e, c7, c8⟩, c9⟩ := z_cur R
  refine ⟨h, c3, c4, fun l hl => ?_⟩
  obtain ⟨s1, s2, s3, s4⟩ := z_so c5 hl
  have k0 : mM_hears l 0 v = some (zlast C 3 (16 * l) l) := by
    unfold mM_hears
    rw [m_last c2 c6 c7 c8 c9, z_add0]
    rfl
  have k1 : mM_hears l 1 v = some (zlast C 3 (16 * l + 1) l) := by
    unfold mM_hears
    rw [m_last c2 c6 c7 c8 c9]
    rfl
  have x0 : xh v l 0 = zlast C 3 (16 * l) l := by unfold xh; rw [k0]
  have x1 : xh v l 1 = zlast C 3 (16 * l + 1) l := by unfold xh; rw [k1]
  rw [x0, x1]
  exact ⟨⟨k0, k1⟩, s1, s2⟩
/-- what a SEAT hears if that LETTER is SAID -/
def xSd (v : SM) (s l : Int32) (j : Bool) : Int32 := if j = true then xh v l 0 else if 20 < M_far v s.toInt.toNat then l else if 3 ≤ l then xh v l 0 else xh v l 1
theorem c_soundAt {u : SV} {v : SM} (R : Rel u v) {s l : Int32} (hs : 0 ≤ s.toInt ∧ s.toInt ≤ 7) (hl : zrg 0 9 l) (j : Bool) : mV_soundAt s l (ztf j) u = some (xSd v s l j) := by
  obtain ⟨h, h1, h2, h3⟩ := q_hears R
  obtain ⟨_, h4, h5⟩ := h3 l hl
  obtain ⟨⟨f1, f2⟩, f3, f4⟩ := R.2.2.1.2 s.toInt.toNat (by omega)
  unfold mV_soundAt
  rw [zgi_ok _ hs.1 (by omega), h1, Option.bind_some, Option.bind_some, zgk_ok _ h2, zgk_ok _ h2, h4, h5, z_nat, f1]
  unfold xSd
  cases j
  · rw [if_pos (show ztf false = 0 from rfl)]
    simp only [Bool.false_eq_true, if_false, Int32.lt_iff_toInt_lt, Int32.le_iff_toInt_le, Int32.reduceToInt]
    split
    · rfl
    · by_cases c : 2 < l.toInt
      · rw [if_pos c, if_pos (by omega)]; rfl
      · rw [if_neg c, if_neg (by omega)]; rfl
  · rw [if_neg (show ¬ ztf true = 0 by decide)]
    rfl
theorem z_2i {i : Int32} (hi : 0 ≤ i.toInt ∧ i.toInt ≤ 100) : ((2 : Int32) * i).toInt = 2 * i.toInt := by
  rw [z_mulI (by simp only [Int32.reduceToInt]; omega) (by simp only [Int32.reduceToInt]; omega)]
  simp only [Int32.reduceToInt]
theorem q_heardOf {u : SV} {v : SM} (R : Rel u v) {a s i l : Int32} (hV : zV u v a) (hs : 0 ≤ s.toInt ∧ s.toInt ≤ 7) (hi : 0 ≤ i.toInt ∧ i.toInt ≤ 19) (hl : zrg 0 9 l) (p : Nat → Int32) : ∃ p', mM_heardOf a s i l (M_put_pile p v) = some (xSd v s l (xJ v a s (2 * i) (M_jaw v) 0), p') := by
  obtain ⟨h, h1, h2, h3⟩ := q_hears R
  obtain ⟨⟨k0, k1⟩, _⟩ := h3 l hl
  have e2 := z_2i (i := i) (by omega)
  obtain ⟨p', e4⟩ := q_join R (l := 0) hV hs (t := 2 * i) (by omega) R.1.2.2.1.2.1 (by decide) p
  have e0 : M_jaw (M_put_pile p v) = M_jaw v := rfl
  have e1 : M_far (M_put_pile p v) = M_far v := rfl
  unfold mM_heardOf
  rw [e0, e4, Option.bind_some, e1, zgi_ok _ hs.1 (by omega)]
  simp only [pl_hears, k0, k1, Option.bind_some, z_nat]
  refine ⟨p', ?_⟩
  unfold xSd
  cases xJ v a s (2 * i) (M_jaw v) 0
  · rw [if_pos (show ztf false = 0 from rfl)]
    simp only [Bool.false_eq_true, if_false]
    split
    · rfl
    · split <;> rfl
  · rfl
def xRt (v : SM) (a s i : Int32) : Bool := decide (xSd v s (xs v a i) (xJ v a s (2 * i) (M_jaw v) 0) = M_letter v i.toInt.toNat)
theorem q_right {u : SV} {v : SM} (R : Rel u v) {a s i : Int32} (hV : zV u v a) (hs : 0 ≤ s.toInt ∧ s.toInt ≤ 7) (hi : 0 ≤ i.toInt ∧ i.toInt ≤ 19) (p : Nat → Int32) : ∃ p', mM_isRight a s i (M_put_pile p v) = some (ztf (xRt v a s i), p') := by
  obtain ⟨s1, s2, s3⟩ := q_said R hV hi
  obtain ⟨p', h1⟩ := q_heardOf R hV hs hi s2 p
  have e0 : mM_saidOf a i (M_put_pile p v) = mM_saidOf a i v := by
    unfold mM_saidOf
    simp only [pl_lastF]
    rfl
  have e1 : M_letter (M_put_pile p v) = M_letter v := rfl
  unfold mM_isRight
  rw [e0, s1, Option.bind_some, h1, Option.bind_some, zgi_ok _ hi.1 (by omega), e1, z_nat]
  refine ⟨p', ?_⟩
  unfold xRt
  by_cases c : xSd v s (xs v a i) (xJ v a s (2 * i) (M_jaw v) 0) = M_letter v i.toInt.toNat
  · rw [if_pos c, decide_eq_true c]; rfl
  · rw [if_neg c, decide_eq_false c]; rfl
theorem c_heard {u : SV} {v : SM} (R : Rel u v) {a s i : Int32} (hV : zV u v a) (hs : 0 ≤ s.toInt ∧ s.toInt ≤ 7) (hi : 0 ≤ i.toInt ∧ i.toInt ≤ 19) : ∃ K, mV_letterHeard a.toInt.toNat s i u = some (xSd v s (xs v a i) (xJ v a s (2 * i) (M_jaw v) 0), K) := by
  obtain ⟨s1, s2, s3⟩ := q_said R hV hi
  have e2 := z_2i (i := i) (by omega)
  obtain ⟨K, hK, k1, k2, k3, k4, k5, k6, k7⟩ := c_look R hV hs (t := 2 * i) (by omega)
  unfold mV_letterHeard
  rw [s3, Option.bind_some, hK, Option.bind_some, k5, c_soundAt (u := V_put_look K u) (v := v) R hs s2]
  exact ⟨K, rfl⟩
theorem c_right {u : SV} {v : SM} (R : Rel u v) {a s i : Int32} (hV : zV u v a) (hs : 0 ≤ s.toInt ∧ s.toInt ≤ 7) (hi : 0 ≤ i.toInt ∧ i.toInt ≤ 19) : ∃ K, mV_isRight a.toInt.toNat s i u = some (ztf (xRt v a s i), K) := by
  obtain ⟨K, hK⟩ := c_heard R hV hs hi
  unfold mV_isRight
  rw [hK, Option.bind_some, zgi_ok _ hi.1 (by omega), z_nat, R.1.2.1 _ (by omega)]
  refine ⟨K, ?_⟩
  unfold xRt
  by_cases c : xSd v s (xs v a i) (xJ v a s (2 * i) (M_jaw v) 0) = M_letter v i.toInt.toNat
  · rw [if_pos c, decide_eq_true c]; rfl
  · rw [if_neg c, decide_eq_false c]; rfl
theorem z_sd {u : SV} {v : SM} (R : Rel u v) (i : Int32) : ((mV_isSaid i u = 0) = (i.toInt < 0 ∨ (M_letters v).toInt ≤ i.toInt)) ∧ ((mM_in i 0 (M_letters v - 1) = 0) = (i.toInt < 0 ∨ (M_letters v).toInt ≤ i.toInt)) ∧ (0 ≤ (M_letters v).toInt ∧ (M_letters v).toInt ≤ 20) := by
  have hl := R.1.2.2.1.2.2.2.1
  have h4 := R.1.1.2.2.2.1
  unfold zrg at hl
  have e : (M_letters v - 1).toInt = (M_letters v).toInt - 1 := z_subI (by simp only [Int32.reduceToInt]; omega) (by simp only [Int32.reduceToInt]; omega)
  refine ⟨?_, ?_, hl⟩
  · unfold mV_isSaid
    rw [h4]
    simp only [Int32.lt_iff_toInt_lt, Int32.le_iff_toInt_le, Int32.reduceToInt]
    by_cases h1 : i.toInt < 0
    · simp [h1]
    · by_cases h2 : (M_letters v).toInt ≤ i.toInt
      · simp [h1, h2]
      · simp [h1, h2]
  · rw [z_in0, e]
    simp only [Int32.reduceToInt, eq_iff_iff]
    omega
theorem pS_heard : zS_heard Rel := by
  intro x1 x2 x3 x4 u v R
  have hRR : ∀ w1 w2, Rel (V_put_look w1 u) (M_put_pile w2 v) := fun _ _ => R
  obtain ⟨g1, g2, g3⟩ := z_sd R x3
  unfold mV_heard mM_heard
  rcases z_vo R x1 with ⟨a, b⟩ | ⟨a, b, hV⟩
  · rw [a, if_pos b]
    exact ⟨_, _, _, rfl, rfl, R⟩
  · rw [a, if_neg b, Option.bind_some]
    simp only [zcs]
    rcases z_st R x2 with ⟨c, d⟩ | ⟨c, d, hs⟩
    · rw [if_pos c, if_pos d]
      exact ⟨_, _, _, rfl, rfl, R⟩
    · rw [if_neg c, if_neg d]
      simp only [g1, g2]
      by_cases e : x3.toInt < 0 ∨ (M_letters v).toInt ≤ x3.toInt
      · rw [if_pos e, if_pos e]
        exact ⟨_, _, _, rfl, rfl, R⟩
      · have hi : 0 ≤ x3.toInt ∧ x3.toInt ≤ 19 := by omega
        rw [if_neg e, if_neg e]
        obtain ⟨s1, s2, s3⟩ := q_said R hV hi
        obtain ⟨p1, e1⟩ : ∃ p', mM_heardOf x1 x2 x3 (xs v x1 x3) v = some (xSd v x2 (xs v x1 x3) (xJ v x1 x2 (2 * x3) (M_jaw v) 0), p') := q_heardOf R hV hs hi s2 (M_pile v)
        obtain ⟨p2, e2⟩ : ∃ p', mM_isRight x1 x2 x3 v = some (ztf (xRt v x1 x2 x3), p') := q_right R hV hs hi (M_pile v)
        obtain ⟨K1, e3⟩ := c_heard R hV hs hi
        obtain ⟨K2, e4⟩ := c_right R hV hs hi
        rw [s1, s3, e2, e3, e4]
        simp only [Option.bind_some, e1]
        split
        · exact ⟨_, _, _, rfl, rfl, R⟩
        · split
          · exact ⟨_, _, _, rfl, rfl, hRR _ _⟩
          · split
            · cases xRt v x1 x2 x3
              · exact ⟨_, _, _, rfl, rfl, hRR _ _⟩
              · exact ⟨_, _, _, rfl, rfl, hRR _ _⟩
            · exact ⟨_, _, _, rfl, rfl, R⟩
