/-! 09.P24: sure -/
theorem ps_u1 (x1 x2 x3 x4 : Int32) (u u' : SV) : ∀ (n : Nat) (a b : Int64) (c : Int32), mV_partOfSure_L55 x1 x2 x3 x4 u n a b c = mV_partOfSure_L55 x1 x2 x3 x4 u' n a b c := by
  intro n
  induction n with
  | zero => intro a b c; rw [mV_partOfSure_L55, mV_partOfSure_L55]
  | succ n ih =>
    intro a b c
    rw [mV_partOfSure_L55, mV_partOfSure_L55, ih]
theorem ps_u2 (x1 x2 : Int32) (u u' : SV) : ∀ (n : Nat) (a b c : Int32), mV_partOfSure_L15 x1 x2 u n a b c = mV_partOfSure_L15 x1 x2 u' n a b c := by
  intro n
  induction n with
  | zero => intro a b c; rw [mV_partOfSure_L15, mV_partOfSure_L15]
  | succ n ih =>
    intro a b c
    rw [mV_partOfSure_L15, mV_partOfSure_L15, ps_u1 x1 x2 a b u u', ih (a / c) (b / c) (c + 3), ih a b (c + 3)]
def sT (n part s : Nat) : Option Int64 := mV_partOfSure_L15 (Int32.ofNat n) (Int32.ofNat part) V_u0 256 (Int32.ofNat s) 10 2
def zpw (b : Int64) : Nat → Int64
  | 0 => 1
  | n + 1 => zpw b n * b
def sO (A B : Int64) (part : Nat) : Option Int64 := (mM_divisor A B).bind fun d => if part = 0 then zgl d (some (A / d)) else zgl d (some (B / d))
set_option maxRecDepth 100000 in
theorem s_tab : ∀ n, n < 16 → ∀ s, s < 11 → ∀ part, part < 2 → sT n part s = sO (zpw 10 n - zpw (Int32.ofNat s).toInt64 n) (zpw 10 n) part ∧ sT 0 part s = sO 0 (zpw 10 n) part ∧ (sT n part s).isSome = true ∧ (sT 0 part s).isSome = true := by decide +kernel
theorem l_su {u : SV} {v : SM} (R : Rel u v) {a s t w N : Int32} (hV : zV u v a) (hs : 0 ≤ s.toInt ∧ s.toInt ≤ 7) (ht : 0 ≤ t.toInt ∧ t.toInt ≤ 39) (hN : 0 ≤ N.toInt ∧ N.toInt ≤ 15) (d : Nat) : ∀ (n i : Nat) (A B : Int64) (x : Int32), (i : Int) + d = N.toInt → d < n → x.toInt = i → A = zpw (M_slips v).toInt64 i → B = zpw 10 i → ∃ p', mM_sure_L71 a s t w N n A B x v = mM_sure_J125 w (zpw 10 N.toInt.toNat) (if xM v a s t (M_jaw v) = true then zpw 10 N.toInt.toNat - zpw (M_slips v).toInt64 N.toInt.toNat else 0) (M_put_pile p' v) := by
  induction d with
  | zero =>
    intro n i A B x h1 h2 h3 hA hB
    obtain ⟨n, rfl⟩ : ∃ m, n = m + 1 := ⟨n - 1, by omega⟩
    obtain ⟨p1, e1⟩ : ∃ p', mM_mayJoin a s t (M_jaw v) v = some (ztf (xM v a s t (M_jaw v)), p') := q_may R hV hs ht R.1.2.2.1.2.1 (M_pile v)
    have hi : i = N.toInt.toNat := by omega
    rw [mM_sure_L71, if_pos (by (try simp only [z_in0, z_isPlaceM, z_isPlaceN, z_isLetterN, z_isTenthN, z_isTapeN, z_isTapeM]); (try simp only [Int32.lt_iff_toInt_lt, Int32.le_iff_toInt_le, ← Int32.toInt_inj, Int32.reduceToInt, Int64.reduceToInt]); omega), e1, Option.bind_some, hA, hB, hi]
    refine ⟨p1, ?_⟩
    cases xM v a s t (M_jaw v)
    · simp only [z_tfF, if_true, Bool.false_eq_true, if_false]
    · simp only [z_tfT, if_true, if_false]
  | succ d ih =>
    intro n i A B x h1 h2 h3 hA hB
    obtain ⟨n, rfl⟩ : ∃ m, n = m + 1 := ⟨n - 1, by omega⟩
    have hx := z_one x (by omega) (by omega)
    rw [mM_sure_L71, if_neg (by (try simp only [z_in0, z_isPlaceM, z_isPlaceN, z_isLetterN, z_isTenthN, z_isTapeN, z_isTapeM]); (try simp only [Int32.lt_iff_toInt_lt, Int32.le_iff_toInt_le, ← Int32.toInt_inj, Int32.reduceToInt, Int64.reduceToInt]); omega)]
    exact ih n (i + 1) _ _ (x + 1) (by omega) (by omega) (by omega) (by rw [hA]; rfl) (by rw [hB]; rfl)
theorem m_J125 (part : Nat) (hp : part < 2) (A B : Int64) (u : SM) : mM_sure_J125 (Int32.ofNat part) B A u = (sO A B part).bind fun r => some (r, M_pile u) := by
  unfold mM_sure_J125 sO
  have : part = 0 ∨ part = 1 := by omega
  cases mM_divisor A B with
  | none => rfl
  | some d =>
    rcases this with rfl | rfl
    · rw [Option.bind_some, Option.bind_some, if_pos (show Int32.ofNat 0 = 0 by decide), if_pos (show (0 : Nat) = 0 from rfl)]
      unfold zgl
      by_cases c : d = 0
      · rw [if_pos c, if_pos c]; rfl
      · rw [if_neg c, if_neg c]; rfl
    · rw [Option.bind_some, Option.bind_some, if_neg (show ¬ Int32.ofNat 1 = 0 by decide), if_neg (show ¬ (1 : Nat) = 0 by decide)]
      unfold zgl
      by_cases c : d = 0
      · rw [if_pos c, if_pos c]; rfl
      · rw [if_neg c, if_neg c]; rfl
theorem pS_sure : zS_sure Rel := by
  intro x1 x2 x3 x4 u v R
  have hRR : ∀ w1 w2, Rel (V_put_look w1 u) (M_put_pile w2 v) := fun _ _ => R
  have h3s := R.1.1.2.2.1
  have hsl := R.1.1.2.2.2.2.1
  have hslr := R.1.2.2.1.2.2.2.2.1
  unfold zrg at hslr
  unfold mV_sure mM_sure
  rcases z_vo R x1 with ⟨a, b⟩ | ⟨a, b, hV⟩
  · rw [a, if_pos b]
    exact ⟨_, _, _, rfl, rfl, R⟩
  · rw [a, if_neg b, Option.bind_some]
    simp only [zcs]
    rcases z_st R x2 with ⟨c, d⟩ | ⟨c, d, hs⟩
    · rw [if_pos c, if_pos d]
      exact ⟨_, _, _, rfl, rfl, R⟩
    · rw [if_neg c, if_neg d]
      simp only [z_isTenthN, z_in0, Int32.reduceToInt]
      by_cases e : x3.toInt < 0 ∨ 39 < x3.toInt
      · rw [if_pos e, if_pos e]
        exact ⟨_, _, _, rfl, rfl, R⟩
      · have ht : 0 ≤ x3.toInt ∧ x3.toInt ≤ 39 := by omega
        rw [if_neg e, if_neg e]
        by_cases f : x4.toInt < 0 ∨ 1 < x4.toInt
        · rw [if_pos f]
          refine ⟨-9223372036854775808, V_look u, M_pile v, ?_, rfl, R⟩
          (try simp only [z_in0, z_isPlaceM, z_isPlaceN, z_isLetterN, z_isTenthN, z_isTapeN, z_isTapeM]); (try simp only [Int32.lt_iff_toInt_lt, Int32.le_iff_toInt_le, ← Int32.toInt_inj, Int32.reduceToInt, Int64.reduceToInt])
          by_cases g : x4.toInt < 0
          · rw [if_pos g]
          · rw [if_neg g, if_neg (by omega)]
        · rw [if_neg f, if_neg (by (try simp only [z_in0, z_isPlaceM, z_isPlaceN, z_isLetterN, z_isTenthN, z_isTapeN, z_isTapeM]); (try simp only [Int32.lt_iff_toInt_lt, Int32.le_iff_toInt_le, ← Int32.toInt_inj, Int32.reduceToInt, Int64.reduceToInt]); omega), if_pos (by (try simp only [z_in0, z_isPlaceM, z_isPlaceN, z_isLetterN, z_isTenthN, z_isTapeN, z_isTapeM]); (try simp only [Int32.lt_iff_toInt_lt, Int32.le_iff_toInt_le, ← Int32.toInt_inj, Int32.reduceToInt, Int64.reduceToInt]); omega), zgk_ok _ hV.2.1]
          obtain ⟨Y, y1, y2⟩ := q_around R ht (x1 := mO_movingOf (M_moves v) (x1, (M_kind v x1.toInt.toNat, M_v v x1.toInt.toNat))) (m := M_moves v) (b := 0 + (if M_kind v x1.toInt.toNat = 6 then (M_v v x1.toInt.toNat).toInt else 0)) (fun k hk => zb_moving (m' := M_moves v) (m := M_moves v) (n := 0) (o := x1) (kd := M_kind v x1.toInt.toNat) (w := M_v v x1.toInt.toNat) (by omega) (fun k hk => by rw [decide_eq_true (by omega)]; simp) hV.2.2.2.2 hk)
          obtain ⟨r, m1, m2⟩ := q_moves R hV ht (l := 0) (by decide)
          have hbc : mN_bitCount_95d88 Y = r := by
            apply Int32.toInt_inj.mp
            rw [q_bits, y2, m2]
            rfl
          rw [h3s, hV.2.2.1, y1, Option.bind_some, hbc, m1, Option.bind_some]
          by_cases g : r ≤ 15
          · have g' := Int32.le_iff_toInt_le.mp g
            simp only [Int32.reduceToInt] at g'
            have hN : 0 ≤ r.toInt ∧ r.toInt ≤ 15 := by omega
            rw [if_pos g, if_pos g]
            obtain ⟨K, e1, k1, k2, k3, k4, k5, k6, k7⟩ := c_look R hV hs ht
            obtain ⟨p', e2⟩ := l_su R (w := x4) hV hs ht hN r.toInt.toNat 256 0 1 1 0 (by omega) (by omega) rfl rfl rfl
            have hp4 : Int32.ofNat x4.toInt.toNat = x4 := z_ofNat (by omega)
            have hpr : Int32.ofNat r.toInt.toNat = r := z_ofNat (by omega)
            have hps : Int32.ofNat (M_slips v).toInt.toNat = M_slips v := z_ofNat (by omega)
            obtain ⟨t1, t2, t3, t4⟩ := s_tab r.toInt.toNat (by omega) (M_slips v).toInt.toNat (by omega) x4.toInt.toNat (by omega)
            have t0 : sT 0 x4.toInt.toNat (M_slips v).toInt.toNat = mV_partOfSure 0 x4 (V_put_look K u) := by
              unfold sT mV_partOfSure
              rw [show S_slips (V_stage (V_put_look K u)) = M_slips v from hsl, hp4, hps]
              exact ps_u2 _ _ _ _ _ _ _ _
            have tr : sT r.toInt.toNat x4.toInt.toNat (M_slips v).toInt.toNat = mV_partOfSure r x4 (V_put_look K u) := by
              unfold sT mV_partOfSure
              rw [show S_slips (V_stage (V_put_look K u)) = M_slips v from hsl, hp4, hps, hpr]
              exact ps_u2 _ _ _ _ _ _ _ _
            have eJ := m_J125 x4.toInt.toNat (by omega) (if xM v x1 x2 x3 (M_jaw v) = true then zpw 10 r.toInt.toNat - zpw (M_slips v).toInt64 r.toInt.toNat else 0) (zpw 10 r.toInt.toNat) (M_put_pile p' v)
            rw [hp4] at eJ
            rw [e1, Option.bind_some, k4, e2, eJ, ← t0, ← tr]
            rw [hps] at t1
            cases hx : xM v x1 x2 x3 (M_jaw v)
            · simp only [z_tfF, if_true, Bool.false_eq_true, if_false]
              rw [← t2]
              obtain ⟨q, hq⟩ := Option.isSome_iff_exists.mp t4
              rw [hq]
              exact ⟨q, K, p', rfl, rfl, hRR _ _⟩
            · simp only [z_tfT, if_true, if_false]
              rw [← t1]
              obtain ⟨q, hq⟩ := Option.isSome_iff_exists.mp t3
              rw [hq]
              exact ⟨q, K, p', rfl, rfl, hRR _ _⟩
          · rw [if_neg g, if_neg g]
            exact ⟨_, _, _, rfl, rfl, R⟩
