/-! 09.P21: swap, changes, judge to their ends -/
theorem l_sw1 {u : SV} {v : SM} (R : Rel u v) {a i0 w3 l b m : Int32} (hi : 0 ≤ i0.toInt ∧ i0.toInt ≤ 19) (hl : zrg 0 9 l) (n : Nat) (K : SK) : mV_swap_L51 i0 w3 (Int32.ofNat (zB (xJs v a (2 * i0)) (M_seats v).toInt.toNat)) (n + 1) b m l (V_put_look K u) = if Int32.ofNat (zcnt (xHc v a (2 * i0) (M_letter v i0.toInt.toNat) l) (M_seats v).toInt.toNat) ≤ m then mV_swap_L51 i0 w3 (Int32.ofNat (zB (xJs v a (2 * i0)) (M_seats v).toInt.toNat)) n b m (l + 1) (V_put_look K u) else mV_swap_L51 i0 w3 (Int32.ofNat (zB (xJs v a (2 * i0)) (M_seats v).toInt.toNat)) n l (Int32.ofNat (zcnt (xHc v a (2 * i0) (M_letter v i0.toInt.toNat) l) (M_seats v).toInt.toNat)) (l + 1) (V_put_look K u) := by
  have q1 : S_words (V_stage (V_put_look K u)) = S_words (V_stage u) := rfl
  have hw := R.1.2.1 i0.toInt.toNat (by omega)
  have hsz := R.2.2.1.1.2
  unfold zrg at hsz
  have hl' := hl
  unfold zrg at hl'
  have e := l_sh (u := V_put_look K u) (v := v) R (a := a) (t := 2 * i0) (w := M_letter v i0.toInt.toNat) hl (M_seats v).toInt.toNat 256 0 0 0 (by omega) (by omega) rfl rfl
  rw [Nat.zero_add] at e
  rw [mV_swap_L51, if_neg (by (try simp only [z_in0, z_isPlaceM, z_isPlaceN, z_isLetterN, z_isTenthN, z_isTapeN, z_isTapeM]); (try simp only [Int32.lt_iff_toInt_lt, Int32.le_iff_toInt_le, ← Int32.toInt_inj, Int32.reduceToInt, Int64.reduceToInt]); omega), zgi_ok _ hi.1 (by omega), q1, z_nat, hw]
  unfold mV_seatsHearing
  rw [e, Option.bind_some]
theorem l_sw2 {u : SV} {v : SM} (R : Rel u v) {a i0 w3 l b m : Int32} (hV : zV u v a) (hi : 0 ≤ i0.toInt ∧ i0.toInt ≤ 19) (hl : zrg 0 9 l) (n : Nat) (p : Nat → Int32) : ∃ p', mM_swap_L44 a i0 w3 (n + 1) b m l (M_put_pile p v) = if m < Int32.ofNat (zcnt (xHc v a (2 * i0) (M_letter v i0.toInt.toNat) l) (M_seats v).toInt.toNat) then mM_swap_L44 a i0 w3 n l (Int32.ofNat (zcnt (xHc v a (2 * i0) (M_letter v i0.toInt.toNat) l) (M_seats v).toInt.toNat)) (l + 1) (M_put_pile p' v) else mM_swap_L44 a i0 w3 n b m (l + 1) (M_put_pile p' v) := by
  have hsz := R.2.2.1.1.2
  unfold zrg at hsz
  have hl' := hl
  unfold zrg at hl'
  obtain ⟨p', e⟩ := l_shM R (w4 := w3) (b := b) (m := m) hV hi hl (mM_swap_L44 a i0 w3 n) (M_seats v).toInt.toNat 256 0 0 0 p (by omega) (by omega) rfl rfl
  rw [Nat.zero_add] at e
  rw [mM_swap_L44, if_neg (by (try simp only [z_in0, z_isPlaceM, z_isPlaceN, z_isLetterN, z_isTenthN, z_isTapeN, z_isTapeM]); (try simp only [Int32.lt_iff_toInt_lt, Int32.le_iff_toInt_le, ← Int32.toInt_inj, Int32.reduceToInt, Int64.reduceToInt]); omega)]
  exact ⟨p', e⟩
theorem l_sw {u : SV} {v : SM} (R : Rel u v) {a i0 w3 : Int32} (hV : zV u v a) (hi : 0 ≤ i0.toInt ∧ i0.toInt ≤ 19) (d : Nat) : ∀ (n i : Nat) (x b m : Int32) (K : SK) (p : Nat → Int32), i + d = 10 → d < n → x.toInt = i → ∃ r K' p', mV_swap_L51 i0 w3 (Int32.ofNat (zB (xJs v a (2 * i0)) (M_seats v).toInt.toNat)) n b m x (V_put_look K u) = some (r, K') ∧ mM_swap_L44 a i0 w3 n b m x (M_put_pile p v) = some (r, p') := by
  induction d with
  | zero =>
    intro n i x b m K p h1 h2 h3
    obtain ⟨n, rfl⟩ : ∃ m, n = m + 1 := ⟨n - 1, by omega⟩
    have hge : (10 : Int32) ≤ x := by (try simp only [z_in0, z_isPlaceM, z_isPlaceN, z_isLetterN, z_isTenthN, z_isTapeN, z_isTapeM]); (try simp only [Int32.lt_iff_toInt_lt, Int32.le_iff_toInt_le, ← Int32.toInt_inj, Int32.reduceToInt, Int64.reduceToInt]); omega
    rw [mV_swap_L51, mM_swap_L44, if_pos hge, if_pos hge]
    by_cases c : w3 = 0
    · rw [if_pos c, if_pos c]
      exact ⟨_, _, _, rfl, rfl⟩
    · rw [if_neg c, if_neg c]
      exact ⟨_, _, _, rfl, rfl⟩
  | succ d ih =>
    intro n i x b m K p h1 h2 h3
    obtain ⟨n, rfl⟩ : ∃ m, n = m + 1 := ⟨n - 1, by omega⟩
    have hx := z_one x (by omega) (by omega)
    obtain ⟨p1, e2⟩ := l_sw2 R (w3 := w3) (l := x) (b := b) (m := m) hV hi ⟨by omega, by omega⟩ n p
    rw [l_sw1 R (a := a) hi ⟨by omega, by omega⟩, e2]
    simp only [Int32.lt_iff_toInt_lt, Int32.le_iff_toInt_le]
    by_cases c : (Int32.ofNat (zcnt (xHc v a (2 * i0) (M_letter v i0.toInt.toNat) x) (M_seats v).toInt.toNat)).toInt ≤ m.toInt
    · rw [if_pos c, if_neg (by omega)]
      exact ih n (i + 1) (x + 1) _ _ _ _ (by omega) (by omega) (by omega)
    · rw [if_neg c, if_pos (by omega)]
      exact ih n (i + 1) (x + 1) _ _ _ _ (by omega) (by omega) (by omega)
theorem l_swap0 {u : SV} {v : SM} (R : Rel u v) {a i0 w3 : Int32} (hV : zV u v a) (hi : 0 ≤ i0.toInt ∧ i0.toInt ≤ 19) (N : Nat) (hN : 10 < N) (K : SK) : ∃ r K' p', mV_swap_L51 i0 w3 (Int32.ofNat (zB (xJs v a (2 * i0)) (M_seats v).toInt.toNat)) N 0 0 0 (V_put_look K u) = some (r, K') ∧ mM_swap_L44 a i0 w3 N 0 (-1) 0 v = some (r, p') := by
  obtain ⟨n, rfl⟩ : ∃ m, N = m + 1 := ⟨N - 1, by omega⟩
  have hcl := zcnt_le (xHc v a (2 * i0) (M_letter v i0.toInt.toNat) 0) (M_seats v).toInt.toNat
  have hsz := R.2.2.1.1.2
  unfold zrg at hsz
  have hci : (Int32.ofNat (zcnt (xHc v a (2 * i0) (M_letter v i0.toInt.toNat) 0) (M_seats v).toInt.toNat)).toInt = zcnt (xHc v a (2 * i0) (M_letter v i0.toInt.toNat) 0) (M_seats v).toInt.toNat := Int32.toInt_ofNat_of_lt (by omega)
  obtain ⟨p1, e2⟩ := l_sw2 R (w3 := w3) (l := 0) (b := 0) (m := -1) hV hi ⟨by decide, by decide⟩ n (M_pile v)
  have e2' : mM_swap_L44 a i0 w3 (n + 1) 0 (-1) 0 v = _ := e2
  have e1 := l_sw1 R (a := a) (w3 := w3) (l := 0) (b := 0) (m := 0) hi ⟨by decide, by decide⟩ n K
  have hm1 : (-1 : Int32) < Int32.ofNat (zcnt (xHc v a (2 * i0) (M_letter v i0.toInt.toNat) 0) (M_seats v).toInt.toNat) := by
    rw [Int32.lt_iff_toInt_lt, hci]
    simp only [Int32.reduceToInt]
    omega
  rw [e1, e2', if_pos hm1]
  by_cases c : Int32.ofNat (zcnt (xHc v a (2 * i0) (M_letter v i0.toInt.toNat) 0) (M_seats v).toInt.toNat) ≤ 0
  · rw [if_pos c]
    have c2 := Int32.le_iff_toInt_le.mp c
    have c3 : Int32.ofNat (zcnt (xHc v a (2 * i0) (M_letter v i0.toInt.toNat) 0) (M_seats v).toInt.toNat) = 0 := Int32.toInt_inj.mp (by simp only [Int32.reduceToInt] at c2 ⊢; omega)
    rw [c3]
    exact l_sw R hV hi 9 n 1 (0 + 1) _ _ _ _ rfl (by omega) rfl
  · rw [if_neg c]
    exact l_sw R hV hi 9 n 1 (0 + 1) _ _ _ _ rfl (by omega) rfl
theorem pS_swap : zS_swap Rel := by
  intro x1 x2 x3 u v R
  have hRR : ∀ w1 w2, Rel (V_put_look w1 u) (M_put_pile w2 v) := fun _ _ => R
  have hsz := R.2.2.1.1.2
  unfold zrg at hsz
  obtain ⟨g1, g2, g3⟩ := z_sd R x2
  unfold mV_swap mM_swap
  rcases z_vo R x1 with ⟨a, b⟩ | ⟨a, b, hV⟩
  · rw [a, if_pos b]
    exact ⟨_, _, _, rfl, rfl, R⟩
  · rw [a, if_neg b, Option.bind_some]
    simp only [zcs, g1, g2]
    by_cases e : x2.toInt < 0 ∨ (M_letters v).toInt ≤ x2.toInt
    · rw [if_pos e, if_pos e]
      exact ⟨_, _, _, rfl, rfl, R⟩
    · have hi : 0 ≤ x2.toInt ∧ x2.toInt ≤ 19 := by omega
      have h2i := z_2i (i := x2) (by omega)
      rw [if_neg e, if_neg e]
      simp only [z_in0, Int32.reduceToInt]
      by_cases f : x3.toInt < 0 ∨ 1 < x3.toInt
      · rw [if_pos f]
        refine ⟨-1, V_look u, M_pile v, ?_, rfl, R⟩
        (try simp only [z_in0, z_isPlaceM, z_isPlaceN, z_isLetterN, z_isTenthN, z_isTapeN, z_isTapeM]); (try simp only [Int32.lt_iff_toInt_lt, Int32.le_iff_toInt_le, ← Int32.toInt_inj, Int32.reduceToInt, Int64.reduceToInt])
        by_cases g : x3.toInt < 0
        · rw [if_pos g]
        · rw [if_neg g, if_neg (by omega)]
      · rw [if_neg f, if_neg (by (try simp only [z_in0, z_isPlaceM, z_isPlaceN, z_isLetterN, z_isTenthN, z_isTapeN, z_isTapeM]); (try simp only [Int32.lt_iff_toInt_lt, Int32.le_iff_toInt_le, ← Int32.toInt_inj, Int32.reduceToInt, Int64.reduceToInt]); omega), if_pos (by (try simp only [z_in0, z_isPlaceM, z_isPlaceN, z_isLetterN, z_isTenthN, z_isTapeN, z_isTapeM]); (try simp only [Int32.lt_iff_toInt_lt, Int32.le_iff_toInt_le, ← Int32.toInt_inj, Int32.reduceToInt, Int64.reduceToInt]); omega)]
        obtain ⟨K1, e1⟩ := l_js R (a := x1) (t := 2 * x2) hV (by omega) (M_seats v).toInt.toNat 256 0 0 0 (V_look u) (by omega) (by omega) rfl rfl
        rw [Nat.zero_add] at e1
        have e1' : mV_joinedSeats x1.toInt.toNat (2 * x2) u = _ := e1
        obtain ⟨r, K2, p2, e3, e4⟩ := l_swap0 R (w3 := x3) hV hi 256 (by omega) K1
        rw [e1', Option.bind_some]
        exact ⟨r, K2, p2, e3, e4, hRR _ _⟩
/-- what is held turn by turn -/
def xHj (v : SM) (a b s x : Int32) : Int32 := if x.toInt % 2 = 0 then xH v a s (2 * x) else xH v b s (2 * x)
theorem z_apc (x y : Int32) : mM_apart x y = mM_apart y x := by
  unfold mM_apart
  simp only [Int32.le_iff_toInt_le]
  by_cases c : y.toInt ≤ x.toInt
  · rw [if_pos c]
    by_cases d : x.toInt ≤ y.toInt
    · rw [if_pos d]
      have : x = y := Int32.toInt_inj.mp (by omega)
      rw [this]
    · rw [if_neg d]
  · rw [if_neg c, if_pos (by omega)]
theorem l_cgV {u : SV} {v : SM} (R : Rel u v) {a b s w c x : Int32} (hV : zV u v a) (hV2 : zV u v b) (hs : 0 ≤ s.toInt ∧ s.toInt ≤ 7) (hx : 1 ≤ x.toInt ∧ x.toInt < (M_letters v).toInt) (n : Nat) (K : SK) : ∃ K', mV_changes_L78 a.toInt.toNat b.toInt.toNat s w (n + 1) c (xHj v a b s (x - 1)) x (V_put_look K u) = mV_changes_L78 a.toInt.toNat b.toInt.toNat s w n (if mM_apart (xHj v a b s (x - 1)) (xHj v a b s x) ≤ w then c else c + 1) (xHj v a b s x) (x + 1) (V_put_look K' u) := by
  have hl := R.1.2.2.1.2.2.2.1
  have q1 : S_letters (V_stage (V_put_look K u)) = M_letters v := R.1.1.2.2.2.1
  have q3 : ∀ K K' : SK, V_put_look K (V_put_look K' u) = V_put_look K u := fun _ _ => rfl
  unfold zrg at hl
  have h2 := z_2i (i := x) (by omega)
  have hs1 := z_sub1 (x := x) hx.1
  have h2' := z_2i (i := x - 1) (by omega)
  have hr := z_rem (x := x) (y := 2) (by omega) (by decide)
  simp only [Int32.reduceToInt] at hr
  have hB : zrg 0 40 (xHj v a b s (x - 1)) := by
    unfold xHj
    split
    · exact xH_rg R hV hs (by omega)
    · exact xH_rg R hV2 hs (by omega)
  rw [mV_changes_L78, q1, if_neg (by (try simp only [z_in0, z_isPlaceM, z_isPlaceN, z_isLetterN, z_isTenthN, z_isTapeN, z_isTapeM]); (try simp only [Int32.lt_iff_toInt_lt, Int32.le_iff_toInt_le, ← Int32.toInt_inj, Int32.reduceToInt, Int64.reduceToInt]); omega)]
  have hN : xHj v a b s x = if x.toInt % 2 = 0 then xH v a s (2 * x) else xH v b s (2 * x) := rfl
  by_cases c1 : x.toInt % 2 = 0
  · obtain ⟨K1, e1, k1, k2, k3, k4, k5, k6, k7⟩ := c_look (u := V_put_look K u) (v := v) R (a := a) (s := s) (t := 2 * x) hV hs (by omega)
    have hH := xH_rg R hV hs (t := 2 * x) (by omega)
    rw [if_pos c1] at hN
    rw [if_pos (by simp only [← Int32.toInt_inj, hr, Int32.reduceToInt]; exact c1), e1, Option.bind_some, k6, q3, q_abs hH.1 hB.1, z_apc, hN]
    refine ⟨K1, ?_⟩
    split <;> rfl
  · obtain ⟨K1, e1, k1, k2, k3, k4, k5, k6, k7⟩ := c_look (u := V_put_look K u) (v := v) R (a := b) (s := s) (t := 2 * x) hV2 hs (by omega)
    have hH := xH_rg R hV2 hs (t := 2 * x) (by omega)
    rw [if_neg c1] at hN
    rw [if_neg (by simp only [← Int32.toInt_inj, hr, Int32.reduceToInt]; exact c1), e1, Option.bind_some, k6, q3, q_abs hH.1 hB.1, z_apc, hN]
    refine ⟨K1, ?_⟩
    split <;> rfl
theorem l_cgM {u : SV} {v : SM} (R : Rel u v) {a b s w c x : Int32} (hV : zV u v a) (hV2 : zV u v b) (hs : 0 ≤ s.toInt ∧ s.toInt ≤ 7) (hx : 1 ≤ x.toInt ∧ x.toInt < (M_letters v).toInt) (n : Nat) (p : Nat → Int32) : ∃ p', mM_changes_L47 a b s w (n + 1) c x (M_put_pile p v) = mM_changes_L47 a b s w n (if mM_apart (xHj v a b s (x - 1)) (xHj v a b s x) ≤ w then c else c + 1) (x + 1) (M_put_pile p' v) := by
  have hl := R.1.2.2.1.2.2.2.1
  have q1 : M_letters (M_put_pile p v) = M_letters v := rfl
  have q4 : ∀ p p' : Nat → Int32, M_put_pile p (M_put_pile p' v) = M_put_pile p v := fun _ _ => rfl
  unfold zrg at hl
  have h2 := z_2i (i := x) (by omega)
  have hs1 := z_sub1 (x := x) hx.1
  have h2' := z_2i (i := x - 1) (by omega)
  have hr := z_rem (x := x) (y := 2) (by omega) (by decide)
  simp only [Int32.reduceToInt] at hr
  have e22 : (2 : Int32) * x - 2 = 2 * (x - 1) := by
    apply Int32.toInt_inj.mp
    rw [z_subI (by rw [h2]; simp only [Int32.reduceToInt]; omega) (by rw [h2]; simp only [Int32.reduceToInt]; omega), h2, h2', hs1]
    simp only [Int32.reduceToInt]
    omega
  rw [mM_changes_L47, q1, if_neg (by (try simp only [z_in0, z_isPlaceM, z_isPlaceN, z_isLetterN, z_isTenthN, z_isTapeN, z_isTapeM]); (try simp only [Int32.lt_iff_toInt_lt, Int32.le_iff_toInt_le, ← Int32.toInt_inj, Int32.reduceToInt, Int64.reduceToInt]); omega)]
  unfold mM_changes_J70 mM_changes_J96
  rw [e22]
  have hN : xHj v a b s x = if x.toInt % 2 = 0 then xH v a s (2 * x) else xH v b s (2 * x) := rfl
  have hB : xHj v a b s (x - 1) = if (x - 1).toInt % 2 = 0 then xH v a s (2 * (x - 1)) else xH v b s (2 * (x - 1)) := rfl
  by_cases c1 : x.toInt % 2 = 0
  · rw [if_pos c1] at hN
    rw [if_neg (by omega)] at hB
    obtain ⟨p1, e1⟩ := q_held R hV2 hs (t := 2 * (x - 1)) (by omega) p
    obtain ⟨p2, e2⟩ := q_held R hV hs (t := 2 * x) (by omega) p1
    have hc : ¬ (x - x / 2 * 2 = 1) := by simp only [← Int32.toInt_inj, hr, Int32.reduceToInt]; omega
    simp only [if_neg hc, e1, Option.bind_some, q4, e2, z_add0, hN, hB]
    refine ⟨p2, ?_⟩
    split <;> rfl
  · rw [if_neg c1] at hN
    rw [if_pos (by omega)] at hB
    obtain ⟨p1, e1⟩ := q_held R hV hs (t := 2 * (x - 1)) (by omega) p
    obtain ⟨p2, e2⟩ := q_held R hV2 hs (t := 2 * x) (by omega) p1
    have hc : x - x / 2 * 2 = 1 := by simp only [← Int32.toInt_inj, hr, Int32.reduceToInt]; omega
    simp only [if_pos hc, e1, Option.bind_some, q4, e2, z_add0, hN, hB]
    refine ⟨p2, ?_⟩
    split <;> rfl
theorem l_cg {u : SV} {v : SM} (R : Rel u v) {a b s w : Int32} (hV : zV u v a) (hV2 : zV u v b) (hs : 0 ≤ s.toInt ∧ s.toInt ≤ 7) (d : Nat) : ∀ (n : Nat) (x c B : Int32) (K : SK) (p : Nat → Int32), (M_letters v).toInt ≤ x.toInt + d → d < n → 1 ≤ x.toInt → x.toInt ≤ 100 → (x.toInt < (M_letters v).toInt → B = xHj v a b s (x - 1)) → ∃ r K' p', mV_changes_L78 a.toInt.toNat b.toInt.toNat s w n c B x (V_put_look K u) = some (r, K') ∧ mM_changes_L47 a b s w n c x (M_put_pile p v) = some (r, p') := by
  have hl := R.1.2.2.1.2.2.2.1
  have h4 := R.1.1.2.2.2.1
  have q1 : ∀ K, S_letters (V_stage (V_put_look K u)) = M_letters v := fun _ => h4
  have q2 : ∀ p : Nat → Int32, M_letters (M_put_pile p v) = M_letters v := fun _ => rfl
  unfold zrg at hl
  have stop : ∀ (n : Nat) (x c B : Int32) (K : SK) (p : Nat → Int32), (M_letters v).toInt ≤ x.toInt → ∃ r K' p', mV_changes_L78 a.toInt.toNat b.toInt.toNat s w (n + 1) c B x (V_put_look K u) = some (r, K') ∧ mM_changes_L47 a b s w (n + 1) c x (M_put_pile p v) = some (r, p') := by
    intro n x c B K p h
    rw [mV_changes_L78, mM_changes_L47, q1, q2, if_pos (by (try simp only [z_in0, z_isPlaceM, z_isPlaceN, z_isLetterN, z_isTenthN, z_isTapeN, z_isTapeM]); (try simp only [Int32.lt_iff_toInt_lt, Int32.le_iff_toInt_le, ← Int32.toInt_inj, Int32.reduceToInt, Int64.reduceToInt]); omega), if_pos (by (try simp only [z_in0, z_isPlaceM, z_isPlaceN, z_isLetterN, z_isTenthN, z_isTapeN, z_isTapeM]); (try simp only [Int32.lt_iff_toInt_lt, Int32.le_iff_toInt_le, ← Int32.toInt_inj, Int32.reduceToInt, Int64.reduceToInt]); omega)]
    exact ⟨_, _, _, rfl, rfl⟩
  induction d with
  | zero =>
    intro n x c B K p h1 h2 h3 h4 h5
    obtain ⟨n, rfl⟩ : ∃ m, n = m + 1 := ⟨n - 1, by omega⟩
    exact stop n x c B K p (by omega)
  | succ d ih =>
    intro n x c B K p h1 h2 h3 h4 h5
    obtain ⟨n, rfl⟩ : ∃ m, n = m + 1 := ⟨n - 1, by omega⟩
    by_cases h : (M_letters v).toInt ≤ x.toInt
    · exact stop n x c B K p h
    · have hx := z_one x (by omega) (by omega)
      obtain ⟨K1, e1⟩ := l_cgV R (w := w) (c := c) hV hV2 hs (x := x) (by omega) n K
      obtain ⟨p1, e2⟩ := l_cgM R (w := w) (c := c) hV hV2 hs (x := x) (by omega) n p
      rw [h5 (by omega), e1, e2]
      refine ih n (x + 1) _ _ K1 p1 (by omega) (by omega) (by omega) (by omega) (fun _ => ?_)
      have : x + 1 - 1 = x := Int32.toInt_inj.mp (by rw [z_sub1 (by omega)]; omega)
      rw [this]
theorem pS_changes : zS_changes Rel := by
  intro x1 x2 x3 x4 u v R
  have hRR : ∀ w1 w2, Rel (V_put_look w1 u) (M_put_pile w2 v) := fun _ _ => R
  have hl := R.1.2.2.1.2.2.2.1
  have h4 := R.1.1.2.2.2.1
  unfold zrg at hl
  unfold mV_changes mM_changes
  rcases z_vo R x1 with ⟨a, b⟩ | ⟨a, b, hV⟩
  · rw [a, if_pos b, Option.bind_some]
    simp only [zcs]
    rcases z_vo R x2 with ⟨a', b'⟩ | ⟨a', b', hV2⟩
    · rw [a']
      exact ⟨_, _, _, rfl, rfl, R⟩
    · rw [a']
      exact ⟨_, _, _, rfl, rfl, R⟩
  · rw [a, if_neg b, Option.bind_some]
    simp only [zcs]
    rcases z_vo R x2 with ⟨a', b'⟩ | ⟨a', b', hV2⟩
    · rw [a', if_pos b']
      exact ⟨_, _, _, rfl, rfl, R⟩
    · rw [a', if_neg b', Option.bind_some]
      rcases z_st R x3 with ⟨c, d⟩ | ⟨c, d, hs⟩
      · rw [if_pos d]
        simp only [if_pos c]
        exact ⟨_, _, _, rfl, rfl, R⟩
      · rw [if_neg d]
        simp only [if_neg c, z_isPlaceN, z_in0, Int32.reduceToInt]
        by_cases e : x4.toInt < 0 ∨ 40 < x4.toInt
        · rw [if_pos e, if_pos e]
          exact ⟨_, _, _, rfl, rfl, R⟩
        · rw [if_neg e, if_neg e, h4]
          by_cases f : M_letters v = 0
          · rw [if_pos f]
            obtain ⟨r, K', p', e1, e2⟩ := l_cg R (w := x4) hV hV2 hs 20 256 1 0 0 (V_look u) (M_pile v) (by rw [f]; decide) (by omega) (by decide) (by decide) (fun h => by rw [f] at h; exact absurd h (by decide))
            exact ⟨r, K', p', e1, e2, hRR _ _⟩
          · rw [if_neg f]
            obtain ⟨K, e0, k1, k2, k3, k4, k5, k6, k7⟩ := c_look R hV hs (t := 0) (by decide)
            obtain ⟨r, K', p', e1, e2⟩ := l_cg R (w := x4) hV hV2 hs 20 256 1 0 (K_held K) K (M_pile v) (by simp only [Int32.reduceToInt]; omega) (by omega) (by decide) (by decide) (fun h => k6)
            rw [e0, Option.bind_some]
            exact ⟨r, K', p', e1, e2, hRR _ _⟩
theorem l_jd {u : SV} {v : SM} (R : Rel u v) {a s q i T : Int32} (hV : zV u v a) (hs : 0 ≤ s.toInt ∧ s.toInt ≤ 7) (hq : 0 ≤ q.toInt ∧ q.toInt ≤ 5) (hT : T.toInt ≤ 40) (hT2 : T.toInt = 2 * (M_letters v).toInt) (d : Nat) : ∀ (n k : Nat) (x : Int32) (K : SK) (p : Nat → Int32), (k : Int) + d = T.toInt → d < n → x.toInt = k → (0 < k → 0 ≤ i.toInt ∧ i.toInt < (M_length v q.toInt.toNat).toInt) → ∃ r K' p', mV_judge_L70 a.toInt.toNat q.toInt.toNat i s T n x (V_put_look K u) = some (r, K') ∧ mM_judge_L52 q i a s n x (M_put_pile p v) = some (r, p') := by
  have hll := R.1.2.2.1.2.2.2.1
  have e2 := z_two hll
  obtain ⟨⟨a1, a2⟩, ⟨a3, a4, a5⟩, a6⟩ := R.2.2.2.2.2.2.2.1 q.toInt.toNat (by omega)
  have a4' := a4
  unfold zrg at a4' a3
  have q1 : ∀ K, V_ts (V_put_look K u) = V_ts u := fun _ => rfl
  have q2 : ∀ p : Nat → Int32, M_letters (M_put_pile p v) = M_letters v := fun _ => rfl
  have q5 : ∀ p : Nat → Int32, M_sort (M_put_pile p v) = M_sort v := fun _ => rfl
  have q6 : ∀ p : Nat → Int32, M_length (M_put_pile p v) = M_length v := fun _ => rfl
  have q7 : ∀ p : Nat → Int32, M_item (M_put_pile p v) = M_item v := fun _ => rfl
  have q3 : ∀ K K' : SK, V_put_look K (V_put_look K' u) = V_put_look K u := fun _ _ => rfl
  have q4 : ∀ p p' : Nat → Int32, M_put_pile p (M_put_pile p' v) = M_put_pile p v := fun _ _ => rfl
  have li := z_lt i
  induction d with
  | zero =>
    intro n k x K p h1 h2 h3 h4
    obtain ⟨n, rfl⟩ : ∃ m, n = m + 1 := ⟨n - 1, by omega⟩
    rw [mV_judge_L70, mM_judge_L52, q2, if_pos (by (try simp only [z_in0, z_isPlaceM, z_isPlaceN, z_isLetterN, z_isTenthN, z_isTapeN, z_isTapeM]); (try simp only [Int32.lt_iff_toInt_lt, Int32.le_iff_toInt_le, ← Int32.toInt_inj, Int32.reduceToInt, Int64.reduceToInt]); omega), if_pos (by (try simp only [z_in0, z_isPlaceM, z_isPlaceN, z_isLetterN, z_isTenthN, z_isTapeN, z_isTapeM]); (try simp only [Int32.lt_iff_toInt_lt, Int32.le_iff_toInt_le, ← Int32.toInt_inj, Int32.reduceToInt, Int64.reduceToInt]); omega)]
    exact ⟨_, _, _, rfl, rfl⟩
  | succ d ih =>
    intro n k x K p h1 h2 h3 h4
    obtain ⟨n, rfl⟩ : ∃ m, n = m + 1 := ⟨n - 1, by omega⟩
    have hx := z_one x (by omega) (by omega)
    have hh2 := z_has (i := i + x) a2 a4
    have e3 : (M_length v q.toInt.toNat - x).toInt = (M_length v q.toInt.toNat).toInt - x.toInt := z_subI (by omega) (by omega)
    have e4 : (M_length v q.toInt.toNat - x - 1).toInt = (M_length v q.toInt.toNat).toInt - x.toInt - 1 := by
      rw [z_subI (by rw [e3]; simp only [Int32.reduceToInt]; omega) (by rw [e3]; simp only [Int32.reduceToInt]; omega), e3]
      simp only [Int32.reduceToInt]
    have hnone : (M_sort v q.toInt.toNat).toInt < 0 → (M_length v q.toInt.toNat).toInt = 0 := by
      intro h
      have := a5 (Int32.toInt_inj.mp (by simp only [Int32.reduceToInt]; omega))
      rw [this]
      rfl
    have n1 : ¬ T ≤ x := by (try simp only [z_in0, z_isPlaceM, z_isPlaceN, z_isLetterN, z_isTenthN, z_isTapeN, z_isTapeM]); (try simp only [Int32.lt_iff_toInt_lt, Int32.le_iff_toInt_le, ← Int32.toInt_inj, Int32.reduceToInt, Int64.reduceToInt]); omega
    have n2 : ¬ (2 : Int32) * M_letters v ≤ x := by (try simp only [z_in0, z_isPlaceM, z_isPlaceN, z_isLetterN, z_isTenthN, z_isTapeN, z_isTapeM]); (try simp only [Int32.lt_iff_toInt_lt, Int32.le_iff_toInt_le, ← Int32.toInt_inj, Int32.reduceToInt, Int64.reduceToInt]); omega
    rw [mV_judge_L70, mM_judge_L52, q1, q2, q5, q6, q7, if_neg n1, if_neg n2, zgi_ok _ hq.1 (by omega), zgi_ok _ hq.1 (by omega), z_nat, z_nat]
    simp only [hh2, Int32.lt_iff_toInt_lt, Int32.le_iff_toInt_le, e4, Int32.reduceToInt]
    by_cases c1 : i.toInt < 0 ∨ (M_length v q.toInt.toNat).toInt ≤ i.toInt
    · have hk : ¬ 0 < k := fun hk => by have := h4 hk; omega
      have hx0 : x = 0 := Int32.toInt_inj.mp (by simp only [Int32.reduceToInt]; omega)
      have eix : i + x = i := by rw [hx0]; exact Int32.add_zero i
      rw [eix, if_pos c1]
      refine ⟨100 + x, _, p, rfl, ?_⟩
      by_cases c2 : (M_sort v q.toInt.toNat).toInt < 0
      · rw [if_pos c2]; rfl
      · rw [if_neg c2]
        by_cases c3 : i.toInt < 0
        · rw [if_pos c3]; rfl
        · rw [if_neg c3, if_neg (by omega)]; rfl
    · have e5 : (i + x).toInt = i.toInt + x.toInt := z_addI (by omega) (by omega)
      have c2 : ¬ (M_sort v q.toInt.toNat).toInt < 0 := fun h => by have := hnone h; omega
      rw [if_neg c2, if_neg (by omega : ¬ i.toInt < 0), e5]
      by_cases c4 : i.toInt + x.toInt < 0 ∨ (M_length v q.toInt.toNat).toInt ≤ i.toInt + x.toInt
      · rw [if_pos c4, if_neg (by omega)]
        exact ⟨_, _, _, rfl, rfl⟩
      · have e6 := z_60b hq (y := i) (z := x) (by omega) (by omega)
        obtain ⟨K1, e1, k1, k2, k3, k4, k5, k6, k7⟩ := c_look (u := V_put_look K u) (v := v) R (a := a) (s := s) (t := x) hV hs (by omega)
        obtain ⟨p1, f1⟩ := q_held R hV hs (t := x) (by omega) p
        have e7 : (60 * q + i + x).toInt.toNat = 60 * q.toInt.toNat + (i + x).toInt.toNat := by omega
        rw [if_neg c4, if_pos (by omega), zgi_ok _ (by omega) (by omega), zgi_ok _ (by omega) (by omega), e1, f1, Option.bind_some, Option.bind_some, k6, q3, q4, z_nat, e7, ← a6 _ (by omega), ← e5]
        by_cases c5 : lg_cmp (T_items (V_ts u q.toInt.toNat) (i + x).toInt.toNat) (xH v a s x).toInt64 = 0
        · rw [if_pos c5, if_pos c5]
          exact ih n (k + 1) (x + 1) K1 p1 (by omega) (by omega) (by omega) (fun _ => by omega)
        · rw [if_neg c5, if_neg c5]
          exact ⟨_, _, _, rfl, rfl⟩
theorem pS_judge : zS_judge Rel := by
  intro x1 x2 x3 x4 u v R
  have hRR : ∀ w1 w2, Rel (V_put_look w1 u) (M_put_pile w2 v) := fun _ _ => R
  have hl := R.1.2.2.1.2.2.2.1
  have h4 := R.1.1.2.2.2.1
  have e2 := z_two hl
  unfold zrg at hl
  unfold mV_judge mM_judge mS_tenthsSaidIn
  rw [h4]
  simp only [z_isTapeM, z_isTapeN]
  rcases z_vo R x3 with ⟨a, b⟩ | ⟨a, b, hV⟩
  · rw [a, if_pos b, Option.bind_some]
    simp only [zcs]
    split
    · exact ⟨_, _, _, rfl, rfl, R⟩
    · exact ⟨_, _, _, rfl, rfl, R⟩
  · rw [a, if_neg b, Option.bind_some]
    simp only [zcs]
    by_cases e : x1.toInt < 0 ∨ 5 < x1.toInt
    · rw [if_pos e, if_pos e]
      exact ⟨_, _, _, rfl, rfl, R⟩
    · have hq : 0 ≤ x1.toInt ∧ x1.toInt ≤ 5 := by omega
      rw [if_neg e, if_neg e]
      rcases z_st R x4 with ⟨c, d⟩ | ⟨c, d, hs⟩
      · rw [if_pos c, if_pos d]
        exact ⟨_, _, _, rfl, rfl, R⟩
      · obtain ⟨⟨a1, a2⟩, ⟨a3, a4, a5⟩, a6⟩ := R.2.2.2.2.2.2.2.1 x1.toInt.toNat (by omega)
        have hr := z_isRow a1 a3
        rw [if_neg c, if_neg d, zgi_ok _ hq.1 (by omega), zgi_ok _ hq.1 (by omega), zgi_ok _ hq.1 (by omega), z_nat, a1]
        simp only [hr, Int32.lt_iff_toInt_lt, Int32.reduceToInt]
        obtain ⟨r, K', p', e1, f1⟩ := l_jd R (i := x2) hV hs hq (T := 2 * M_letters v) (by omega) e2 (2 * (M_letters v).toInt).toNat 256 0 0 (V_look u) (M_pile v) (by omega) (by omega) rfl (fun h => absurd h (Nat.lt_irrefl 0))
        have e1' : mV_judge_L70 x3.toInt.toNat x1.toInt.toNat x2 x4 (2 * M_letters v) 256 0 u = some (r, K') := e1
        have f1' : mM_judge_L52 x1 x2 x3 x4 256 0 v = some (r, p') := f1
        rw [e1', f1']
        split
        · exact ⟨_, _, _, rfl, rfl, hRR _ _⟩
        · split
          · exact ⟨_, _, _, rfl, rfl, hRR _ _⟩
          · exact ⟨_, _, _, rfl, rfl, R⟩
