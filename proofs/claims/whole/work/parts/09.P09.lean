/-! 09.P9: the reference's steps -/
theorem sg_0 : zsg 0 = -33 := rfl
theorem sg_1 : zsg 1 = -38 := rfl
theorem sg_2 : zsg 2 = -124 := rfl
theorem sg_t {s : Int32} (h : zrg 3 1502 s) : (zsg s).toInt = 1000 * ((s.toInt - 3) / 300) + 100 * ((s.toInt - 3) / 100 % 3) + (s.toInt - 3) % 100 := by
  unfold zrg at h
  unfold zsg
  rw [if_neg (by (try simp only [z_in0, z_isPlaceM, z_isPlaceN, z_isLetterN, z_isTenthN, z_isTapeN, z_isTapeM]); (try simp only [Int32.lt_iff_toInt_lt, Int32.le_iff_toInt_le, ← Int32.toInt_inj, Int32.reduceToInt, Int64.reduceToInt]); omega), if_neg (by (try simp only [z_in0, z_isPlaceM, z_isPlaceN, z_isLetterN, z_isTenthN, z_isTapeN, z_isTapeM]); (try simp only [Int32.lt_iff_toInt_lt, Int32.le_iff_toInt_le, ← Int32.toInt_inj, Int32.reduceToInt, Int64.reduceToInt]); omega), if_neg (by (try simp only [z_in0, z_isPlaceM, z_isPlaceN, z_isLetterN, z_isTenthN, z_isTapeN, z_isTapeM]); (try simp only [Int32.lt_iff_toInt_lt, Int32.le_iff_toInt_le, ← Int32.toInt_inj, Int32.reduceToInt, Int64.reduceToInt]); omega), Int32.toInt_ofInt_of_le (by omega) (by omega)]
/-- where the reference has its truths -/
def zpl (p : Nat → Int32) (st : List Bool) : Prop := ∀ k (h : k < st.length), p (st.length - 1 - k) = ztf st[k]
theorem zpl_upd {p : Nat → Int32} {b : Bool} {r : List Bool} (h : zpl p (b :: r)) (c : Bool) : zpl (upd p r.length (ztf c)) (c :: r) := by
  intro k hk
  simp only [List.length_cons, Nat.add_sub_cancel] at hk ⊢
  cases k with
  | zero => exact upd_eq _ _ _
  | succ k =>
    rw [upd_ne _ _ (by omega)]
    have := h (k + 1) (by simp only [List.length_cons]; omega)
    simp only [List.length_cons, Nat.add_sub_cancel] at this
    rw [this]
    rfl
theorem zpl_push {p : Nat → Int32} {r : List Bool} (h : zpl p r) (c : Bool) : zpl (upd p r.length (ztf c)) (c :: r) := by
  intro k hk
  simp only [List.length_cons, Nat.add_sub_cancel] at hk ⊢
  cases k with
  | zero => exact upd_eq _ _ _
  | succ k =>
    rw [upd_ne _ _ (by omega)]
    have := h k (by omega)
    rw [show r.length - (k + 1) = r.length - 1 - k by omega, this]
    rfl
theorem zpl_drop {p : Nat → Int32} {b : Bool} {r : List Bool} (h : zpl p (b :: r)) : p r.length = ztf b ∧ zpl p r := by
  refine ⟨?_, fun k hk => ?_⟩
  · have := h 0 (by simp)
    simp only [List.length_cons, Nat.add_sub_cancel] at this
    exact this
  · have := h (k + 1) (by simp only [List.length_cons]; omega)
    simp only [List.length_cons, Nat.add_sub_cancel] at this
    rw [show r.length - 1 - k = r.length - (k + 1) by omega, this]
    rfl
theorem z_tf0 (b : Bool) : (ztf b = 0) = (b = false) := by cases b <;> simp [ztf]
theorem z_tfF : (ztf false = 0) = True := by simp [ztf]
theorem z_tfT : (ztf true = 0) = False := by simp [ztf]
theorem z_nar1 : vp_nar .boolean (1 : Int32) = ztf true := rfl
theorem z_nar0 : vp_nar .boolean (0 : Int32) = ztf false := rfl
theorem z_sub1 {x : Int32} (h : 1 ≤ x.toInt) : (x - 1).toInt = x.toInt - 1 := z_subI (by simp only [Int32.reduceToInt]; omega) (by have := z_lt x; simp only [Int32.reduceToInt]; omega)
theorem z_addm1 {x : Int32} (h : 1 ≤ x.toInt) : (x + -1).toInt = x.toInt - 1 := by
  have := z_lt x
  rw [z_addI (by simp only [Int32.reduceToInt]; omega) (by simp only [Int32.reduceToInt]; omega)]
  simp only [Int32.reduceToInt]
  omega
set_option maxHeartbeats 2000000 in
theorem ql_holds {v : SM} {c a s t : Int32} (hc : 0 ≤ c.toInt ∧ c.toInt ≤ 49) {e : Nat} (he : (M_to v c.toNatClampNeg).toInt = e) (h5 : e ≤ 500) {fc : Nat → Int32} (hF : ∀ x : Int32, 0 ≤ x.toInt → x.toInt ≤ 4 → mM_factOf x a s t v = some (fc x.toInt.toNat)) : ∀ (T : List Int32) (n i : Nat) (x5 x6 : Int32) (st : List Bool) (p : Nat → Int32), T.length < n → x6.toInt = i → e = i + T.length → zst (M_sign v) i (T.map zsg) → (∀ s ∈ T, zrg 0 1502 s) → zdp T st.length = some 1 → st.length ≤ 12 → x5.toInt = st.length → zpl p st → ∃ p', mM_holds_L11 c a s t n x5 x6 (M_put_pile p v) = some (ztf (zhd (zev fc T st)), p') := by
  have hF' : ∀ (p : Nat → Int32) (x : Int32), mM_factOf x a s t (M_put_pile p v) = mM_factOf x a s t v := fun _ _ => rfl
  have p1 : ∀ p : Nat → Int32, M_to (M_put_pile p v) = M_to v := fun _ => rfl
  have p2 : ∀ p : Nat → Int32, M_sign (M_put_pile p v) = M_sign v := fun _ => rfl
  have p3 : ∀ p : Nat → Int32, M_pile (M_put_pile p v) = p := fun _ => rfl
  have p4 : ∀ p q : Nat → Int32, M_put_pile q (M_put_pile p v) = M_put_pile q v := fun _ _ => rfl
  intro T
  induction T with
  | nil =>
    intro n i x5 x6 st p h1 h2 h3 h4 h6 h7 h8 h9 hp
    obtain ⟨n, rfl⟩ : ∃ m, n = m + 1 := ⟨n - 1, by simp at h1; omega⟩
    simp only [List.length_nil] at h3
    rw [mM_holds_L11, zgi_ok _ hc.1 (by omega), p1, p3, if_pos (by (try simp only [z_in0, z_isPlaceM, z_isPlaceN, z_isLetterN, z_isTenthN, z_isTapeN, z_isTapeM]); (try simp only [Int32.lt_iff_toInt_lt, Int32.le_iff_toInt_le, ← Int32.toInt_inj, Int32.reduceToInt, Int64.reduceToInt, he]); omega), zgi_ok _ (by decide) (by decide)]
    have hl : st.length = 1 := by
      rw [zdp] at h7
      exact Option.some.inj h7
    match st, hl, hp with
    | [b], _, hp =>
      have := (zpl_drop hp).1
      refine ⟨p, ?_⟩
      show zgb (p 0) (some (p 0, p)) = some (ztf b, p)
      rw [show p 0 = ztf b from this]
      cases b <;> rfl
  | cons sg T ih =>
    intro n i x5 x6 st p h1 h2 h3 h4 h6 h7 h8 h9 hp
    obtain ⟨n, rfl⟩ : ∃ m, n = m + 1 := ⟨n - 1, by simp at h1; omega⟩
    simp only [List.length_cons] at h1 h3
    have hs : M_sign v x6.toNatClampNeg = zsg sg := by
      have := h4 0 (by simp)
      rw [z_nat, h2]
      exact this
    have h4' : zst (M_sign v) (i + 1) (T.map zsg) := by
      intro k hk
      have := h4 (k + 1) (by simp at hk ⊢; omega)
      rw [show i + 1 + k = i + (k + 1) by omega, this]
      rfl
    have hx := z_one x6 (by omega) (by omega)
    have hsr := h6 sg List.mem_cons_self
    have h6' : ∀ s ∈ T, zrg 0 1502 s := fun q hq => h6 q (List.mem_cons_of_mem _ hq)
    rw [mM_holds_L11, zgi_ok _ hc.1 (by omega), p1, p2, p3, if_neg (by (try simp only [z_in0, z_isPlaceM, z_isPlaceN, z_isLetterN, z_isTenthN, z_isTapeN, z_isTapeM]); (try simp only [Int32.lt_iff_toInt_lt, Int32.le_iff_toInt_le, ← Int32.toInt_inj, Int32.reduceToInt, Int64.reduceToInt, he]); omega), zgi_ok _ (by omega) (by omega), hs]
    simp only [hF', p4]
    have goes : ∀ (x5' : Int32) (st' : List Bool) (p' : Nat → Int32), zstp fc sg st = st' → zdp T st'.length = some 1 → st'.length ≤ 12 → x5'.toInt = st'.length → zpl p' st' → ∃ p'', mM_holds_L11 c a s t n x5' (x6 + 1) (M_put_pile p' v) = some (ztf (zhd (zev fc (sg :: T) st)), p'') := by
      intro x5' st' p' g1 g2 g3 g4 g5
      have := ih n (i + 1) x5' (x6 + 1) st' p' (by omega) (by omega) (by omega) h4' h6' g2 g3 g4 g5
      rw [← g1] at this
      exact this
    rw [zdp] at h7
    by_cases c0 : sg = 0
    · rw [if_pos c0] at h7
      subst c0
      rw [if_pos sg_0]
      match st, h7, h8, h9, hp, goes with
      | [], h7, _, _, _, _ => simp at h7
      | b :: r, h7, h8, h9, hp, goes =>
        rw [if_pos (by simp)] at h7
        simp only [List.length_cons] at h8 h9
        have hd := zpl_drop hp
        have e1 := z_sub1 (x := x5) (by omega)
        have e2 : (x5 - 1).toNatClampNeg = r.length := by rw [z_nat]; omega
        rw [zgi_ok _ (by omega) (by omega), zgi_ok _ (by omega) (by omega), zgi_ok _ (by omega) (by omega), e2, hd.1, z_nar1, z_nar0]
        have key := goes x5 ((!b) :: r) (upd p r.length (ztf (!b))) rfl h7 (by simp; omega) (by simp; omega) (zpl_upd hp _)
        cases b
        · simp only [z_tfF, if_true]; exact key
        · simp only [z_tfT, if_false]; exact key
    · rw [if_neg c0] at h7
      by_cases c1 : sg = 1
      · rw [if_pos (Or.inl c1)] at h7
        subst c1
        rw [sg_1, if_neg (show ¬ (-38 : Int32) = -33 by decide), if_neg (show ¬ (0 : Int32) ≤ -38 by decide), if_pos (show (-38 : Int32) = -38 from rfl)]
        obtain ⟨b, a', r, rfl⟩ : ∃ b a' r, st = b :: a' :: r := by
          cases st with
          | nil => simp at h7
          | cons b r => cases r with
            | nil => simp at h7
            | cons a' r => exact ⟨b, a', r, rfl⟩
        rw [if_pos (by simp)] at h7
        simp only [List.length_cons] at h8 h9
        have hd := zpl_drop hp
        have hd2 := zpl_drop hd.2
        obtain ⟨y, hy⟩ : ∃ y, y = x5 + -1 := ⟨_, rfl⟩
        obtain ⟨w, hw⟩ : ∃ w, w = y - 1 := ⟨_, rfl⟩
        have e0 : y.toInt = x5.toInt - 1 := by rw [hy]; exact z_addm1 (by omega)
        have e1 : w.toInt = y.toInt - 1 := by rw [hw]; exact z_sub1 (by omega)
        have e2 : w.toNatClampNeg = r.length := by rw [z_nat]; omega
        have e3 : y.toNatClampNeg = r.length + 1 := by rw [z_nat]; omega
        have hd1 : p (r.length + 1) = ztf b := hd.1
        simp only [← hy, ← hw, zgi_ok (i := w) (n := 100) _ (by omega) (by omega), zgi_ok (i := y) (n := 100) _ (by omega) (by omega), e2, e3, hd1, hd2.1, z_nar1, z_nar0]
        have key := goes y ((a' && b) :: r) (upd p r.length (ztf (a' && b))) rfl h7 (by simp; omega) (by simp; omega) (zpl_upd hd.2 _)
        cases a' <;> cases b <;> simp only [z_tfF, z_tfT, if_true, if_false] <;> exact key
      · by_cases c2 : sg = 2
        · rw [if_pos (Or.inr c2)] at h7
          subst c2
          rw [sg_2, if_neg (show ¬ (-124 : Int32) = -33 by decide), if_neg (show ¬ (0 : Int32) ≤ -124 by decide), if_neg (show ¬ (-124 : Int32) = -38 by decide)]
          obtain ⟨b, a', r, rfl⟩ : ∃ b a' r, st = b :: a' :: r := by
            cases st with
            | nil => simp at h7
            | cons b r => cases r with
              | nil => simp at h7
              | cons a' r => exact ⟨b, a', r, rfl⟩
          rw [if_pos (by simp)] at h7
          simp only [List.length_cons] at h8 h9
          have hd := zpl_drop hp
          have hd2 := zpl_drop hd.2
          obtain ⟨y, hy⟩ : ∃ y, y = x5 + -1 := ⟨_, rfl⟩
          obtain ⟨w, hw⟩ : ∃ w, w = y - 1 := ⟨_, rfl⟩
          have e0 : y.toInt = x5.toInt - 1 := by rw [hy]; exact z_addm1 (by omega)
          have e1 : w.toInt = y.toInt - 1 := by rw [hw]; exact z_sub1 (by omega)
          have e2 : w.toNatClampNeg = r.length := by rw [z_nat]; omega
          have e3 : y.toNatClampNeg = r.length + 1 := by rw [z_nat]; omega
          have hd1 : p (r.length + 1) = ztf b := hd.1
          simp only [← hy, ← hw, zgi_ok (i := w) (n := 100) _ (by omega) (by omega), zgi_ok (i := y) (n := 100) _ (by omega) (by omega), e2, e3, hd1, hd2.1, z_nar1, z_nar0]
          have key := goes y ((a' || b) :: r) (upd p r.length (ztf (a' || b))) rfl h7 (by simp; omega) (by simp; omega) (zpl_upd hd.2 _)
          cases a' <;> cases b <;> simp only [z_tfF, z_tfT, if_true, if_false] <;> exact key
        · rw [if_neg (by rintro (h | h); exact c1 h; exact c2 h)] at h7
          have hr := z_tst hsr c0 c1 c2
          have hg := sg_t hr
          unfold zrg at hr
          have g1 : (zsg sg / 1000).toInt = (sg.toInt - 3) / 300 := by rw [z_div (by omega) (by decide), hg]; show _ / (1000 : Int) = _; omega
          have g2 : (zsg sg - zsg sg / 100 * 100).toInt = (sg.toInt - 3) % 100 := by rw [z_rem (by omega) (by decide), hg]; show _ % (100 : Int) = _; omega
          have g4 : (zsg sg / 100).toInt = 10 * ((sg.toInt - 3) / 300) + (sg.toInt - 3) / 100 % 3 := by rw [z_div (by omega) (by decide), hg]; show _ / (100 : Int) = _; omega
          have g3 : (zsg sg / 100 - zsg sg / 100 / 10 * 10).toInt = (sg.toInt - 3) / 100 % 3 := by rw [z_rem (by omega) (by decide), g4]; show _ % (10 : Int) = _; omega
          rw [if_neg (by (try simp only [z_in0, z_isPlaceM, z_isPlaceN, z_isLetterN, z_isTenthN, z_isTapeN, z_isTapeM]); (try simp only [Int32.lt_iff_toInt_lt, Int32.le_iff_toInt_le, ← Int32.toInt_inj, Int32.reduceToInt, Int64.reduceToInt]); omega), if_pos (by (try simp only [z_in0, z_isPlaceM, z_isPlaceN, z_isLetterN, z_isTenthN, z_isTapeN, z_isTapeM]); (try simp only [Int32.lt_iff_toInt_lt, Int32.le_iff_toInt_le, ← Int32.toInt_inj, Int32.reduceToInt, Int64.reduceToInt]); omega), hF _ (by omega) (by omega), Option.bind_some, g1]
          by_cases c3 : st.length < 12
          · rw [if_pos c3] at h7
            have e2 : x5.toNatClampNeg = st.length := by rw [z_nat]; omega
            have ez := z_one x5 (by omega) (by omega)
            simp only [zgi_ok (i := x5) (n := 100) _ (by omega) (by omega), e2, z_nar1, z_nar0]
            have key := goes (x5 + 1) (ztest sg fc :: st) (upd p st.length (ztf (ztest sg fc))) (by unfold zstp; rw [if_neg c0, if_neg c1, if_neg c2]) h7 (by rw [List.length_cons]; omega) (by rw [ez, List.length_cons]; omega) (zpl_push hp _)
            simp only [Int32.lt_iff_toInt_lt, Int32.le_iff_toInt_le, ← Int32.toInt_inj, g2, g3, Int32.reduceToInt]
            unfold ztest at key
            have k : (sg.toInt - 3) / 100 % 3 = 0 ∨ (sg.toInt - 3) / 100 % 3 = 1 ∨ (sg.toInt - 3) / 100 % 3 = 2 := by omega
            generalize (fc ((sg.toInt - 3) / 300).toNat).toInt = q at *
            rcases k with k | k | k
            · by_cases c : q < (sg.toInt - 3) % 100
              · simp (disch := omega) only [if_pos, if_neg, decide_eq_true c] at key ⊢; exact key
              · simp (disch := omega) only [if_pos, if_neg, decide_eq_false c] at key ⊢; exact key
            · by_cases c : q = (sg.toInt - 3) % 100
              · simp (disch := omega) only [if_pos, if_neg, decide_eq_true c] at key ⊢; exact key
              · simp (disch := omega) only [if_pos, if_neg, decide_eq_false c] at key ⊢; exact key
            · by_cases c : (sg.toInt - 3) % 100 < q
              · simp (disch := omega) only [if_pos, if_neg, decide_eq_true c] at key ⊢; exact key
              · simp (disch := omega) only [if_pos, if_neg, decide_eq_false c] at key ⊢; exact key
          · rw [if_neg c3] at h7
            cases h7
