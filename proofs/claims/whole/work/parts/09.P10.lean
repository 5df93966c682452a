/-! 09.P10: how unsure -/
theorem zsm_app (A B : List ZC) : zsm (A ++ B) = zsm A + zsm B := by simp [zsm]
theorem zsm_take {D : List ZC} {i : Nat} (h : i < D.length) : zsm (D.take (i + 1)) = zsm (D.take i) + D[i].2.2.2.length := by
  rw [List.take_succ_eq_append_getElem h, zsm_app]
  simp [zsm]
theorem zsm_le (D : List ZC) (i : Nat) : zsm (D.take i) ≤ zsm D := by
  have := zsm_app (D.take i) (D.drop i)
  rw [List.take_append_drop] at this
  omega
theorem zsm_mem {D : List ZC} {c : ZC} (h : c ∈ D) : c.2.2.2.length ≤ zsm D := by
  induction D with
  | nil => cases h
  | cons d D ih =>
    have e : zsm (d :: D) = d.2.2.2.length + zsm D := by simp [zsm]
    rcases List.mem_cons.mp h with rfl | h
    · omega
    · have := ih h
      omega
theorem ztest_cg {s : Int32} (h : zrg 3 1502 s) {f g : Nat → Int32} (hfg : ∀ k, k < 5 → f k = g k) : ztest s f = ztest s g := by
  unfold zrg at h
  unfold ztest
  rw [hfg _ (by omega)]
theorem zev_cg {f g : Nat → Int32} (hfg : ∀ k, k < 5 → f k = g k) : ∀ (T : List Int32) (st : List Bool), (∀ s ∈ T, zrg 0 1502 s) → zev f T st = zev g T st := by
  intro T
  induction T with
  | nil => intros; rfl
  | cons s T ih =>
    intro st h
    have e : zstp f s st = zstp g s st := by
      unfold zstp
      by_cases c0 : s = 0
      · rw [if_pos c0, if_pos c0]
      · rw [if_neg c0, if_neg c0]
        by_cases c1 : s = 1
        · rw [if_pos c1, if_pos c1]
        · rw [if_neg c1, if_neg c1]
          by_cases c2 : s = 2
          · rw [if_pos c2, if_pos c2]
          · rw [if_neg c2, if_neg c2, ztest_cg (z_tst (h s List.mem_cons_self) c0 c1 c2) hfg]
    show zev f T (zstp f s st) = zev g T (zstp g s st)
    rw [e]
    exact ih _ (fun q hq => h q (List.mem_cons_of_mem _ hq))
/-- the sum over clauses -/
def zun (fc : Nat → Int32) (w : Int32) (C : List ZC) (acc : Int32) : Int32 := C.foldl (fun n c => if c.1 = w ∧ zhd (zev fc c.2.2.2 []) = true then n + c.2.2.1 else n) acc
theorem zun_cons (fc : Nat → Int32) (w : Int32) (c : ZC) (C : List ZC) (acc : Int32) : zun fc w (c :: C) acc = zun fc w C (if c.1 = w ∧ zhd (zev fc c.2.2.2 []) = true then acc + c.2.2.1 else acc) := rfl
theorem zun_filter (fc : Nat → Int32) {w : Int32} (hw : w = 0 ∨ w = 1) : ∀ (C : List ZC) (acc : Int32), zun fc w (C.filter zee) acc = zun fc w C acc := by
  intro C
  induction C with
  | nil => intro acc; rfl
  | cons c C ih =>
    intro acc
    by_cases hc : zee c = true
    · rw [List.filter_cons_of_pos hc]
      exact ih _
    · rw [List.filter_cons_of_neg hc, ih]
      have : ¬ (c.1 = w ∧ zhd (zev fc c.2.2.2 []) = true) := by
        rintro ⟨h, _⟩
        apply hc
        unfold zee
        rw [h]
        exact decide_eq_true hw
      rw [zun_cons, if_neg this]
theorem zun_cg {f g : Nat → Int32} (hfg : ∀ k, k < 5 → f k = g k) {w : Int32} (hw : w = 0 ∨ w = 1) : ∀ (C : List ZC) (acc : Int32), (∀ c ∈ C, zee c = true → zwf c.2.2.2) → zun f w C acc = zun g w C acc := by
  intro C
  induction C with
  | nil => intro acc _; exact (show acc = acc from rfl)
  | cons c C ih =>
    intro acc h
    rw [zun_cons, zun_cons]
    have ih' := fun acc => ih acc (fun q hq => h q (List.mem_cons_of_mem _ hq))
    by_cases hc : c.1 = w
    · rw [zev_cg hfg _ _ (h c List.mem_cons_self (by unfold zee; rw [hc]; exact decide_eq_true hw)).1]
      exact ih' (if c.1 = w ∧ zhd (zev g c.2.2.2 []) = true then acc + c.2.2.1 else acc)
    · rw [if_neg (fun q => hc q.1), if_neg (fun q => hc q.1)]
      exact ih' acc
theorem zun_rg (fc : Nat → Int32) (w : Int32) : ∀ (C : List ZC) (acc : Int32), (∀ c ∈ C, zrg 0 99 c.2.2.1) → 1 ≤ acc.toInt → acc.toInt + 99 * C.length ≤ 100000 → 1 ≤ (zun fc w C acc).toInt ∧ (zun fc w C acc).toInt ≤ 100000 := by
  intro C
  induction C with
  | nil => intro acc _ h1 h2; exact ⟨h1, by simp at h2; exact h2⟩
  | cons c C ih =>
    intro acc h h1 h2
    have hc := h c List.mem_cons_self
    unfold zrg at hc
    simp only [List.length_cons] at h2
    have e := z_addI (x := acc) (y := c.2.2.1) (by omega) (by omega)
    rw [zun_cons]
    refine ih _ (fun q hq => h q (List.mem_cons_of_mem _ hq)) ?_ ?_
    · split <;> omega
    · split <;> omega
theorem z_min2 (a b : Int32) : mM_min a b = zmin a b := by
  unfold mM_min zmin
  simp only [Int32.lt_iff_toInt_lt, Int32.le_iff_toInt_le]
  by_cases h : b.toInt < a.toInt
  · rw [if_pos h, if_pos (by omega)]
  · rw [if_neg h]
    by_cases h2 : b.toInt ≤ a.toInt
    · rw [if_pos h2]
      exact Int32.toInt_inj.mp (by omega)
    · rw [if_neg h2]
theorem l_unsV {U : SHF} {h : SH} {C : List ZC} (hc : zcl C) (H : RHv C h) (hU : HF_clauses U = H_clauses h ∧ HF_senses U = H_senses h ∧ HF_amounts U = H_amounts h ∧ HF_ends U = H_ends h ∧ HF_steps U = H_steps h) (w : Int32) (d : Nat) : ∀ (n i : Nat) (x acc : Int32), i + d = (C.filter zee).length → d < n → x.toInt = i → mHF_unsure_L5 w U n acc x = some (zmin 60 (zun (HF_facts U) w ((C.filter zee).drop i) acc)) := by
  obtain ⟨u1, u2, u3, u4, u5⟩ := hU
  obtain ⟨k1, k2, k3, k4, k5⟩ := H
  obtain ⟨g1, g2, g3⟩ := hc
  have gl : (C.filter zee).length ≤ 10 := Nat.le_trans (List.length_filter_le _ _) g1
  have g3' : ∀ c ∈ C.filter zee, zwf c.2.2.2 := fun c hc => (g3 c (List.mem_filter.mp hc).1).2.2.2 (List.mem_filter.mp hc).2
  generalize C.filter zee = D at *
  induction d with
  | zero =>
    intro n i x acc h1 h2 h3
    obtain ⟨n, rfl⟩ : ∃ m, n = m + 1 := ⟨n - 1, by omega⟩
    rw [mHF_unsure_L5, u1, if_pos (by (try simp only [z_in0, z_isPlaceM, z_isPlaceN, z_isLetterN, z_isTenthN, z_isTapeN, z_isTapeM]); (try simp only [Int32.lt_iff_toInt_lt, Int32.le_iff_toInt_le, ← Int32.toInt_inj, Int32.reduceToInt, Int64.reduceToInt, k1]); omega), List.drop_of_length_le (by omega)]
    rfl
  | succ d ih =>
    intro n i x acc h1 h2 h3
    obtain ⟨n, rfl⟩ : ∃ m, n = m + 1 := ⟨n - 1, by omega⟩
    have hi : i < D.length := by omega
    obtain ⟨s1, s2, s3, s4⟩ := k3 i hi
    have ex : x.toNatClampNeg = i := by rw [z_nat]; omega
    have hx := z_one x (by omega) (by omega)
    have ht := zsm_take hi
    have hl := zsm_le D (i + 1)
    have hT := zsm_mem (List.getElem_mem hi)
    have hw := g3' _ (List.getElem_mem hi)
    have htr : mHF_isTrue x U = some (ztf (zhd (zev (HF_facts U) D[i].2.2.2 []))) := by
      unfold mHF_isTrue
      have go := l_true (u := U) (c := x) (by omega) (e := zsm (D.take (i + 1))) (m := 1) (by rw [ex, u4]; exact s3) (by omega) D[i].2.2.2 256 (zsm (D.take i))
      by_cases h0 : x = 0
      · rw [if_pos h0]
        obtain rfl : i = 0 := by rw [h0] at h3; have : (0 : Int) = i := h3; omega
        refine go 0 0 [] (by omega) rfl ht (by rw [u5]; exact s4) hw.1 hw.2 (by simp) rfl
      · have h0' : x.toInt ≠ 0 := fun h => h0 (Int32.toInt_inj.mp h)
        have hs := z_sub1 (x := x) (by omega)
        rw [if_neg h0, zgi_ok _ (by omega) (by omega)]
        obtain ⟨_, _, q3, _⟩ := k3 (i - 1) (by omega)
        refine go 0 _ [] (by omega) ?_ ht (by rw [u5]; exact s4) hw.1 hw.2 (by simp) rfl
        rw [z_nat, hs, u4, show (x.toInt - 1).toNat = i - 1 by omega, q3, show i - 1 + 1 = i by omega]
    rw [mHF_unsure_L5, u1, u2, u3, if_neg (by (try simp only [z_in0, z_isPlaceM, z_isPlaceN, z_isLetterN, z_isTenthN, z_isTapeN, z_isTapeM]); (try simp only [Int32.lt_iff_toInt_lt, Int32.le_iff_toInt_le, ← Int32.toInt_inj, Int32.reduceToInt, Int64.reduceToInt, k1]); omega), zgi_ok _ (by omega) (by omega), zgi_ok _ (by omega) (by omega), ex, s1, s2, htr, Option.bind_some, List.drop_eq_getElem_cons hi, zun_cons, ih n (i + 1) (x + 1) _ (by omega) (by omega) (by omega), ih n (i + 1) (x + 1) _ (by omega) (by omega) (by omega)]
    by_cases c1 : D[i].1 = w
    · rw [if_pos c1]
      cases hq : zhd (zev (HF_facts U) D[i].2.2.2 [])
      · rw [if_pos (show ztf false = 0 from rfl), if_neg (by rintro ⟨_, h⟩; cases h)]
      · rw [if_neg (show ¬ ztf true = 0 by decide), if_pos ⟨c1, rfl⟩]
    · rw [if_neg c1, if_neg (fun h => c1 h.1)]
theorem l_unsM {v : SM} {C : List ZC} {b : Nat} {e a s t : Int32} (hc : zcl C) (hm : RHm C b (M_word v) (M_spot v) (M_number v) (M_from v) (M_to v) (M_sign v)) (hb : mM_behind v = some e) (he : e.toInt = b + C.length) (h5 : b + C.length ≤ 50) {fc : Nat → Int32} (hF : ∀ x : Int32, 0 ≤ x.toInt → x.toInt ≤ 4 → mM_factOf x a s t v = some (fc x.toInt.toNat)) {w : Int32} (hw : w = 0 ∨ w = 1) (d : Nat) : ∀ (n i : Nat) (x acc : Int32) (p : Nat → Int32), i + d = C.length → d < n → x.toInt = b + i → ∃ p', mM_unsure_L9 w a s t n acc x (M_put_pile p v) = some (mM_min 60 (zun fc w (C.drop i) acc), p') := by
  have p0 : ∀ p : Nat → Int32, mM_behind (M_put_pile p v) = mM_behind v := fun _ => rfl
  have p1 : ∀ p : Nat → Int32, M_word (M_put_pile p v) = M_word v := fun _ => rfl
  have p2 : ∀ p : Nat → Int32, M_number (M_put_pile p v) = M_number v := fun _ => rfl
  have p3 : ∀ p : Nat → Int32, M_from (M_put_pile p v) = M_from v := fun _ => rfl
  have p4 : ∀ p q : Nat → Int32, M_put_pile q (M_put_pile p v) = M_put_pile q v := fun _ _ => rfl
  obtain ⟨g1, g2, g3⟩ := hc
  induction d with
  | zero =>
    intro n i x acc p h1 h2 h3
    obtain ⟨n, rfl⟩ : ∃ m, n = m + 1 := ⟨n - 1, by omega⟩
    rw [mM_unsure_L9, p0, hb, Option.bind_some, if_pos (by (try simp only [z_in0, z_isPlaceM, z_isPlaceN, z_isLetterN, z_isTenthN, z_isTapeN, z_isTapeM]); (try simp only [Int32.lt_iff_toInt_lt, Int32.le_iff_toInt_le, ← Int32.toInt_inj, Int32.reduceToInt, Int64.reduceToInt]); omega), List.drop_of_length_le (by omega)]
    exact ⟨_, rfl⟩
  | succ d ih =>
    intro n i x acc p h1 h2 h3
    obtain ⟨n, rfl⟩ : ∃ m, n = m + 1 := ⟨n - 1, by omega⟩
    have hi : i < C.length := by omega
    obtain ⟨k1, k2, k3, k4⟩ := hm i hi
    have ex : x.toNatClampNeg = b + i := by rw [z_nat]; omega
    have hx := z_one x (by omega) (by omega)
    have hadd : ∀ y : Int32, y + 0 = y := by
      intro y
      rw [← Int32.toInt_inj, Int32.toInt_add]
      have := z_lt y
      simp only [Int32.reduceToInt, Int.bmod_def]
      omega
    rw [mM_unsure_L9, p0, p1, p2, hb, Option.bind_some, if_neg (by (try simp only [z_in0, z_isPlaceM, z_isPlaceN, z_isLetterN, z_isTenthN, z_isTapeN, z_isTapeM]); (try simp only [Int32.lt_iff_toInt_lt, Int32.le_iff_toInt_le, ← Int32.toInt_inj, Int32.reduceToInt, Int64.reduceToInt]); omega), zgi_ok _ (by omega) (by omega), ex, k1, k3, List.drop_eq_getElem_cons hi, zun_cons]
    by_cases c1 : C[i].1 = w
    · have hz : zee C[i] = true := by unfold zee; rw [c1]; exact decide_eq_true hw
      obtain ⟨f1, f2, f3, f4⟩ := k4 hz
      have hwf := (g3 _ (List.getElem_mem hi)).2.2.2 hz
      have hT := zsm_mem (List.mem_filter.mpr ⟨List.getElem_mem hi, hz⟩)
      unfold zrg at f1
      obtain ⟨p', hp'⟩ := ql_holds (v := v) (c := x) (a := a) (s := s) (t := t) (by omega) (e := (M_to v (b + i)).toInt.toNat) (by rw [ex]; omega) (by omega) hF C[i].2.2.2 256 (M_from v (b + i)).toInt.toNat 0 (M_from v (b + i)) [] p (by omega) (by omega) (by omega) f4 hwf.1 hwf.2 (by simp) rfl (fun k hk => (nomatch hk))
      have hh : mM_holds x a s t (M_put_pile p v) = some (ztf (zhd (zev fc C[i].2.2.2 [])), p') := by
        unfold mM_holds
        rw [zgi_ok _ (by omega) (by omega), p3, ex]
        exact hp'
      rw [if_pos c1, hh, Option.bind_some]
      simp only [p4, hadd]
      rw [zgi_ok _ (by omega) (by omega)]
      cases hq : zhd (zev fc C[i].2.2.2 [])
      · rw [if_pos (show ztf false = 0 from rfl), if_neg (by rintro ⟨_, h⟩; cases h)]
        exact ih n (i + 1) (x + 1) _ _ (by omega) (by omega) (by omega)
      · rw [if_neg (show ¬ ztf true = 0 by decide), if_pos ⟨c1, rfl⟩]
        exact ih n (i + 1) (x + 1) _ _ (by omega) (by omega) (by omega)
    · rw [if_neg c1, if_neg (fun h => c1 h.1)]
      simp only [hadd]
      exact ih n (i + 1) (x + 1) _ _ (by omega) (by omega) (by omega)
/-- what is asked of a house -/
def zfc (v : SM) (a s t : Int32) (f : Nat) : Int32 := if f = 0 then M_far v s.toInt.toNat else if f = 1 then mM_apart (M_side v s.toInt.toNat) (M_mouth v) else if f = 2 then M_kind v a.toInt.toNat else if f = 3 then (if 2 * (M_letters v).toInt ≤ t.toInt then 99 else M_letter v (t.toInt / 2).toNat) else t
theorem z_two {v : SM} (h : zrg 0 20 (M_letters v)) : ((2 : Int32) * M_letters v).toInt = 2 * (M_letters v).toInt := by
  unfold zrg at h
  rw [z_mulI (by simp only [Int32.reduceToInt]; omega) (by simp only [Int32.reduceToInt]; omega)]
  simp only [Int32.reduceToInt]
theorem z_said {v : SM} (h : zrg 0 20 (M_letters v)) (t : Int32) : (mM_isSaid t v = 0) = (2 * (M_letters v).toInt ≤ t.toInt) := by
  unfold mM_isSaid
  simp only [Int32.le_iff_toInt_le, z_two h]
  by_cases c : 2 * (M_letters v).toInt ≤ t.toInt
  · rw [if_pos c]; simp [c]
  · rw [if_neg c]; simp [c]
theorem m_fact {v : SM} {a s t : Int32} (hl : zrg 0 20 (M_letters v)) (ha : 0 ≤ a.toInt ∧ a.toInt ≤ 9) (hs : 0 ≤ s.toInt ∧ s.toInt ≤ 7) (ht : 0 ≤ t.toInt ∧ t.toInt ≤ 39) (x : Int32) (h0 : 0 ≤ x.toInt) (h1 : x.toInt ≤ 4) : mM_factOf x a s t v = some (zfc v a s t x.toInt.toNat) := by
  unfold mM_factOf
  have hl' := hl
  unfold zrg at hl'
  have hd : (t / 2).toInt = t.toInt / 2 := z_div (by omega) (by decide)
  simp only [z_said hl]
  rw [zgi_ok _ hs.1 (by omega), zgi_ok _ hs.1 (by omega), zgi_ok _ ha.1 (by omega)]
  simp only [← Int32.toInt_inj, Int32.reduceToInt, z_nat, hd]
  unfold zfc
  have k : x.toInt = 0 ∨ x.toInt = 1 ∨ x.toInt = 2 ∨ x.toInt = 3 ∨ x.toInt = 4 := by omega
  rcases k with k | k | k | k | k
  · rw [k]; rfl
  · rw [k]; rfl
  · rw [k]; rfl
  · rw [k]
    show (if 2 * (M_letters v).toInt ≤ t.toInt then _ else _) = some (if 2 * (M_letters v).toInt ≤ t.toInt then _ else _)
    by_cases c : 2 * (M_letters v).toInt ≤ t.toInt
    · rw [if_pos c, if_pos c]
    · rw [if_neg c, if_neg c, zgi_ok _ (by omega) (by omega)]
  · rw [k]; rfl
/-- how unsure, as the reference finds it -/
def xU (v : SM) (w a s t : Int32) : Int32 := match mM_unsure w a s t (M_put_pile (fun _ => 0) v) with
  | some q => q.1
  | none => 0
theorem q_unsure {u : SV} {v : SM} (R : Rel u v) {w a s t : Int32} (hw : w = 0 ∨ w = 1) (ha : 0 ≤ a.toInt ∧ a.toInt ≤ 9) (hs : 0 ≤ s.toInt ∧ s.toInt ≤ 7) (ht : 0 ≤ t.toInt ∧ t.toInt ≤ 39) : (∀ p, ∃ p', mM_unsure w a s t (M_put_pile p v) = some (xU v w a s t, p')) ∧ zrg 1 60 (xU v w a s t) ∧ ∃ h, mV_holding u = some h ∧ h < 6 ∧ ∀ U : SHF, (∀ k, k < 5 → HF_facts U k = zfc v a s t k) → (HF_clauses U = H_clauses (V_hs u h) ∧ HF_senses U = H_senses (V_hs u h) ∧ HF_amounts U = H_amounts (V_hs u h) ∧ HF_ends U = H_ends (V_hs u h) ∧ HF_steps U = H_steps (V_hs u h)) → mHF_unsure w U = some (xU v w a s t) := by
  obtain ⟨C, b, h, c1, c2, c3, c4, c5, c6, ⟨e, c7, c8⟩, c9⟩ := z_cur R
  have hF := m_fact (v := v) R.1.2.2.1.2.2.2.1 ha hs ht
  have hM : ∀ p, ∃ p', mM_unsure w a s t (M_put_pile p v) = some (mM_min 60 (zun (zfc v a s t) w C 1), p') := by
    intro p
    unfold mM_unsure
    exact l_unsM c1 c2 c7 c8 c9 hF hw C.length 256 0 _ 1 p (by omega) (by omega) c6
  have hx : xU v w a s t = mM_min 60 (zun (zfc v a s t) w C 1) := by
    obtain ⟨p', hp'⟩ := hM (fun _ => 0)
    unfold xU
    rw [hp']
  refine ⟨by rw [hx]; exact hM, ?_, h, c3, c4, fun U hU1 hU2 => ?_⟩
  · rw [hx]
    have hr := zun_rg (zfc v a s t) w C 1 (fun c hc => (c1.2.2 c hc).2.1) (by decide) (by have := c1.1; simp only [Int32.reduceToInt]; omega)
    unfold mM_min zrg
    simp only [Int32.le_iff_toInt_le, Int32.reduceToInt]
    split
    · omega
    · simp only [Int32.reduceToInt]; omega
  · unfold mHF_unsure
    have hl : (C.filter zee).length ≤ 10 := Nat.le_trans (List.length_filter_le _ _) c1.1
    rw [l_unsV c1 c5 hU2 w (C.filter zee).length 256 0 0 1 (by omega) (by omega) rfl, hx, z_min2]
    show some (zmin 60 (zun (HF_facts U) w (C.filter zee) 1)) = _
    rw [zun_filter _ hw, zun_cg hU1 hw C 1 (fun c hc => (c1.2.2 c hc).2.2.2)]
