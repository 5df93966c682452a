/-! 09.P36: house -/
/-- the steps of house f lie below 100 f + 100 -/
def QI (v : SM) : Prop := ∀ f, f < (M_houses v).toInt.toNat → ∀ i, i < (M_clauses v f).toInt.toNat → (M_word v (10 * f + i) = 0 ∨ M_word v (10 * f + i) = 1) → (M_to v (10 * f + i)).toInt ≤ ((100 * f + 100 : Nat) : Int)
def Rel2 (u : SV) (v : SM) : Prop := Rel u v ∧ QI v
theorem RH_keep {v : SM} {f f' : Nat} {C : List ZC} {h : SH} {cl wd sp nu fr to sg : Nat → Int32} (H : RH C h f' (M_clauses v) (M_word v) (M_spot v) (M_number v) (M_from v) (M_to v) (M_sign v)) (hF : zFr v f cl wd sp nu fr to sg) (hf : f' < f) (hI : ∀ i, i < C.length → (M_word v (10 * f' + i) = 0 ∨ M_word v (10 * f' + i) = 1) → (M_to v (10 * f' + i)).toInt ≤ ((100 * f' + 100 : Nat) : Int)) : RH C h f' cl wd sp nu fr to sg := by
  obtain ⟨h1, h2, h3, h4⟩ := H
  obtain ⟨f1, f2, f3⟩ := hF
  have hl := h1.1
  refine ⟨h1, by rw [f1 f' (by omega)]; exact h2, fun i hi => ?_, h4⟩
  obtain ⟨k1, k2, k3, k4⟩ := h3 i hi
  obtain ⟨g1, g2, g3, g4, g5⟩ := f2 (10 * f' + i) (by omega)
  rw [g1, g2, g3, g4, g5]
  refine ⟨k1, k2, k3, fun hz => ?_⟩
  obtain ⟨m1, m2, m3, m4⟩ := k4 hz
  refine ⟨m1, m2, m3, zst_cg m4 (fun j hj => f3 j ?_)⟩
  have hw : M_word v (10 * f' + i) = 0 ∨ M_word v (10 * f' + i) = 1 := by
    rw [k1]
    exact of_decide_eq_true hz
  have := hI i hi hw
  obtain ⟨m5, m6⟩ := m1
  rw [List.length_map] at hj
  omega
theorem vu_ne {α : Type} (f : Nat → α) {k j : Nat} (x : α) (h : j ≠ k) : va_up f k x j = f j := if_neg h
theorem vu_eq {α : Type} (f : Nat → α) (k : Nat) (x : α) : va_up f k x k = x := if_pos rfl
theorem pS_house : zS_house Rel2 := by
  intro u v RR
  obtain ⟨R, hI⟩ := id RR
  obtain ⟨R1, R2, R3, R4, R5, R6, R7, R8, R9⟩ := id R
  obtain ⟨⟨hc, hr⟩, hH0, hH⟩ := id R5
  obtain ⟨⟨ht1, ht2⟩, ht3⟩ := id R4
  obtain ⟨hr1, hr2⟩ := id hr
  obtain ⟨t1, t2⟩ := id ht2
  unfold mV_house mM_house
  by_cases h5 : M_houses v = 5
  · rw [if_neg (show ¬ V_houseCount u < 5 by rw [hc, h5]; decide), if_pos h5]
    exact ⟨-4, _, _, rfl, rfl, R, hI⟩
  · have h5' : ¬ (M_houses v).toInt = 5 := fun q => h5 (Int32.toInt_inj.mp q)
    obtain ⟨f, hf⟩ : ∃ f : Nat, f = (M_houses v).toInt.toNat := ⟨_, rfl⟩
    have hx1 : (M_houses v).toInt = f := by omega
    have hf4 : f ≤ 4 := by omega
    have hcf : (V_houseCount u).toInt = f := by rw [hc]; exact hx1
    have hc1 := z_one (V_houseCount u) (by omega) (by omega)
    have hv1 := z_one (M_houses v) (by omega) (by omega)
    have eK : (V_houseCount u + 1).toNatClampNeg = f + 1 := by rw [z_nat]; omega
    obtain ⟨n, hn⟩ : ∃ n : Nat, n = (M_fed v).toInt.toNat := ⟨_, rfl⟩
    obtain ⟨c, hcc⟩ : ∃ c : Nat → Int, c = fun k => if k < n then (M_text v k).toInt else -1 := ⟨_, rfl⟩
    have c1 : ∀ k, k < n → c k = (M_text v k).toInt := fun k hk => by rw [hcc]; exact if_pos hk
    have c2 : ∀ k, n ≤ k → c k = -1 := fun k hk => by rw [hcc]; exact if_neg (by omega)
    have T : TM v n c := ⟨by omega, by omega, fun k hk => by
      obtain ⟨_, q1, q2⟩ := ht3 k (by omega)
      rw [c1 k hk]
      exact ⟨rfl, q1, q2⟩, c2⟩
    obtain ⟨r, w, i1, i2, i3⟩ := c_fault (u := V_toR u (f + 1)) (x2 := V_textLength u) (n := n) (c := c) (by rw [ht1]; omega) (by omega) (fun k hk => by
      obtain ⟨q0, q1, q2⟩ := ht3 k (by omega)
      rw [c1 k hk]
      exact ⟨q0, q1, q2⟩) c2
    obtain ⟨x, y, j1, j2, j3, j4⟩ := m_goes (x1 := M_houses v) hx1 hf4 T R9
    rw [if_pos (show V_houseCount u < 5 by (try simp only [z_in0, z_isPlaceM, z_isPlaceN, z_isLetterN, z_isTenthN, z_isTapeN, z_isTapeM]); (try simp only [Int32.lt_iff_toInt_lt, Int32.le_iff_toInt_le, ← Int32.toInt_inj, Int32.reduceToInt, Int64.reduceToInt]); omega), zgi_ok _ (by omega) (by omega), if_neg h5, eK]
    have keep : ∀ f', f' < f → ∃ C, 0 < C.length ∧ RH C (va_up (V_hs u) (f + 1) (H_ofR w (V_hs u (f + 1))) (f' + 1)) f' y.2.2.2.2.2.1 y.2.2.2.2.2.2.1 y.2.2.2.2.2.2.2.1 y.2.2.2.2.2.2.2.2.1 y.2.2.2.2.2.2.2.2.2.1 y.2.2.2.2.2.2.2.2.2.2.1 y.2.2.2.2.2.2.2.2.2.2.2.1 := by
      intro f' hf'
      obtain ⟨C, C0, C1⟩ := hH f' (by omega)
      refine ⟨C, C0, ?_⟩
      rw [vu_ne _ _ (by omega)]
      have hcl : (M_clauses v f').toInt = C.length := C1.2.1
      exact RH_keep C1 j2 hf' (fun i hi hw => hI f' (by omega) i (by omega) hw)
    have keep0 : RHv [] (va_up (V_hs u) (f + 1) (H_ofR w (V_hs u (f + 1))) 0) := by
      rw [vu_ne _ _ (by omega)]
      exact hH0
    have keepI : ∀ f', f' < f → ∀ i, i < (y.2.2.2.2.2.1 f').toInt.toNat → (y.2.2.2.2.2.2.1 (10 * f' + i) = 0 ∨ y.2.2.2.2.2.2.1 (10 * f' + i) = 1) → (y.2.2.2.2.2.2.2.2.2.2.1 (10 * f' + i)).toInt ≤ ((100 * f' + 100 : Nat) : Int) := by
      intro f' hf' i hi hw
      obtain ⟨C, C0, C1⟩ := hH f' (by omega)
      have hcl : (M_clauses v f').toInt = C.length := C1.2.1
      have hC := C1.1.1
      obtain ⟨k1, k2, k3⟩ := j2
      rw [k1 f' (by omega)] at hi
      obtain ⟨g1, g2, g3, g4, g5⟩ := k2 (10 * f' + i) (by omega)
      rw [g1] at hw
      rw [g5]
      exact hI f' (by omega) i hi hw
    cases hg : (spG c n 10 0).1 with
    | some p =>
      have r1 := i3 p hg
      obtain ⟨x0, y1⟩ := j4 p hg
      have er : r = y.1 := Int32.toInt_inj.mp (by rw [r1, y1])
      refine ⟨-10 - r, (0, (V_houseCount u, (V_stage u, (w.1, (w.2.1, va_up (V_hs u) (f + 1) (H_ofR w (V_hs u (f + 1)))))))), (M_houses v, (M_the v, (0, y))), z_bq i1 (if_neg (show ¬ r < 0 by rw [Int32.lt_iff_toInt_lt, r1]; simp only [Int32.reduceToInt]; omega)), z_bq j1 ((if_pos x0).trans (congrArg (fun t : Int32 => some (-10 - t, (M_houses v, (M_the v, ((0 : Int32), y))))) er.symm)), ?_, ?_⟩
      · refine ⟨R1, R2, R3, ⟨⟨rfl, (show zrg 0 100 (0 : Int32) from ⟨by decide, by decide⟩)⟩, fun k hk => absurd hk (Nat.not_lt_zero k)⟩, ⟨⟨hc, hr⟩, keep0, fun f' hf' => keep f' ?_⟩, R6, R7, R8, R9⟩
        have hf'' : f' < (M_houses v).toInt.toNat := hf'
        omega
      · intro f' hf'
        have hf'' : f' < (M_houses v).toInt.toNat := hf'
        exact keepI f' (by omega)
    | none =>
      obtain ⟨r1, H2⟩ := i2 hg
      obtain ⟨x1', y1, y2⟩ := j3 hg
      obtain ⟨⟨g1, g2⟩, g3, g4⟩ := spG_gd c2 10 0 (Nat.zero_le _) hg
      generalize spG c n 10 0 = G at *
      obtain ⟨⟨s1, s2, s3, s4, s5, s6⟩, sw, ⟨a1, a2, a3, a4, a5, a6⟩, sl⟩ := id R1
      obtain ⟨⟨⟨b1, b2, b3, b4, b5, b6⟩, bw, ⟨d1, d2, d3, d4, d5, d6⟩, bl⟩, bt⟩ := id R2
      have ea : V_houseCount u + 1 - 1 = M_houses v := Int32.toInt_inj.mp (by rw [z_sub1 (by omega)]; omega)
      have hzc : zcl G.2 := ⟨g1, by omega, fun z hz => ⟨(g4 z hz).1.1, (g4 z hz).1.2.1, (g4 z hz).1.2.2, (g4 z hz).2⟩⟩
      refine ⟨M_houses v, (0, (V_houseCount u + 1, (S_set_house (V_houseCount u + 1) (V_stage u), (w.1, (w.2.1, va_up (V_hs u) (f + 1) (H_ofR w (V_hs u (f + 1)))))))), (M_houses v + 1, (M_houses v, (0, y))), z_bq i1 ((if_pos (show r < 0 by rw [r1]; decide)).trans (congrArg (fun t : Int32 => some (t, ((0 : Int32), (V_houseCount u + 1, (S_set_house (V_houseCount u + 1) (V_stage u), (w.1, (w.2.1, va_up (V_hs u) (f + 1) (H_ofR w (V_hs u (f + 1)))))))))) ea)), z_bq j1 (if_neg (show ¬ x = 0 by rw [x1']; decide)), ⟨?_, ?_, R3, ⟨⟨rfl, (show zrg 0 100 (0 : Int32) from ⟨by decide, by decide⟩)⟩, fun k hk => absurd hk (Nat.not_lt_zero k)⟩, ⟨⟨?_, ?_⟩, keep0, fun f' hf' => ?_⟩, R6, R7, R8, R9⟩, fun f' hf' => ?_⟩
      · refine ⟨⟨s1, s2, s3, s4, s5, ?_⟩, sw, ⟨a1, a2, a3, a4, a5, ?_⟩, sl⟩
        · show V_houseCount u + 1 = M_houses v + 1
          rw [hc]
        · show -1 ≤ (M_houses v).toInt ∧ (M_houses v).toInt < (M_houses v + 1).toInt
          omega
      · refine ⟨⟨⟨b1, b2, b3, b4, b5, b6⟩, bw, ⟨d1, d2, d3, d4, d5, ?_⟩, bl⟩, bt⟩
        show -1 ≤ (M_imageThe v).toInt ∧ (M_imageThe v).toInt < (M_houses v + 1).toInt
        omega
      · show V_houseCount u + 1 = M_houses v + 1
        rw [hc]
      · show 0 ≤ (M_houses v + 1).toInt ∧ (M_houses v + 1).toInt ≤ 5
        omega
      · have hf'' : f' < (M_houses v + 1).toInt.toNat := hf'
        by_cases q : f' < f
        · exact keep f' q
        · have q' : f' = f := by omega
          subst q'
          refine ⟨G.2, g2, hzc, y1, RM_RHm y2 (by omega), ?_⟩
          show RHv G.2 (va_up (V_hs u) (f' + 1) (H_ofR w (V_hs u (f' + 1))) (f' + 1))
          rw [vu_eq]
          exact H2
      · have hf'' : f' < (M_houses v + 1).toInt.toNat := hf'
        by_cases q : f' < f
        · exact keepI f' q
        · have q' : f' = f := by omega
          subst q'
          intro i hi hw
          have hi' : i < (y.2.2.2.2.2.1 f').toInt.toNat := hi
          have hil : i < G.2.length := by omega
          obtain ⟨⟨k1, k2, k3⟩, k4⟩ := y2 i hil
          have hw' : y.2.2.2.2.2.2.1 (10 * f' + i) = 0 ∨ y.2.2.2.2.2.2.1 (10 * f' + i) = 1 := hw
          rw [k1] at hw'
          exact (k4 (decide_eq_true hw')).2.2.1
