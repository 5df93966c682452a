/-! 09.P33: the house in the class -/
theorem o_sn {p : Nat} {P : Prop} (h : (some p : Option Nat) = none) : P := absurd h (by intro q; cases q)
theorem o_ns {p : Nat} {P : Prop} (h : (none : Option Nat) = some p) : P := absurd h (by intro q; cases q)
def spG (c : Nat → Int) (n : Nat) : Nat → Nat → Option Nat × List ZC
  | 0, a => (some a, [])
  | k + 1, a => if (spC c n a).1 = true then (if (spC c n a).2.1 = n then (none, [(spC c n a).2.2]) else if k = 0 then (some (spC c n a).2.1, []) else if c (spC c n a).2.1 = 59 then ((spG c n k ((spC c n a).2.1 + 1)).1, (spC c n a).2.2 :: (spG c n k ((spC c n a).2.1 + 1)).2) else (some (spC c n a).2.1, [])) else (some (spC c n a).2.1, [])
theorem zsm_flt (c : ZC) (L : List ZC) : zsm ((c :: L).filter zee) ≤ c.2.2.2.length + zsm (L.filter zee) := by
  by_cases h : zee c = true
  · rw [List.filter_cons_of_pos h]
    exact Nat.le_of_eq (by simp [zsm])
  · rw [List.filter_cons_of_neg h]
    exact Nat.le_add_left _ _
theorem spG_gd {c : Nat → Int} {n : Nat} (hc : ∀ k, n ≤ k → c k = -1) : ∀ (k a : Nat), a ≤ n → (spG c n k a).1 = none → ((spG c n k a).2.length ≤ k ∧ 0 < (spG c n k a).2.length) ∧ zsm ((spG c n k a).2.filter zee) + a ≤ n ∧ ∀ z ∈ (spG c n k a).2, zGz z
  | 0, a, ha, h => by
    rw [spG] at h
    exact o_sn h
  | k + 1, a, ha, h => by
    rw [spG] at h ⊢
    by_cases e1 : (spC c n a).1 = true
    · rw [if_pos e1] at h ⊢
      obtain ⟨⟨g1, g2⟩, g3, g4⟩ := spC_gd hc a e1
      generalize spC c n a = r at *
      by_cases e2 : r.2.1 = n
      · rw [if_pos e2]
        refine ⟨⟨by show 1 ≤ k + 1; omega, by show 0 < 1; omega⟩, ?_, ?_⟩
        · have := zsm_flt r.2.2 []
          have h0 : zsm (([] : List ZC).filter zee) = 0 := rfl
          show zsm ([r.2.2].filter zee) + a ≤ n
          omega
        · intro z hz
          rw [List.mem_singleton.mp hz]
          exact g3
      · rw [if_neg e2] at h ⊢
        by_cases e3 : k = 0
        · rw [if_pos e3] at h
          exact o_sn h
        · rw [if_neg e3] at h ⊢
          by_cases e4 : c r.2.1 = 59
          · rw [if_pos e4] at h ⊢
            obtain ⟨⟨i1, i2⟩, i3, i4⟩ := spG_gd hc k (r.2.1 + 1) (by omega) h
            generalize spG c n k (r.2.1 + 1) = t at *
            refine ⟨⟨?_, ?_⟩, ?_, ?_⟩
            · show (r.2.2 :: t.2).length ≤ k + 1
              rw [List.length_cons]
              omega
            · show 0 < (r.2.2 :: t.2).length
              rw [List.length_cons]
              omega
            · have := zsm_flt r.2.2 t.2
              show zsm ((r.2.2 :: t.2).filter zee) + a ≤ n
              omega
            · intro z hz
              rcases List.mem_cons.mp hz with hz | hz
              · rw [hz]
                exact g3
              · exact i4 z hz
          · rw [if_neg e4] at h
            exact o_sn h
    · rw [if_neg e1] at h
      exact o_sn h
theorem c_goes {c : Nat → Int} {n : Nat} : ∀ (k N : Nat) (x4 : Int32) (u : SR) (a : Nat) (C : List ZC), k < N → 1 ≤ x4.toInt → x4.toInt + k = 11 → TR u n c → (R_at u).toInt = a → a ≤ n → C.length + k ≤ 10 → zsm (C.filter zee) ≤ a → RHv C (R_toH2 u) → ∃ (r : Int32) (w : Int32 × ZW), mR_faultOf_L35 N x4 u = some (r, w) ∧ ((spG c n k a).1 = none → r = -1 ∧ RHv (C ++ (spG c n k a).2) (R_toH2 (R_putm_faultOf w u))) ∧ ∀ p, (spG c n k a).1 = some p → r.toInt = (p : Int)
  | 0, N, x4, u, a, C, hN, h1, hx, T, ha, han, hC, hz, H => by
    obtain ⟨N, rfl⟩ : ∃ M, N = M + 1 := ⟨N - 1, by omega⟩
    rw [mR_faultOf_L35, if_pos (by (try simp only [z_in0, z_isPlaceM, z_isPlaceN, z_isLetterN, z_isTenthN, z_isTapeN, z_isTapeM]); (try simp only [Int32.lt_iff_toInt_lt, Int32.le_iff_toInt_le, ← Int32.toInt_inj, Int32.reduceToInt, Int64.reduceToInt]); omega), spG]
    refine ⟨_, _, rfl, fun h => o_sn h, fun p hp => ?_⟩
    rw [← Option.some.inj hp]
    exact ha
  | k + 1, N, x4, u, a, C, hN, h1, hx, T, ha, han, hC, hz, H => by
    obtain ⟨N, rfl⟩ : ∃ M, N = M + 1 := ⟨N - 1, by omega⟩
    have hc := T.2.2.2
    have h100 := T.2.1
    have hl := T.1
    obtain ⟨x, w, e, hp, hd⟩ := c_clause T ha han H (by omega) hz
    have hx4 := z_one x4 (by omega) (by omega)
    rw [mR_faultOf_L35, if_neg (by (try simp only [z_in0, z_isPlaceM, z_isPlaceN, z_isLetterN, z_isTenthN, z_isTapeN, z_isTapeM]); (try simp only [Int32.lt_iff_toInt_lt, Int32.le_iff_toInt_le, ← Int32.toInt_inj, Int32.reduceToInt, Int64.reduceToInt]); omega), spG]
    rcases hd with ⟨d1, rfl, d2⟩ | ⟨d1, rfl⟩
    · obtain ⟨⟨g1, g2⟩, g3, g4⟩ := spC_gd hc a d1
      rw [if_pos d1]
      generalize spC c n a = r at *
      by_cases e2 : r.2.1 = n
      · rw [if_pos e2]
        refine ⟨-1, (R_length u, w), z_bq e ((if_neg n10).trans ?_), fun _ => ⟨rfl, d2⟩, fun p hp => o_ns hp⟩
        exact if_neg (show ¬ w.1 < R_length u by (try simp only [z_in0, z_isPlaceM, z_isPlaceN, z_isLetterN, z_isTenthN, z_isTapeN, z_isTapeM]); (try simp only [Int32.lt_iff_toInt_lt, Int32.le_iff_toInt_le, ← Int32.toInt_inj, Int32.reduceToInt, Int64.reduceToInt]); omega)
      · rw [if_neg e2]
        have hlt : w.1 < R_length u := by (try simp only [z_in0, z_isPlaceM, z_isPlaceN, z_isLetterN, z_isTenthN, z_isTapeN, z_isTapeM]); (try simp only [Int32.lt_iff_toInt_lt, Int32.le_iff_toInt_le, ← Int32.toInt_inj, Int32.reduceToInt, Int64.reduceToInt]); omega
        by_cases e3 : k = 0
        · rw [if_pos e3]
          refine ⟨w.1, (R_length u, w), z_bq e ((if_neg n10).trans ((if_pos hlt).trans ?_)), fun h => o_sn h, fun p hp' => ?_⟩
          · exact if_pos (show x4 = 10 from Int32.toInt_inj.mp (by simp only [Int32.reduceToInt]; omega))
          · rw [← Option.some.inj hp']
            exact hp
        · rw [if_neg e3]
          have n4 : ¬ x4 = 10 := fun q => by rw [q] at hx; simp only [Int32.reduceToInt] at hx; omega
          have T2 : TR (R_putm_faultOf (R_length u, w) u) n c := T
          by_cases e4 : c r.2.1 = 59
          · rw [if_pos e4]
            have hw1 := z_one w.1 (by omega) (by omega)
            have hs := zsm_flt r.2.2 []
            have h0 : zsm (([] : List ZC).filter zee) = 0 := rfl
            obtain ⟨r', w', i1, i2, i3⟩ := c_goes k N (x4 + 1) (R_putm_faultOf (R_length u, (w.1 + 1, w.2)) u) (r.2.1 + 1) (C ++ [r.2.2]) (by omega) (by omega) (by omega) T (by show (w.1 + 1).toInt = _; omega) (c_lt hc (by omega)) (by rw [List.length_append, List.length_singleton]; omega) (by rw [List.filter_append, zsm_app]; omega) d2
            refine ⟨r', w', z_bq e ((if_neg n10).trans ((if_pos hlt).trans ((if_neg n4).trans (z_bq (c_skY T2 hp (x := 59) (e4.trans (by decide)) (by decide)) ((if_neg n10).trans i1))))), fun h => ?_, i3⟩
            obtain ⟨j1, j2⟩ := i2 h
            refine ⟨j1, ?_⟩
            show RHv (C ++ r.2.2 :: (spG c n k (r.2.1 + 1)).2) _
            rw [List.append_cons]
            exact j2
          · rw [if_neg e4]
            refine ⟨w.1, (R_length u, w), z_bq e ((if_neg n10).trans ((if_pos hlt).trans ((if_neg n4).trans (z_bq (c_skN T2 hp (x := 59) (fun q => e4 (q.trans (by decide))) (by decide)) (if_pos rfl))))), fun h => o_sn h, fun p hp' => ?_⟩
            rw [← Option.some.inj hp']
            exact hp
    · rw [if_neg (by rw [d1]; decide)]
      refine ⟨w.1, (R_length u, w), z_bq e (if_pos rfl), fun h => o_sn h, fun p hp' => ?_⟩
      rw [← Option.some.inj hp']
      exact hp
theorem h_clearL : ∀ (d i N : Nat) (x : Int32) (U : SH), i + d = 10 → d < N → x.toInt = i → ∃ s w : Nat → Int32, mH_clear_L2 N x U = some (1, (0, (0, (s, w)))) ∧ ∀ k, k < 10 → (i ≤ k → s k = Int32.ofNat k ∧ s (10 + k) = Int32.ofNat k ∧ w k = Int32.ofNat k) ∧ (k < i → s k = H_sounds U k ∧ s (10 + k) = H_sounds U (10 + k) ∧ w k = H_swaps U k)
  | 0, i, N, x, U, hi, hN, hx => by
    obtain ⟨N, rfl⟩ : ∃ M, N = M + 1 := ⟨N - 1, by omega⟩
    rw [mH_clear_L2, if_pos (by (try simp only [z_in0, z_isPlaceM, z_isPlaceN, z_isLetterN, z_isTenthN, z_isTapeN, z_isTapeM]); (try simp only [Int32.lt_iff_toInt_lt, Int32.le_iff_toInt_le, ← Int32.toInt_inj, Int32.reduceToInt, Int64.reduceToInt]); omega)]
    exact ⟨_, _, rfl, fun k hk => ⟨fun h => absurd h (by omega), fun _ => ⟨rfl, rfl, rfl⟩⟩⟩
  | d + 1, i, N, x, U, hi, hN, hx => by
    obtain ⟨N, rfl⟩ : ∃ M, N = M + 1 := ⟨N - 1, by omega⟩
    have hx1 := z_one x (by omega) (by omega)
    have h10 : ((10 : Int32) + x).toInt = 10 + x.toInt := by
      rw [z_addI (by simp only [Int32.reduceToInt]; omega) (by simp only [Int32.reduceToInt]; omega)]
      simp only [Int32.reduceToInt]
    have k1 : x.toNatClampNeg = i := by rw [z_nat, hx, Int.toNat_natCast]
    have k2 : ((10 : Int32) + x).toNatClampNeg = 10 + i := by rw [z_nat, h10]; omega
    have ex : x = Int32.ofNat i := by
      rw [show i = x.toInt.toNat by omega]
      exact (z_ofNat (by omega)).symm
    rw [mH_clear_L2, if_neg (by (try simp only [z_in0, z_isPlaceM, z_isPlaceN, z_isLetterN, z_isTenthN, z_isTapeN, z_isTapeM]); (try simp only [Int32.lt_iff_toInt_lt, Int32.le_iff_toInt_le, ← Int32.toInt_inj, Int32.reduceToInt, Int64.reduceToInt]); omega), zgi_ok _ (by omega) (by omega), zgi_ok _ (by omega) (by omega), zgi_ok _ (by omega) (by omega), k1, k2]
    obtain ⟨s, w, i1, i2⟩ := h_clearL d (i + 1) N (x + 1) (H_put_late_clauses_stepCount_sounds_swaps ((H_late U), (H_clauses U), (H_stepCount U), (upd (upd (H_sounds U) i x) (10 + i) x), (upd (H_swaps U) i x)) U) (by omega) (by omega) (by omega)
    refine ⟨s, w, i1, fun k hk => ⟨fun h => ?_, fun h => ?_⟩⟩
    · by_cases q : k = i
      · obtain ⟨j1, j2, j3⟩ := (i2 k hk).2 (by omega)
        refine ⟨j1.trans ?_, j2.trans ?_, j3.trans ?_⟩
        · show upd (upd (H_sounds U) i x) (10 + i) x k = _
          rw [upd_ne _ _ (by omega), q, upd_eq, ex]
        · show upd (upd (H_sounds U) i x) (10 + i) x (10 + k) = _
          rw [q, upd_eq, ex]
        · show upd (H_swaps U) i x k = _
          rw [q, upd_eq, ex]
      · exact (i2 k hk).1 (by omega)
    · obtain ⟨j1, j2, j3⟩ := (i2 k hk).2 (by omega)
      refine ⟨j1.trans ?_, j2.trans ?_, j3.trans ?_⟩
      · show upd (upd (H_sounds U) i x) (10 + i) x k = _
        rw [upd_ne _ _ (by omega), upd_ne _ _ (by omega)]
      · show upd (upd (H_sounds U) i x) (10 + i) x (10 + k) = _
        rw [upd_ne _ _ (by omega), upd_ne _ _ (by omega)]
      · show upd (H_swaps U) i x k = _
        rw [upd_ne _ _ (by omega)]
theorem c_fault {u : SR} {x2 : Int32} {n : Nat} {c : Nat → Int} (hn : x2.toInt = n) (h100 : n ≤ 100) (hT : ∀ k, k < n → (R_text u k).toInt = c k % 256 ∧ -128 ≤ c k ∧ c k ≤ 127) (hc : ∀ k, n ≤ k → c k = -1) : ∃ (r : Int32) (w : Int32 × ZW), mR_faultOf x2 u = some (r, w) ∧ ((spG c n 10 0).1 = none → r = -1 ∧ RHv (spG c n 10 0).2 (R_toH2 (R_putm_faultOf w u))) ∧ ∀ p, (spG c n 10 0).1 = some p → r.toInt = (p : Int) := by
  have em : zmin x2 100 = x2 := by
    unfold zmin
    rw [if_neg (by (try simp only [z_in0, z_isPlaceM, z_isPlaceN, z_isLetterN, z_isTenthN, z_isTapeN, z_isTapeM]); (try simp only [Int32.lt_iff_toInt_lt, Int32.le_iff_toInt_le, ← Int32.toInt_inj, Int32.reduceToInt, Int64.reduceToInt]); omega)]
  unfold mR_faultOf
  rw [em]
  obtain ⟨s, w, i1, i2⟩ := h_clearL 10 0 256 0 (R_toH2 (R_putm_faultOf (x2, (0, (R_h_late u, (R_h_clauses u, (R_h_stepCount u, (R_h_sounds u, (R_h_swaps u, (R_h_senses u, (R_h_amounts u, (R_h_ends u, R_h_steps u)))))))))) u)) (by omega) (by omega) rfl
  obtain ⟨r, w', j1, j2, j3⟩ := c_goes (c := c) (n := n) 10 256 1 (R_putm_faultOf (x2, (0, (1, (0, (0, (s, (w, (R_h_senses u, (R_h_amounts u, (R_h_ends u, R_h_steps u)))))))))) u) 0 [] (by omega) (by decide) (by decide) ⟨hn, h100, hT, hc⟩ rfl (by omega) (by decide) (by decide) (by
    refine ⟨rfl, rfl, fun i hi => absurd hi (Nat.not_lt_zero _), rfl, fun a ha => ?_⟩
    obtain ⟨a1, a2⟩ := ha
    obtain ⟨k1, k2, k3⟩ := (i2 a.toInt.toNat (by omega)).1 (Nat.zero_le _)
    rw [z_ofNat a1] at k1 k2 k3
    exact ⟨k1, k2, k3⟩)
  exact ⟨r, w', z_bq i1 j1, j2, j3⟩
