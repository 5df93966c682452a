/-! 09.P35: the house in the reference -/
abbrev ZY : Type := Int32 × Int32 × Int32 × Int32 × Int32 × (Nat → Int32) × (Nat → Int32) × (Nat → Int32) × (Nat → Int32) × (Nat → Int32) × (Nat → Int32) × (Nat → Int32) × (Nat → Int32)
/-- the clauses as the tables have them, their steps from 100 f on and below b -/
def RM (f b : Nat) (C : List ZC) (wd sp nu fr to sg : Nat → Int32) : Prop := ∀ i (h : i < C.length), (wd (10 * f + i) = C[i].1 ∧ sp (10 * f + i) = C[i].2.1 ∧ nu (10 * f + i) = C[i].2.2.1) ∧ (zee C[i] = true → ((100 * f : Nat) : Int) ≤ (fr (10 * f + i)).toInt ∧ (to (10 * f + i)).toInt = (fr (10 * f + i)).toInt + C[i].2.2.2.length ∧ (to (10 * f + i)).toInt ≤ b ∧ zst sg (fr (10 * f + i)).toInt.toNat (C[i].2.2.2.map zsg))
/-- what lies ahead of house f is as it was -/
def zFr (v0 : SM) (f : Nat) (cl wd sp nu fr to sg : Nat → Int32) : Prop := (∀ k, k ≠ f → cl k = M_clauses v0 k) ∧ (∀ k, k < 10 * f → wd k = M_word v0 k ∧ sp k = M_spot v0 k ∧ nu k = M_number v0 k ∧ fr k = M_from v0 k ∧ to k = M_to v0 k) ∧ ∀ k, k < 100 * f → sg k = M_sign v0 k
def zFy (v0 : SM) (f : Nat) (w : ZY) : Prop := zFr v0 f w.2.2.2.2.2.1 w.2.2.2.2.2.2.1 w.2.2.2.2.2.2.2.1 w.2.2.2.2.2.2.2.2.1 w.2.2.2.2.2.2.2.2.2.1 w.2.2.2.2.2.2.2.2.2.2.1 w.2.2.2.2.2.2.2.2.2.2.2.1
theorem zFr_c {v0 v : SM} {f X b : Nat} {w : ZX} {cl : Nat → Int32} (h : zFr v0 f (M_clauses v) (M_word v) (M_spot v) (M_number v) (M_from v) (M_to v) (M_sign v)) (hw : zcf v X b w) (hX : 10 * f ≤ X) (hb : 100 * f ≤ b) (hc : ∀ k, k ≠ f → cl k = M_clauses v k) : zFr v0 f cl w.2.2.2.2.2.1 w.2.2.2.2.2.2.1 w.2.2.2.2.2.2.2.1 w.2.2.2.2.2.2.2.2.1 w.2.2.2.2.2.2.2.2.2.1 w.2.2.2.2.2.2.2.2.2.2.1 := by
  obtain ⟨h1, h2, h3⟩ := h
  obtain ⟨⟨w1, w2, w3, w4, w5⟩, w6⟩ := hw
  refine ⟨fun k hk => (hc k hk).trans (h1 k hk), fun k hk => ?_, fun k hk => (w6 k (by omega)).trans (h3 k hk)⟩
  obtain ⟨i1, i2, i3, i4, i5⟩ := h2 k hk
  exact ⟨(w1 k (by omega)).trans i1, (w2 k (by omega)).trans i2, (w3 k (by omega)).trans i3, (w4 k (by omega)).trans i4, (w5 k (by omega)).trans i5⟩
theorem RM_c {v : SM} {f b : Nat} {C : List ZC} {z : ZC} {w : ZX} (h : RM f b C (M_word v) (M_spot v) (M_number v) (M_from v) (M_to v) (M_sign v)) (hb : 100 * f ≤ b) (hw : zcf v (10 * f + C.length) b w) (hz : zcw (10 * f + C.length) b z w) : RM f (b + z.2.2.2.length) (C ++ [z]) w.2.2.2.2.2.1 w.2.2.2.2.2.2.1 w.2.2.2.2.2.2.2.1 w.2.2.2.2.2.2.2.2.1 w.2.2.2.2.2.2.2.2.2.1 w.2.2.2.2.2.2.2.2.2.2.1 := by
  obtain ⟨⟨w1, w2, w3, w4, w5⟩, w6⟩ := hw
  obtain ⟨⟨z1, z2, z3⟩, z4, z5⟩ := hz
  intro i hi
  rw [List.length_append, List.length_singleton] at hi
  by_cases q : i < C.length
  · obtain ⟨⟨h1, h2, h3⟩, h4⟩ := h i q
    rw [List.getElem_append_left q, w1 _ (by omega), w2 _ (by omega), w3 _ (by omega), w4 _ (by omega), w5 _ (by omega)]
    refine ⟨⟨h1, h2, h3⟩, fun hz => ?_⟩
    obtain ⟨k1, k2, k3, k4⟩ := h4 hz
    refine ⟨k1, k2, by omega, zst_cg k4 (fun j hj => w6 j ?_)⟩
    rw [List.length_map] at hj
    omega
  · have q' : i = C.length := by omega
    subst q'
    rw [List.getElem_append_right (Nat.le_refl _)]
    simp only [Nat.sub_self]
    refine ⟨⟨z1, z2, z3⟩, fun hz => ?_⟩
    obtain ⟨k1, k2, k3⟩ := z5 hz
    refine ⟨?_, ?_, ?_, ?_⟩
    · rw [k1]
      omega
    · rw [k1, k2]
      show _ = (b : Int) + (z.2.2.2.length : Int)
      omega
    · rw [k2]
      exact Int.le_refl _
    · rw [k1, Int.toNat_natCast]
      exact k3
theorem RM_mono {f b b' : Nat} {C : List ZC} {wd sp nu fr to sg : Nat → Int32} (h : RM f b C wd sp nu fr to sg) (hb : b ≤ b') : RM f b' C wd sp nu fr to sg := fun i hi => ⟨(h i hi).1, fun hz => ⟨((h i hi).2 hz).1, ((h i hi).2 hz).2.1, by have := ((h i hi).2 hz).2.2.1; omega, ((h i hi).2 hz).2.2.2⟩⟩
theorem RM_RHm {f b : Nat} {C : List ZC} {wd sp nu fr to sg : Nat → Int32} (h : RM f b C wd sp nu fr to sg) (hb : b ≤ 500) : RHm C (10 * f) wd sp nu fr to sg := by
  intro i hi
  obtain ⟨⟨h1, h2, h3⟩, h4⟩ := h i hi
  refine ⟨h1, h2, h3, fun hz => ?_⟩
  obtain ⟨k1, k2, k3, k4⟩ := h4 hz
  exact ⟨⟨by omega, by omega⟩, k2, by omega, k4⟩
def MG (c : Nat → Int) (n f : Nat) (x1 : Int32) (v0 : SM) (k : Nat) : Prop := ∀ (N : Nat) (x2 : Int32) (v : SM) (a b : Nat) (C : List ZC), k < N → x2.toInt = C.length → C.length + (k + 1) = 10 → TM v n c → Ql_low v → (M_at v).toInt = a → a ≤ n → (M_signs v).toInt = b → 100 * f ≤ b ∧ b ≤ 100 * f + a → RM f b C (M_word v) (M_spot v) (M_number v) (M_from v) (M_to v) (M_sign v) → zFr v0 f (M_clauses v) (M_word v) (M_spot v) (M_number v) (M_from v) (M_to v) (M_sign v) → ∃ (x : Int32) (w : ZY), mM_goesText_L15 x1 N x2 v = some (x, w) ∧ zFy v0 f w ∧ ((spG c n (k + 1) a).1 = none → x = 1 ∧ (w.2.2.2.2.2.1 f).toInt = (C ++ (spG c n (k + 1) a).2).length ∧ RM f (100 * f + 100) (C ++ (spG c n (k + 1) a).2) w.2.2.2.2.2.2.1 w.2.2.2.2.2.2.2.1 w.2.2.2.2.2.2.2.2.1 w.2.2.2.2.2.2.2.2.2.1 w.2.2.2.2.2.2.2.2.2.2.1 w.2.2.2.2.2.2.2.2.2.2.2.1) ∧ ∀ p, (spG c n (k + 1) a).1 = some p → x = 0 ∧ w.1.toInt = (p : Int)
theorem m_goes1 {c : Nat → Int} {n f : Nat} {x1 : Int32} {v0 : SM} (hx1 : x1.toInt = f) (hf : f ≤ 4) {k : Nat} (ih : k = 0 ∨ ∃ k', k = k' + 1 ∧ MG c n f x1 v0 k') : MG c n f x1 v0 k := by
  intro N x2 v a b C hN hx2 hC T hL ha han hs hb hR hF
  obtain ⟨N, rfl⟩ : ∃ M, N = M + 1 := ⟨N - 1, by omega⟩
  have hc := T.2.2.2
  have h100 := T.2.1
  have hl := T.1
  have e10 : ((10 : Int32) * x1).toInt = 10 * x1.toInt := by
    rw [z_mulI (by simp only [Int32.reduceToInt]; omega) (by simp only [Int32.reduceToInt]; omega)]
    simp only [Int32.reduceToInt]
  have eX : ((10 : Int32) * x1 + x2).toInt = ((10 * f + C.length : Nat) : Int) := by
    rw [z_addI (by omega) (by omega), e10]
    omega
  have eX' : ((10 : Int32) * x1 + x2).toInt.toNat = 10 * f + C.length := by rw [eX, Int.toNat_natCast]
  have hx21 := z_one x2 (by omega) (by omega)
  have ef : x1.toNatClampNeg = f := by rw [z_nat, hx1, Int.toNat_natCast]
  obtain ⟨x, w, e, hp, hcf, hd⟩ := m_clause (f := f) (x1 := 10 * x1 + x2) (by omega) T hL ha han hf hs hb
  rw [eX'] at hcf hd
  rw [mM_goesText_L15, spG]
  rcases hd with ⟨d1, rfl, d2⟩ | ⟨d1, rfl⟩
  · obtain ⟨⟨g1, g2⟩, g3, g4⟩ := spC_gd hc a d1
    rw [if_pos d1]
    have g5 := d2.2.1
    have hR' := RM_c hR hb.1 hcf d2
    generalize spC c n a = r at *
    have hF' := zFr_c (cl := upd (M_clauses v) f (x2 + 1)) hF hcf (by omega) hb.1 (fun k hk => upd_ne _ _ hk)
    have hlen : (C ++ [r.2.2]).length = C.length + 1 := by rw [List.length_append, List.length_singleton]
    have hz1 : ∀ o : Option (Int32 × ZY), zgi x1 5 o = o := fun o => zgi_ok o (by omega) (by omega)
    by_cases e2 : r.2.1 = n
    · rw [if_pos e2]
      refine ⟨1, (w.1, (w.2.1, (w.2.2.1, (w.2.2.2.1, (w.2.2.2.2.1, (upd (M_clauses v) f (x2 + 1), w.2.2.2.2.2)))))), z_bq e ((if_neg n10).trans ((hz1 _).trans ?_)), hF', fun _ => ⟨rfl, ?_, RM_mono hR' (by omega)⟩, fun p hp => o_ns hp⟩
      · rw [ef]
        exact if_pos (show w.1 = M_fed v from Int32.toInt_inj.mp (by omega))
      · show (upd (M_clauses v) f (x2 + 1) f).toInt = ((C ++ [r.2.2]).length : Int)
        rw [upd_eq, hlen]
        omega
    · rw [if_neg e2]
      have n1 : ¬ w.1 = M_fed v := fun q => by rw [q] at hp; omega
      by_cases e3 : k = 0
      · rw [if_pos e3]
        refine ⟨0, (w.1, (w.2.1, (w.2.2.1, (w.2.2.2.1, (w.2.2.2.2.1, (upd (M_clauses v) f (x2 + 1), w.2.2.2.2.2)))))), z_bq e ((if_neg n10).trans ((hz1 _).trans ((if_neg n1).trans ?_))), hF', fun h => o_sn h, fun p hp' => ⟨rfl, ?_⟩⟩
        · rw [ef]
          exact if_pos (show x2 + 1 = 10 from Int32.toInt_inj.mp (by simp only [Int32.reduceToInt]; omega))
        · rw [← Option.some.inj hp']
          exact hp
      · rw [if_neg e3]
        have n2 : ¬ x2 + 1 = 10 := fun q => by rw [q] at hx21; simp only [Int32.reduceToInt] at hx21; omega
        have T2 : TM (M_putm_goesText (w.1, (w.2.1, (w.2.2.1, (w.2.2.2.1, (w.2.2.2.2.1, (upd (M_clauses v) f (x2 + 1), w.2.2.2.2.2)))))) v) n c := T
        by_cases e4 : c r.2.1 = 59
        · rw [if_pos e4]
          have hw1 := z_one w.1 (by omega) (by omega)
          obtain ⟨k', hk', IH⟩ := ih.resolve_left e3
          subst hk'
          obtain ⟨x', w', i1, i2, i3, i4⟩ := IH N (x2 + 1) (M_putm_goesText (w.1 + 1, (w.2.1, (w.2.2.1, (w.2.2.2.1, (w.2.2.2.2.1, (upd (M_clauses v) f (x2 + 1), w.2.2.2.2.2)))))) v) (r.2.1 + 1) (b + r.2.2.2.2.2.length) (C ++ [r.2.2]) (by omega) (by rw [hlen]; omega) (by rw [hlen]; omega) T hL (by show (w.1 + 1).toInt = _; omega) (c_lt hc (by omega)) g5 (by omega) hR' hF'
          refine ⟨x', w', z_bq e ((if_neg n10).trans ((hz1 _).trans ((if_neg n1).trans ((if_neg n2).trans ?_)))), i2, fun h => ?_, i4⟩
          · rw [ef]
            exact z_bq (m_sgY T2 hp (x := 59) (e4.trans (by decide))) ((if_neg n10).trans i1)
          · obtain ⟨j1, j2, j3⟩ := i3 h
            rw [← List.append_cons] at j2 j3
            exact ⟨j1, j2, j3⟩
        · rw [if_neg e4]
          refine ⟨0, (w.1, (w.2.1, (w.2.2.1, (w.2.2.2.1, (w.2.2.2.2.1, (upd (M_clauses v) f (x2 + 1), w.2.2.2.2.2)))))), z_bq e ((if_neg n10).trans ((hz1 _).trans ((if_neg n1).trans ((if_neg n2).trans ?_)))), hF', fun h => o_sn h, fun p hp' => ⟨rfl, ?_⟩⟩
          · rw [ef]
            exact z_bq (m_sgN T2 hp (x := 59) (fun q => e4 (q.trans (by decide)))) (if_pos rfl)
          · rw [← Option.some.inj hp']
            exact hp
  · rw [if_neg (by rw [d1]; decide)]
    refine ⟨0, (w.1, (w.2.1, (w.2.2.1, (w.2.2.2.1, (w.2.2.2.2.1, (M_clauses v, w.2.2.2.2.2)))))), z_bq e (if_pos rfl), zFr_c hF hcf (by omega) hb.1 (fun _ _ => rfl), fun h => o_sn h, fun p hp' => ⟨rfl, ?_⟩⟩
    rw [← Option.some.inj hp']
    exact hp
theorem m_goesL {c : Nat → Int} {n f : Nat} {x1 : Int32} {v0 : SM} (hx1 : x1.toInt = f) (hf : f ≤ 4) : ∀ k, MG c n f x1 v0 k
  | 0 => m_goes1 hx1 hf (Or.inl rfl)
  | k + 1 => m_goes1 hx1 hf (Or.inr ⟨k, rfl, m_goesL hx1 hf k⟩)
theorem m_goes {c : Nat → Int} {n f : Nat} {x1 : Int32} {v : SM} (hx1 : x1.toInt = f) (hf : f ≤ 4) (T : TM v n c) (hL : Ql_low v) : ∃ (x : Int32) (w : ZY), mM_goesText x1 v = some (x, w) ∧ zFy v f w ∧ ((spG c n 10 0).1 = none → x = 1 ∧ (w.2.2.2.2.2.1 f).toInt = (spG c n 10 0).2.length ∧ RM f (100 * f + 100) (spG c n 10 0).2 w.2.2.2.2.2.2.1 w.2.2.2.2.2.2.2.1 w.2.2.2.2.2.2.2.2.1 w.2.2.2.2.2.2.2.2.2.1 w.2.2.2.2.2.2.2.2.2.2.1 w.2.2.2.2.2.2.2.2.2.2.2.1) ∧ ∀ p, (spG c n 10 0).1 = some p → x = 0 ∧ w.1.toInt = (p : Int) := by
  have e100 : ((100 : Int32) * x1).toInt = ((100 * f : Nat) : Int) := by
    rw [z_mulI (by simp only [Int32.reduceToInt]; omega) (by simp only [Int32.reduceToInt]; omega)]
    simp only [Int32.reduceToInt]
    omega
  exact m_goesL (c := c) (n := n) (v0 := v) hx1 hf 9 256 0 (M_putm_goesText ((0 : Int32), (M_digits v, ((100 : Int32) * x1, (M_waiting v, (M_open v, (M_clauses v, (M_word v, (M_spot v, (M_number v, (M_from v, (M_to v, (M_sign v, M_waits v)))))))))))) v) 0 (100 * f) [] (by omega) rfl rfl T hL rfl (Nat.zero_le _) e100 ⟨Nat.le_refl _, Nat.le_refl _⟩ (fun i hi => absurd hi (Nat.not_lt_zero _)) ⟨fun _ _ => rfl, fun _ _ => ⟨rfl, rfl, rfl, rfl, rfl⟩, fun _ _ => rfl⟩
