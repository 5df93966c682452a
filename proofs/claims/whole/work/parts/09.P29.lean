/-! 09.P29: the E of the reference, whole -/
theorem m_test {n f b : Nat} {c : Nat → Int} {x1 : Int32} {F0 T0 G0 : Nat → Int32} {v : SM} {a : Nat} {S W : List Int32} (h : MS n f b c x1 F0 T0 G0 v a S W) : ((spTest c a).1 = false → ∃ p d : Int32, mM_takesTest v = some (0, (p, (d, (M_signs v, (M_waiting v, (M_open v, M_sign v)))))) ∧ p.toInt = (spTest c a).2.1) ∧ ((spTest c a).1 = true → ∃ (p d s w o : Int32) (g : Nat → Int32), mM_takesTest v = some (1, (p, (d, (s, (w, (o, g)))))) ∧ p.toInt = (spTest c a).2.1 ∧ MB b G0 (M_put_signs_waiting_open_sign (s, (w, (o, g))) v) (S ++ (spTest c a).2.2.map zsg ++ (zhl W).1) (zhl W).2) := by
  obtain ⟨hT, ha, hB, ⟨b1, b2, b3, b4⟩, hF, hTo⟩ := h
  obtain ⟨e1, e2, e3, e4, e5, e6⟩ := id hB
  have h100 := hT.2.1
  have hx := z_one (M_at v) (by omega) (by omega)
  have TT : ∀ p, TM (M_put_at_digits_signs_waiting_open_sign p v) n c := fun _ => hT
  obtain ⟨r, r1, r2⟩ := m_next hT ha
  have hpl := m_place r
  rw [r2] at hpl
  have hp := plc_rg (c a)
  unfold spTest
  by_cases h1 : plc (c a) < 0
  · rw [if_pos h1]
    refine ⟨fun _ => ⟨M_at v, M_digits v, ?_, ha⟩, fun q => Bool.noConfusion q⟩
    unfold mM_takesTest
    refine z_bq r1 ?_
    rw [if_neg (by rw [Int32.le_iff_toInt_le, hpl]; simp only [Int32.reduceToInt]; omega)]
  · rw [if_neg h1]
    have hn : a < n := c_lt hT.2.2.2 (fun e => h1 (by rw [e]; decide))
    have p1 : (0 : Int32) ≤ mM_place r := by rw [Int32.le_iff_toInt_le, hpl]; simp only [Int32.reduceToInt]; omega
    obtain ⟨r', s1, s2⟩ := m_next (TT (M_at v + 1, (M_digits v, (M_signs v, (M_waiting v, (M_open v, M_sign v)))))) (a := a + 1) (by show (M_at v + 1).toInt = _; omega)
    by_cases h2 : c (a + 1) < 60 ∨ 62 < c (a + 1)
    · rw [if_pos h2]
      refine ⟨fun _ => ⟨M_at v + 1, M_digits v, ?_, by show (M_at v + 1).toInt = ((a + 1 : Nat) : Int); omega⟩, fun q => Bool.noConfusion q⟩
      unfold mM_takesTest
      refine z_bq r1 ?_
      rw [if_pos p1]
      refine z_bq s1 ?_
      rw [if_pos (by rw [z_in0, s2]; simp only [Int32.reduceToInt]; omega)]
    · rw [if_neg h2]
      have p2 : ¬ mM_in r' 60 62 = 0 := by rw [z_in0, s2]; simp only [Int32.reduceToInt]; omega
      have hn2 : a + 1 < n := c_lt hT.2.2.2 (fun e => h2 (by rw [e]; decide))
      have hx2 := z_one (M_at v + 1) (by omega) (by omega)
      obtain ⟨w1, w2⟩ := m_number (TT (M_at v + 1 + 1, (M_digits v, (M_signs v, (M_waiting v, (M_open v, M_sign v)))))) (a := a + 2) (by show (M_at v + 1 + 1).toInt = _; omega) (by omega)
      cases hq : spNum c (a + 2) with
      | none =>
        refine ⟨fun _ => ⟨M_at v + 1 + 1, M_digits v, ?_, by show (M_at v + 1 + 1).toInt = ((a + 2 : Nat) : Int); omega⟩, fun q => Bool.noConfusion q⟩
        unfold mM_takesTest
        refine z_bq r1 ?_
        rw [if_pos p1]
        refine z_bq s1 ?_
        rw [if_neg p2]
        refine z_bq (w1 hq) ?_
        rw [if_pos rfl]
        rfl
      | some t =>
        obtain ⟨d, b'⟩ := t
        obtain ⟨g1, g2, g3, g4⟩ := spNum_rg hT.2.2.2 hq
        obtain ⟨p, q, f1, f2, f3⟩ := w2 d b' hq
        obtain ⟨X, hX⟩ : ∃ X : Int32, X = 1000 * mM_place r + 100 * (r' - 60) + q := ⟨_, rfl⟩
        have eX : X = zsg (Int32.ofInt (3 + 300 * plc (c a) + 100 * (c (a + 1) - 60) + d)) := by
          have s2' : r'.toInt = c (a + 1) := s2
          have eo := ofInt_rg (x := 3 + 300 * plc (c a) + 100 * (c (a + 1) - 60) + d) (by omega) (by omega)
          have k0 : (r' - 60).toInt = c (a + 1) - 60 := by rw [z_subI (by rw [s2']; simp only [Int32.reduceToInt]; omega) (by rw [s2']; simp only [Int32.reduceToInt]; omega), s2']; simp only [Int32.reduceToInt]
          have k1 : (1000 * mM_place r).toInt = 1000 * plc (c a) := by rw [z_mulI (by rw [hpl]; simp only [Int32.reduceToInt]; omega) (by rw [hpl]; simp only [Int32.reduceToInt]; omega), hpl]; simp only [Int32.reduceToInt]
          have k2 : (100 * (r' - 60)).toInt = 100 * (c (a + 1) - 60) := by rw [z_mulI (by rw [k0]; simp only [Int32.reduceToInt]; omega) (by rw [k0]; simp only [Int32.reduceToInt]; omega), k0]; simp only [Int32.reduceToInt]
          have k3 : (1000 * mM_place r + 100 * (r' - 60)).toInt = 1000 * plc (c a) + 100 * (c (a + 1) - 60) := by rw [z_addI (by omega) (by omega), k1, k2]
          rw [← Int32.toInt_inj, hX, sg_t ⟨by rw [eo]; omega, by rw [eo]; omega⟩, z_addI (by omega) (by omega), k3, eo, f3]
          omega
        have H' : MB b G0 (M_put_at_digits_signs_waiting_open_sign (p, (q, (M_signs v + 1, (M_waiting v, (M_open v, upd (M_sign v) (b + S.length) X))))) v) (S ++ [X]) W := by
          refine ⟨?_, zst_upd e2 _, e3, e4, e5, fun k hk => (upd_ne _ _ (by omega)).trans (e6 k hk)⟩
          show (M_signs v + 1).toInt = _
          rw [z_one _ (by omega) (by omega), e1, List.length_append, List.length_singleton]
          omega
        obtain ⟨s', w', o', g', i1, i2⟩ := m_whole W 256 _ (S ++ [X]) (by omega) (by rw [List.length_append, List.length_singleton]; omega) (by omega) H'
        refine ⟨fun q => Bool.noConfusion q, fun _ => ⟨p, q, s', w', o', g', ?_, f2, ?_⟩⟩
        · unfold mM_takesTest
          refine z_bq r1 ?_
          rw [if_pos p1]
          refine z_bq s1 ?_
          rw [if_neg p2]
          refine z_bq f1 ?_
          rw [if_neg (show ¬ (1 : Int32) = 0 by decide)]
          refine z_bq (m_emit (v := M_put_at_digits_signs_waiting_open_sign (p, (q, (M_signs v, (M_waiting v, (M_open v, M_sign v))))) v) (K := b + S.length) e1 (by omega) _) ?_
          rw [hX] at i1
          exact z_bq i1 rfl
        · rw [eX] at i2
          exact i2
theorem e_test {n f b : Nat} {c : Nat → Int} {x1 : Int32} {F0 T0 G0 : Nat → Int32} {v : SM} {a : Nat} {S W : List Int32} (h : MS n f b c x1 F0 T0 G0 v a S W) (h1 : ¬ c a = 40) (h2 : ¬ c a = 33) (N : Nat) : ((spTest c a).1 = false → MFl b x1 F0 T0 G0 (mM_takesE_L22 x1 (N + 1) 1 v) (spTest c a).2.1) ∧ ((spTest c a).1 = true → ∃ v', mM_takesE_L22 x1 (N + 1) 1 v = mM_takesE_L22 x1 N 0 v' ∧ MS n f b c x1 F0 T0 G0 v' (spTest c a).2.1 (S ++ (spTest c a).2.2.map zsg ++ (zhl W).1) (zhl W).2) := by
  obtain ⟨t1, t2⟩ := m_test h
  obtain ⟨hT, ha, hB, ⟨b1, b2, b3, b4⟩, hF, hTo⟩ := h
  obtain ⟨e1, e2, e3, e4, e5, e6⟩ := id hB
  obtain ⟨r, r1, r2⟩ := m_next hT ha
  have n33 : ¬ r = 33 := fun e => h2 (by rw [← r2, e]; decide)
  have n40 : ¬ r = 40 := fun e => h1 (by rw [← r2, e]; decide)
  constructor
  · intro q
    obtain ⟨p, d, i1, i2⟩ := t1 q
    refine ⟨(p, (d, (M_signs v, (M_waiting v, (M_open v, (M_from v, (M_to v, (M_sign v, M_waits v)))))))), ?_, i2, hF, hTo, e6⟩
    rw [mM_takesE_L22]
    refine z_bq r1 ?_
    rw [if_neg (show ¬ (1 : Int32) = 0 by decide), if_neg n33, if_neg n40]
    refine z_bq i1 ?_
    rw [if_pos rfl]
  · intro q
    obtain ⟨p, d, s, w, o, g, i1, i2, i3⟩ := t2 q
    obtain ⟨g1, ⟨g2, g3⟩, g4⟩ := spTest_gd hT.2.2.2 a q
    have hl := zhl_len W
    refine ⟨M_put_at_digits_signs_waiting_open_from_to_sign_waits (p, (d, (s, (w, (o, (M_from v, (M_to v, (g, M_waits v)))))))) v, ?_, hT, i2, i3, ⟨g3, b2, b3, ?_⟩, hF, hTo⟩
    · rw [mM_takesE_L22]
      refine z_bq r1 ?_
      rw [if_neg (show ¬ (1 : Int32) = 0 by decide), if_neg n33, if_neg n40]
      refine z_bq i1 ?_
      rw [if_neg (show ¬ (1 : Int32) = 0 by decide)]
    · rw [List.length_append, List.length_append, List.length_map]
      omega
/-- goes on as r says -/
def GO (n b : Nat) (x1 : Int32) (F0 T0 G0 : Nat → Int32) (o : Option (Int32 × ZT)) (r : ZP) (post : SM → Prop) : Prop := (r.1 = false → MFl b x1 F0 T0 G0 o r.2.1) ∧ (r.1 = true → ∃ (N' : Nat) (v' : SM), n + 1 ≤ N' + r.2.1 ∧ o = mM_takesE_L22 x1 N' 0 v' ∧ post v')
def HF (n f b : Nat) (c : Nat → Int) (x1 : Int32) (F0 T0 G0 : Nat → Int32) (P : Nat → ZP) (d : Nat) : Prop := ∀ (N : Nat) (v : SM) (a : Nat) (S W : List Int32), n + 1 ≤ N + a → MS n f b c x1 F0 T0 G0 v a S W → zop W + d = 4 → GO n b x1 F0 T0 G0 (mM_takesE_L22 x1 N 1 v) (P a) (fun v' => MS n f b c x1 F0 T0 G0 v' (P a).2.1 (S ++ (P a).2.2.map zsg ++ (zhl W).1) (zhl W).2)
def zng (Q : List Int32) : List Int32 := Q.map (fun x => -x)
def zhB (B : List Int32) : Prop := B = [] ∨ ∃ W, B = 40 :: W
def zh2 (B : List Int32) : Prop := B = [] ∨ ∃ x W, B = x :: W ∧ (x = 40 ∨ x = 124)
def zQs (Q : List Int32) : Prop := ∀ x ∈ Q, x = 38 ∨ x = 124
theorem zh2_B {B : List Int32} (h : zhB B) : zh2 B := by
  rcases h with h | ⟨W, h⟩
  · exact Or.inl h
  · exact Or.inr ⟨40, W, h, Or.inl rfl⟩
theorem zhl_2 {B : List Int32} (h : zh2 B) : zhl B = ([], B) := by
  rcases h with h | ⟨x, W, h, hx⟩
  · rw [h]
    rfl
  · rw [h, zhl, if_neg (by rcases hx with rfl | rfl <;> decide)]
theorem zse_2 {B : List Int32} (h : zh2 B) : zse 38 B = ([], B) := by
  rcases h with h | ⟨x, W, h, hx⟩
  · rw [h]
    rfl
  · rw [h, zse, if_neg (by rcases hx with rfl | rfl <;> decide)]
theorem zse_38 {q B : List Int32} (hq : q = [] ∨ q = [38]) (h : zh2 B) : zse 38 (q ++ B) = (zng q, B) := by
  rcases hq with rfl | rfl
  · exact zse_2 h
  · rw [List.singleton_append, zse, if_pos (Or.inl rfl), zse_2 h]
    rfl
theorem zse_124 : ∀ (Q B : List Int32), zQs Q → zhB B → zse 124 (Q ++ B) = (zng Q, B)
  | [], B, _, hB => by
    rcases hB with rfl | ⟨W, rfl⟩
    · rfl
    · rw [List.nil_append, zse, if_neg (by decide)]
      rfl
  | x :: Q, B, hQ, hB => by
    have ih := zse_124 Q B (fun y hy => hQ y (List.mem_cons_of_mem _ hy)) hB
    have hx : x = 38 ∨ (x = 124 ∧ ¬ (124 : Int32) = 38) := (hQ x (List.mem_cons_self)).imp id (fun e => ⟨e, by decide⟩)
    rw [List.cons_append, zse, if_pos hx, ih]
    rfl
theorem b_ff {x : Bool} (h : ¬ x = true) : x = false := by cases x <;> simp_all
/-- T, from behind its first F on -/
theorem h_L38 {n f b : Nat} {c : Nat → Int} {x1 : Int32} {F0 T0 G0 : Nat → Int32} {P : Nat → ZP} {d m : Nat} (hP : HF n f b c x1 F0 T0 G0 P d) (hg : zGd n m P) : ∀ (k N : Nat) (v : SM) (a : Nat) (S q B : List Int32), n ≤ k + a → n + 1 ≤ N + a → MS n f b c x1 F0 T0 G0 v a S (q ++ B) → (q = [] ∨ q = [38]) → zh2 B → zop B + d = 4 → GO n b x1 F0 T0 G0 (mM_takesE_L22 x1 N 0 v) (spL c 38 P 1 k a) (fun v' => ∃ S' q' : List Int32, MS n f b c x1 F0 T0 G0 v' (spL c 38 P 1 k a).2.1 S' (q' ++ B) ∧ (q' = [] ∨ q' = [38]) ∧ S' ++ zng q' = S ++ zng q ++ (spL c 38 P 1 k a).2.2.map zsg ∧ ¬ c (spL c 38 P 1 k a).2.1 = 38)
  | 0, N, v, a, S, q, B, hk, hN, h, hq, hB, hd => by
    have hc : c a = -1 := h.1.2.2.2 a (by omega)
    exact ⟨fun e => Bool.noConfusion e, fun _ => ⟨N, v, hN, rfl, S, q, h, hq, (List.append_nil _).symm, by show ¬ c a = 38; rw [hc]; decide⟩⟩
  | k + 1, N, v, a, S, q, B, hk, hN, h, hq, hB, hd => by
    have han : a ≤ n := h.2.2.2.1.1
    obtain ⟨N, rfl⟩ : ∃ M, N = M + 1 := ⟨N - 1, by omega⟩
    rw [spL]
    by_cases c1 : c a = 38
    · have hn : a < n := c_lt h.1.2.2.2 (by omega)
      rw [if_pos c1]
      obtain ⟨v1, j1, j2⟩ := e_op h 38 (Or.inl rfl) (c1.trans (by decide)) hn N
      rw [zse_38 hq hB] at j2
      obtain ⟨i1, i2⟩ := hP N v1 (a + 1) (S ++ zng q) (38 :: B) (by omega) j2 (by rw [zop, if_neg (by decide)]; exact hd)
      by_cases c2 : (P (a + 1)).1 = true
      · rw [if_pos c2]
        obtain ⟨N', v', k1, k2, k3⟩ := i2 c2
        rw [zhl, if_neg (by decide)] at k3
        have k4 : MS n f b c x1 F0 T0 G0 v' (P (a + 1)).2.1 (S ++ zng q ++ (P (a + 1)).2.2.map zsg ++ []) ([38] ++ B) := k3
        rw [List.append_nil] at k4
        obtain ⟨g1, g2, g4⟩ := hg (a + 1) c2
        obtain ⟨l1, l2⟩ := h_L38 hP hg k N' v' (P (a + 1)).2.1 _ [38] B (by omega) k1 k4 (Or.inr rfl) hB hd
        refine ⟨fun e => ?_, fun e => ?_⟩
        · rw [j1, k2]
          exact l1 e
        · obtain ⟨N2, v2, m1, m2, S', q', m3, m4, m5, m6⟩ := l2 e
          refine ⟨N2, v2, m1, by rw [j1, k2]; exact m2, S', q', m3, m4, ?_, m6⟩
          rw [m5]
          show _ = S ++ zng q ++ ((P (a + 1)).2.2 ++ 1 :: (spL c 38 P 1 k (P (a + 1)).2.1).2.2).map zsg
          rw [List.map_append, List.map_cons, sg_1]
          simp only [zng, List.map_cons, List.map_nil, List.append_assoc, List.cons_append, List.nil_append]
      · rw [if_neg c2]
        refine ⟨fun e => ?_, fun e => absurd e c2⟩
        rw [j1]
        exact i1 (b_ff c2)
    · rw [if_neg c1]
      exact ⟨fun e => Bool.noConfusion e, fun _ => ⟨N + 1, v, hN, rfl, S, q, h, hq, (List.append_nil _).symm, c1⟩⟩
def HT (n f b : Nat) (c : Nat → Int) (x1 : Int32) (F0 T0 G0 : Nat → Int32) (P : Nat → ZP) (d : Nat) : Prop := ∀ (N : Nat) (v : SM) (a : Nat) (S B : List Int32), n + 1 ≤ N + a → MS n f b c x1 F0 T0 G0 v a S B → zh2 B → zop B + d = 4 → GO n b x1 F0 T0 G0 (mM_takesE_L22 x1 N 1 v) (P a) (fun v' => ∃ S' q' : List Int32, MS n f b c x1 F0 T0 G0 v' (P a).2.1 S' (q' ++ B) ∧ (q' = [] ∨ q' = [38]) ∧ S' ++ zng q' = S ++ (P a).2.2.map zsg ∧ ¬ c (P a).2.1 = 38)
theorem h_R38 {n f b : Nat} {c : Nat → Int} {x1 : Int32} {F0 T0 G0 : Nat → Int32} {P : Nat → ZP} {d m : Nat} (hP : HF n f b c x1 F0 T0 G0 P d) (hg : zGd n m P) : HT n f b c x1 F0 T0 G0 (spR c 38 P 1 n) d := by
  intro N v a S B hN h hB hd
  obtain ⟨i1, i2⟩ := hP N v a S B hN h hd
  unfold spR
  by_cases c2 : (P a).1 = true
  · rw [if_pos c2]
    obtain ⟨N', v', k1, k2, k3⟩ := i2 c2
    rw [zhl_2 hB] at k3
    have k4 : MS n f b c x1 F0 T0 G0 v' (P a).2.1 (S ++ (P a).2.2.map zsg ++ []) ([] ++ B) := k3
    rw [List.append_nil] at k4
    obtain ⟨l1, l2⟩ := h_L38 hP hg n N' v' (P a).2.1 _ [] B (by omega) k1 k4 (Or.inl rfl) hB hd
    refine ⟨fun e => ?_, fun e => ?_⟩
    · rw [k2]
      exact l1 e
    · obtain ⟨N2, v2, m1, m2, S', q', m3, m4, m5, m6⟩ := l2 e
      refine ⟨N2, v2, m1, by rw [k2]; exact m2, S', q', m3, m4, ?_, m6⟩
      rw [m5]
      show _ = S ++ ((P a).2.2 ++ (spL c 38 P 1 n (P a).2.1).2.2).map zsg
      simp only [zng, List.map_nil, List.map_append, List.append_assoc, List.nil_append]
  · rw [if_neg c2]
    exact ⟨fun e => i1 (b_ff c2), fun e => absurd e c2⟩
/-- E, from behind its first T on -/
theorem h_L124 {n f b : Nat} {c : Nat → Int} {x1 : Int32} {F0 T0 G0 : Nat → Int32} {P : Nat → ZP} {d m : Nat} (hP : HT n f b c x1 F0 T0 G0 P d) (hg : zGd n m P) : ∀ (k N : Nat) (v : SM) (a : Nat) (S Q B : List Int32), n ≤ k + a → n + 1 ≤ N + a → MS n f b c x1 F0 T0 G0 v a S (Q ++ B) → zQs Q → zhB B → zop B + d = 4 → ¬ c a = 38 → GO n b x1 F0 T0 G0 (mM_takesE_L22 x1 N 0 v) (spL c 124 P 2 k a) (fun v' => ∃ S' Q' : List Int32, MS n f b c x1 F0 T0 G0 v' (spL c 124 P 2 k a).2.1 S' (Q' ++ B) ∧ zQs Q' ∧ S' ++ zng Q' = S ++ zng Q ++ (spL c 124 P 2 k a).2.2.map zsg ∧ ¬ c (spL c 124 P 2 k a).2.1 = 38 ∧ ¬ c (spL c 124 P 2 k a).2.1 = 124)
  | 0, N, v, a, S, Q, B, hk, hN, h, hQ, hB, hd, h38 => by
    have hc : c a = -1 := h.1.2.2.2 a (by omega)
    exact ⟨fun e => Bool.noConfusion e, fun _ => ⟨N, v, hN, rfl, S, Q, h, hQ, (List.append_nil _).symm, h38, by show ¬ c a = 124; rw [hc]; decide⟩⟩
  | k + 1, N, v, a, S, Q, B, hk, hN, h, hQ, hB, hd, h38 => by
    have han : a ≤ n := h.2.2.2.1.1
    obtain ⟨N, rfl⟩ : ∃ M, N = M + 1 := ⟨N - 1, by omega⟩
    rw [spL]
    by_cases c1 : c a = 124
    · have hn : a < n := c_lt h.1.2.2.2 (by omega)
      rw [if_pos c1]
      obtain ⟨v1, j1, j2⟩ := e_op h 124 (Or.inr rfl) (c1.trans (by decide)) hn N
      rw [zse_124 Q B hQ hB] at j2
      obtain ⟨i1, i2⟩ := hP N v1 (a + 1) (S ++ zng Q) (124 :: B) (by omega) j2 (Or.inr ⟨124, B, rfl, Or.inr rfl⟩) (by rw [zop, if_neg (by decide)]; exact hd)
      by_cases c2 : (P (a + 1)).1 = true
      · rw [if_pos c2]
        obtain ⟨N', v', k1, k2, S2, q2, k3, k5, k6, k7⟩ := i2 c2
        have k4 : MS n f b c x1 F0 T0 G0 v' (P (a + 1)).2.1 S2 ((q2 ++ [124]) ++ B) := by rw [List.append_assoc]; exact k3
        have hQ2 : zQs (q2 ++ [124]) := by
          intro x hx
          rcases List.mem_append.mp hx with hx | hx
          · rcases k5 with rfl | rfl
            · exact absurd hx (List.not_mem_nil)
            · exact Or.inl (List.mem_singleton.mp hx)
          · exact Or.inr (List.mem_singleton.mp hx)
        obtain ⟨g1, g2, g4⟩ := hg (a + 1) c2
        obtain ⟨l1, l2⟩ := h_L124 hP hg k N' v' (P (a + 1)).2.1 S2 (q2 ++ [124]) B (by omega) k1 k4 hQ2 hB hd k7
        refine ⟨fun e => ?_, fun e => ?_⟩
        · rw [j1, k2]
          exact l1 e
        · obtain ⟨N2, v2, m1, m2, S', q', m3, m4, m5, m6, m7⟩ := l2 e
          refine ⟨N2, v2, m1, by rw [j1, k2]; exact m2, S', q', m3, m4, ?_, m6, m7⟩
          have e2 : S2 ++ zng (q2 ++ [124]) = S2 ++ zng q2 ++ [-124] := by
            simp only [zng, List.map_append, List.map_cons, List.map_nil, List.append_assoc]
          rw [m5, e2, k6]
          show _ = S ++ zng Q ++ ((P (a + 1)).2.2 ++ 2 :: (spL c 124 P 2 k (P (a + 1)).2.1).2.2).map zsg
          rw [List.map_append, List.map_cons, sg_2]
          simp only [List.append_assoc, List.cons_append, List.nil_append]
      · rw [if_neg c2]
        refine ⟨fun e => ?_, fun e => absurd e c2⟩
        rw [j1]
        exact i1 (b_ff c2)
    · rw [if_neg c1]
      exact ⟨fun e => Bool.noConfusion e, fun _ => ⟨N + 1, v, hN, rfl, S, Q, h, hQ, (List.append_nil _).symm, h38, c1⟩⟩
theorem h_E {n f b : Nat} {c : Nat → Int} {x1 : Int32} {F0 T0 G0 : Nat → Int32} {P : Nat → ZP} {d m : Nat} (hP : HF n f b c x1 F0 T0 G0 P d) (hg : zGd n m P) : ∀ (N : Nat) (v : SM) (a : Nat) (S B : List Int32), n + 1 ≤ N + a → MS n f b c x1 F0 T0 G0 v a S B → zhB B → zop B + d = 4 → GO n b x1 F0 T0 G0 (mM_takesE_L22 x1 N 1 v) (spE c n P a) (fun v' => ∃ S' Q' : List Int32, MS n f b c x1 F0 T0 G0 v' (spE c n P a).2.1 S' (Q' ++ B) ∧ zQs Q' ∧ S' ++ zng Q' = S ++ (spE c n P a).2.2.map zsg ∧ ¬ c (spE c n P a).2.1 = 38 ∧ ¬ c (spE c n P a).2.1 = 124) := by
  intro N v a S B hN h hB hd
  have hT := h_R38 hP hg
  have gT : zGd n (m + 1) (spR c 38 P 1 n) := spR_gd hg (Or.inl rfl) n
  obtain ⟨i1, i2⟩ := hT N v a S B hN h (zh2_B hB) hd
  unfold spE
  generalize spR c 38 P 1 n = P2 at *
  unfold spR
  by_cases c2 : (P2 a).1 = true
  · rw [if_pos c2]
    obtain ⟨N', v', k1, k2, S2, q2, k3, k5, k6, k7⟩ := i2 c2
    have hQ2 : zQs q2 := by
      intro x hx
      rcases k5 with rfl | rfl
      · exact absurd hx (List.not_mem_nil)
      · exact Or.inl (List.mem_singleton.mp hx)
    obtain ⟨l1, l2⟩ := h_L124 hT gT n N' v' (P2 a).2.1 S2 q2 B (by omega) k1 k3 hQ2 hB hd k7
    refine ⟨fun e => ?_, fun e => ?_⟩
    · rw [k2]
      exact l1 e
    · obtain ⟨N2, v2, m1, m2, S', q', m3, m4, m5, m6, m7⟩ := l2 e
      refine ⟨N2, v2, m1, by rw [k2]; exact m2, S', q', m3, m4, ?_, m6, m7⟩
      rw [m5, k6]
      show _ = S ++ ((P2 a).2.2 ++ (spL c 124 P2 2 n (P2 a).2.1).2.2).map zsg
      simp only [List.map_append, List.append_assoc]
  · rw [if_neg c2]
    exact ⟨fun e => i1 (b_ff c2), fun e => absurd e c2⟩
theorem h_F {n f b : Nat} {c : Nat → Int} {x1 : Int32} {F0 T0 G0 : Nat → Int32} (hX : 0 ≤ x1.toInt ∧ x1.toInt < 50) (hc : ∀ k, n ≤ k → c k = -1) : ∀ d, HF n f b c x1 F0 T0 G0 (spF c n d) d
  | 0 => by
    intro N v a S W hN h hd
    have han : a ≤ n := h.2.2.2.1.1
    obtain ⟨N, rfl⟩ : ∃ M, N = M + 1 := ⟨N - 1, by omega⟩
    rw [spF]
    by_cases c1 : c a = 40 ∨ c a = 33
    · rw [if_pos c1]
      exact ⟨fun _ => e_in4 h (by omega) N hd, fun e => Bool.noConfusion e⟩
    · rw [if_neg c1]
      obtain ⟨t1, t2⟩ := e_test h (by omega) (by omega) N
      refine ⟨t1, fun e => ?_⟩
      obtain ⟨v', j1, j2⟩ := t2 e
      have g := spTest_gd hc a e
      exact ⟨N, v', by omega, j1, j2⟩
  | d + 1 => by
    intro N v a S W hN h hd
    have han : a ≤ n := h.2.2.2.1.1
    have iF : HF n f b c x1 F0 T0 G0 (spF c n d) d := h_F hX hc d
    have gF := spF_gd hc d
    obtain ⟨N, rfl⟩ : ∃ M, N = M + 1 := ⟨N - 1, by omega⟩
    rw [spF]
    by_cases c1 : c a = 40
    · have hn : a < n := c_lt hc (by omega)
      rw [if_pos c1]
      obtain ⟨v1, j1, j2⟩ := e_in h 40 (Or.inr rfl) (c1.trans (by decide)) hn N (by omega)
      obtain ⟨i1, i2⟩ := h_E iF gF N v1 (a + 1) S (40 :: W) (by omega) j2 (Or.inr ⟨W, rfl⟩) (by rw [zop, if_pos (Or.inr rfl)]; omega)
      unfold spBr
      generalize spE c n (spF c n d) (a + 1) = r at *
      by_cases c2 : r.1 = true
      · rw [if_pos c2]
        obtain ⟨N', v', k1, k2, S', Q', k3, k4, k5, k6, k7⟩ := i2 c2
        have hz := zse_124 Q' (40 :: W) k4 (Or.inr ⟨W, rfl⟩)
        have hr : r.2.1 ≤ n := k3.2.2.2.1.1
        obtain ⟨N', rfl⟩ : ∃ M, N' = M + 1 := ⟨N' - 1, by omega⟩
        by_cases c3 : c r.2.1 = 41
        · rw [if_pos c3]
          obtain ⟨v2, m1, m2⟩ := e_close k3 hX (W' := W) (by rw [hz]) c3 (c_lt hc (by omega)) N'
          rw [hz] at m2
          refine ⟨fun e => Bool.noConfusion e, fun _ => ⟨N', v2, by show n + 1 ≤ N' + (r.2.1 + 1); omega, by rw [j1, k2]; exact m1, ?_⟩⟩
          have m3 : MS n f b c x1 F0 T0 G0 v2 (r.2.1 + 1) (S' ++ zng Q' ++ (zhl W).1) (zhl W).2 := m2
          rw [k5] at m3
          exact m3
        · rw [if_neg c3]
          refine ⟨fun _ => ?_, fun e => Bool.noConfusion e⟩
          rw [j1, k2]
          exact e_bad k3 hX k6 k7 (by rw [hz]) c3 N'
      · rw [if_neg c2]
        refine ⟨fun e => ?_, fun e => absurd e c2⟩
        rw [j1]
        exact i1 (b_ff c2)
    · rw [if_neg c1]
      by_cases c2 : c a = 33
      · have hn : a < n := c_lt hc (by omega)
        rw [if_pos c2]
        obtain ⟨v1, j1, j2⟩ := e_in h 33 (Or.inl rfl) (c2.trans (by decide)) hn N (by omega)
        obtain ⟨i1, i2⟩ := iF N v1 (a + 1) S (33 :: W) (by omega) j2 (by rw [zop, if_pos (Or.inl rfl)]; omega)
        unfold spNo
        generalize spF c n d (a + 1) = r at *
        by_cases c3 : r.1 = true
        · rw [if_pos c3]
          obtain ⟨N', v', k1, k2, k3⟩ := i2 c3
          refine ⟨fun e => Bool.noConfusion e, fun _ => ⟨N', v', k1, by rw [j1]; exact k2, ?_⟩⟩
          rw [zhl, if_pos rfl] at k3
          have e2 : S ++ (r.2.2 ++ [0]).map zsg ++ (zhl W).1 = S ++ r.2.2.map zsg ++ (-33 :: (zhl W).1) := by
            simp only [List.map_append, List.map_cons, List.map_nil, sg_0, List.append_assoc, List.cons_append, List.nil_append]
          show MS n f b c x1 F0 T0 G0 v' r.2.1 (S ++ (r.2.2 ++ [0]).map zsg ++ (zhl W).1) (zhl W).2
          rw [e2]
          exact k3
        · rw [if_neg c3]
          refine ⟨fun e => ?_, fun e => absurd e c3⟩
          rw [j1]
          exact i1 (b_ff c3)
      · rw [if_neg c2]
        obtain ⟨t1, t2⟩ := e_test h c1 c2 N
        refine ⟨t1, fun e => ?_⟩
        obtain ⟨v', j1, j2⟩ := t2 e
        have g := spTest_gd hc a e
        exact ⟨N, v', by omega, j1, j2⟩
theorem m_takesE {n f b : Nat} {c : Nat → Int} {x1 : Int32} {v : SM} {a : Nat} (hX : 0 ≤ x1.toInt ∧ x1.toInt < 50) (hT : TM v n c) (ha : (M_at v).toInt = a) (han : a ≤ n) (hf : f ≤ 4) (hs : (M_signs v).toInt = b) (hb : 100 * f ≤ b ∧ b ≤ 100 * f + a) : ((spTop c n a).1 = false → MFl b x1 (upd (M_from v) x1.toInt.toNat (M_signs v)) (M_to v) (M_sign v) (mM_takesE x1 v) (spTop c n a).2.1) ∧ ((spTop c n a).1 = true → ∃ w : ZT, mM_takesE x1 v = some (1, w) ∧ w.1.toInt = (spTop c n a).2.1 ∧ zfr b x1 (upd (M_from v) x1.toInt.toNat (M_signs v)) (M_to v) (M_sign v) w ∧ w.2.2.1.toInt = ((b + (spTop c n a).2.2.length : Nat) : Int) ∧ w.2.2.2.2.2.2.1 x1.toInt.toNat = w.2.2.1 ∧ zst w.2.2.2.2.2.2.2.1 b ((spTop c n a).2.2.map zsg)) := by
  have hc := hT.2.2.2
  have h100 := hT.2.1
  have hM : MS n f b c x1 (upd (M_from v) x1.toInt.toNat (M_signs v)) (M_to v) (M_sign v) (M_put_at_digits_signs_waiting_open_from_to_sign_waits (M_at v, (M_digits v, (M_signs v, (0, (0, (upd (M_from v) x1.toInt.toNat (M_signs v), (M_to v, (M_sign v, M_waits v)))))))) v) a [] [] := ⟨hT, ha, ⟨hs, fun k hk => absurd hk (Nat.not_lt_zero k), rfl, fun k hk => absurd hk (Nat.not_lt_zero k), rfl, fun _ _ => rfl⟩, ⟨han, hf, hb.1, hb.2⟩, rfl, fun _ _ => rfl⟩
  obtain ⟨i1, i2⟩ := h_E (h_F hX hc 4) (spF_gd hc 4) 256 _ a [] [] (by omega) hM (Or.inl rfl) rfl
  have e0 : mM_takesE x1 v = mM_takesE_L22 x1 256 1 (M_put_at_digits_signs_waiting_open_from_to_sign_waits (M_at v, (M_digits v, (M_signs v, (0, (0, (upd (M_from v) x1.toInt.toNat (M_signs v), (M_to v, (M_sign v, M_waits v)))))))) v) := by
    unfold mM_takesE
    rw [zgi_ok _ hX.1 (by omega)]
    rfl
  rw [e0]
  refine ⟨i1, fun e => ?_⟩
  obtain ⟨N', v', k1, k2, S', Q', k3, k4, k5, k6, k7⟩ := i2 e
  have hr : (spE c n (spF c n 4) a).2.1 ≤ n := k3.2.2.2.1.1
  obtain ⟨N', rfl⟩ : ∃ M, N' = M + 1 := ⟨N' - 1, by omega⟩
  have hz := zse_124 Q' [] k4 (Or.inl rfl)
  obtain ⟨w, l1, l2, l3, l4, l5, l6⟩ := e_fin k3 hX k6 k7 (by rw [hz]) N'
  rw [hz] at l4 l6
  have l4' : w.2.2.1.toInt = ((b + (S' ++ zng Q').length : Nat) : Int) := l4
  have l6' : zst w.2.2.2.2.2.2.2.1 b (S' ++ zng Q') := l6
  rw [k5] at l4' l6'
  refine ⟨w, k2.trans l1, l2, l3, ?_, l5, l6'⟩
  rw [l4', List.nil_append, List.length_map]
  rfl
