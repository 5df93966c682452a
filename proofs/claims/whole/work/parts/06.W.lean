/-! 06.W: image, undo, act, house; by wip/whole/gen/genW.py -/
theorem zJ_two {D : va_G} {ws w1 ws' b1 b2 : va_W} {ad : Nat → Nat} {N k1 n1 k2 n2 : Nat} {Ac : Nat → Prop} (U : Nat → Prop) (hI : zInj ad N) (hf : ws.map Prod.fst = (List.range N).map ad) (hk : k1 + n1 ≤ k2) (h2 : ws' = ws.take k1 ++ (b1 ++ ((ws.drop (k1 + n1)).take (k2 - (k1 + n1)) ++ (b2 ++ ws.drop (k2 + n2))))) (hb1 : ∀ q ∈ b1, q ∈ w1) (hb2 : ∀ q ∈ b2, q ∈ w1) (hu : ∀ j q, U j → ws[j]? = some q → q ∈ w1) (hAc : ∀ q, Ac q → ∃ i, i < N ∧ ((k1 ≤ i ∧ i < k1 + n1) ∨ (k2 ≤ i ∧ i < k2 + n2) ∨ U i) ∧ q = ad i) : zJ D ws (zBw D w1) Ac ws' := by
  intro H H1 hP hB hkp
  refine zP_of (fun q hq => ?_)
  have out : ∀ (i : Nat), ws[i]? = some q → ¬ (k1 ≤ i ∧ i < k1 + n1) → ¬ (k2 ≤ i ∧ i < k2 + n2) → va_at D vwCl q H1 := by
    intro i hi hr1 hr2
    by_cases hU : U i
    · exact zP_mem hB (hu i q hU hi)
    · have hat := hP i q hi
      obtain ⟨hN, he⟩ := z_at_fst hf hi
      refine hat.kept (hkp q.1 hat.lt (fun hac => ?_))
      obtain ⟨j, hj, hr, hq1⟩ := hAc q.1 hac
      have hij := hI i j hN hj (he.symm.trans hq1)
      subst hij
      rcases hr with h | h | h
      · exact hr1 h
      · exact hr2 h
      · exact hU h
  rw [h2] at hq
  rcases List.mem_append.mp hq with h | h
  · obtain ⟨i, hi⟩ := List.getElem?_of_mem h
    rw [List.getElem?_take] at hi
    split at hi
    next hlt => exact out i hi (by omega) (by omega)
    next => cases hi
  · rcases List.mem_append.mp h with h | h
    · exact zP_mem hB (hb1 q h)
    · rcases List.mem_append.mp h with h | h
      · obtain ⟨i, hi⟩ := List.getElem?_of_mem h
        rw [List.getElem?_take] at hi
        split at hi
        next hlt =>
          rw [List.getElem?_drop] at hi
          exact out _ hi (by omega) (by omega)
        next => cases hi
      · rcases List.mem_append.mp h with h | h
        · exact zP_mem hB (hb2 q h)
        · obtain ⟨i, hi⟩ := List.getElem?_of_mem h
          rw [List.getElem?_drop] at hi
          exact out _ hi (by omega) (by omega)
/-- the world of FarVoice, whatever the three fields hold that nobody reads first -/
def zBe (D : va_G) (cA : Nat → ClassId) (ad : Nat → Nat) (u : SV) : Heap → Prop := fun H => ∃ vT vH vA : Value, va_P D vwCl (wV cA ad vT vH vA u) H
theorem rieV {p : Program} {l : Launch} {e : Env} {R : Room} {s : State} {m : MethodId} {args : Array Value} {below : List Frame} {meth : Method} {c : Code} {D : va_G} {A : Nat → Prop} {cc : ByteArray} {nL : Nat} {lv : List (Nat × Value)} {pc : Nat} {cA : Nat → ClassId} {ad : Nat → Nat} {E : zEt} {vT vH vA : Value} {own : String} {u : SV} {v r : Int32} {ty : FieldType} {β : Type} {w w' : β} {fin : β → SV} (C : zC p s m args meth c cc nL own zTS D (zTy cA) A E) (hr : meth.sig.returnType = some ty) (hn : narrow ty (.int v) = .int v) (hd : decode cc pc = .ok (.ireturn, 1)) (hm : some (v, w) = some (r, w')) (hu : u = fin w) : zG p l e R s m args below meth c nL D A (MQ below (zQi r (zBe D cA ad (fin w')) A) args s 0 0 A) (wV cA ad vT vH vA u) lv pc [.int v] := by
  obtain ⟨rfl, rfl⟩ := Prod.mk.inj (Option.some.inj hm)
  exact z_iret C hr hn hd (fun _ h => ⟨_, _, _, hu ▸ h⟩) rfl
def S_bec (p : Int32 × Int32 × Int64 × Int32 × Int32 × Int32 × (Nat → Int32)) : SS := ((p.1, (p.2.1, p.2.2.1)), ((p.2.2.2.1, p.2.2.2.2.1), (p.2.2.2.2.2.1, p.2.2.2.2.2.2)))
def V_toSSu (u : SV) : SSS := (((S_mouth (V_stage u), (S_jaw (V_stage u), S_moving (V_stage u))), ((S_letters (V_stage u), S_slips (V_stage u)), (S_house (V_stage u), S_mouth (V_image u)))), ((S_jaw (V_image u), (S_moving (V_image u), S_letters (V_image u))), ((S_slips (V_image u), S_house (V_image u)), (S_words (V_stage u), S_words (V_image u)))))
def V_toSSi (u : SV) : SSS := (((S_mouth (V_image u), (S_jaw (V_image u), S_moving (V_image u))), ((S_letters (V_image u), S_slips (V_image u)), (S_house (V_image u), S_mouth (V_stage u)))), ((S_jaw (V_stage u), (S_moving (V_stage u), S_letters (V_stage u))), ((S_slips (V_stage u), S_house (V_stage u)), (S_words (V_image u), S_words (V_stage u)))))
def adSi (ad : Nat → Nat) : Nat → Nat := fun i => if i < 2 then ad (9 + i) else ad (5 + i)
theorem zInj_Si {ad : Nat → Nat} (hI : zInj ad 80) : zInj (adSi ad) 4 := by
  intro i j hi hj hij
  unfold adSi at hij
  split at hij <;> split at hij <;> (have := hI _ _ (by omega) (by omega) hij; omega)
theorem inV_image {cA : Nat → ClassId} {ad : Nat → Nat} {vT vH vA : Value} {u : SV} : ∀ q ∈ wS cA (fun i => ad (9 + i)) (V_image u), q ∈ wV cA ad vT vH vA u := by
  intro q hq
  apply inV_16
  unfold wV16
  simp only [List.mem_append, hq, true_or, or_true]
theorem xV_270u {p : Program} {l : Launch} {e : Env} {s : State} {m : MethodId} {args : Array Value} {below : List Frame} {meth : Method} {c : Code} {Q : State → Prop} {D : va_G} {A : Nat → Prop} {cc : ByteArray} {nL : Nat} {lv : List (Nat × Value)} {pc : Nat} {st : List Value} {cA : Nat → ClassId} {ad : Nat → Nat} {tK tB : Nat} {kS vS : Nat → Nat} {vT vH vA : Value} {d : Nat} {u : SV} (hI : zInj ad 80) (C : zC p s m args meth c cc nL RX7 zTS D (zTy cA) A (zE tK tB kS vS)) (hdm : 1 + 1 ≤ d) (hA : ∀ q, zAd ad 80 q → A q) {β : Type} {f : (Int32 × Int32 × Int64 × Int32 × Int32 × Int32 × (Nat → Int32)) → Option β} {o : β} (hm : (mSS_become (V_toSSu u)).bind f = some o) (hd : decode cc pc = .ok (.invokevirtual 270, 3)) (h8 : (st.map fun v => v.category).sum ≤ 8) (g : ∀ q, f q = some o → zG p l e (zRm d) s m args below meth c nL D A Q (wV cA ad vT vH vA (V_set_stage (S_bec q) u)) lv (pc + 3) (st)) : zG p l e (zRm d) s m args below meth c nL D A Q (wV cA ad vT vH vA u) lv pc (.ref (ad 9) :: .ref (ad 7) :: st) := by
  obtain ⟨q, h1, h2⟩ := zb_some hm
  exact z_callvV C (cSS_become (ad := (fun i => ad (7 + i))) (cA := cA) (zInj_sh (k := 7) (n := 4) hI (by decide)) (V_toSSu u) h1) (cwX7_270 C.1.2.2.2.2 rfl rfl ⟨hdm, by have := hdm; simp only [zRm]; omega⟩) hd rfl rfl h8 ⟨_, rfl, rfl⟩ (List.mem_of_getElem? (heV_stage cA ad _ _ _ u)) (fun q hq => by
    have hP := List.mem_append.mp (show q ∈ wS cA (fun i => ad (7 + i)) (V_stage u) ++ wS cA (fun i => ad (9 + i)) (V_image u) from hq)
    exact hP.elim (inV_stage q) (inV_image q)) (fun q h => hA q (zAd_sh (k := 7) (n := 4) (by decide) q h)) (zJV_blk (k := 7) (n := 4) hI (by decide) rfl) (g q h2)
theorem xV_270i {p : Program} {l : Launch} {e : Env} {s : State} {m : MethodId} {args : Array Value} {below : List Frame} {meth : Method} {c : Code} {Q : State → Prop} {D : va_G} {A : Nat → Prop} {cc : ByteArray} {nL : Nat} {lv : List (Nat × Value)} {pc : Nat} {st : List Value} {cA : Nat → ClassId} {ad : Nat → Nat} {tK tB : Nat} {kS vS : Nat → Nat} {vT vH vA : Value} {d : Nat} {u : SV} (hI : zInj ad 80) (C : zC p s m args meth c cc nL RX7 zTS D (zTy cA) A (zE tK tB kS vS)) (hdm : 1 + 1 ≤ d) (hA : ∀ q, zAd ad 80 q → A q) {β : Type} {f : (Int32 × Int32 × Int64 × Int32 × Int32 × Int32 × (Nat → Int32)) → Option β} {o : β} (hm : (mSS_become (V_toSSi u)).bind f = some o) (hd : decode cc pc = .ok (.invokevirtual 270, 3)) (h8 : (st.map fun v => v.category).sum ≤ 8) (g : ∀ q, f q = some o → zG p l e (zRm d) s m args below meth c nL D A Q (wV cA ad vT vH vA (V_set_image (S_bec q) u)) lv (pc + 3) (st)) : zG p l e (zRm d) s m args below meth c nL D A Q (wV cA ad vT vH vA u) lv pc (.ref (ad 7) :: .ref (ad 9) :: st) := by
  obtain ⟨q, h1, h2⟩ := zb_some hm
  exact z_callvV C (cSS_become (ad := (adSi ad)) (cA := cA) (zInj_Si hI) (V_toSSi u) h1) (cwX7_270 C.1.2.2.2.2 rfl rfl ⟨hdm, by have := hdm; simp only [zRm]; omega⟩) hd rfl rfl h8 ⟨_, rfl, rfl⟩ (List.mem_of_getElem? (heV_image cA ad _ _ _ u)) (fun q hq => by
    have hP := List.mem_append.mp (show q ∈ wS cA (fun i => ad (9 + i)) (V_image u) ++ wS cA (fun i => ad (7 + i)) (V_stage u) from hq)
    exact hP.elim (inV_image q) (inV_stage q)) (fun q h => hA q (by
    obtain ⟨i, hi, rfl⟩ := h
    unfold adSi
    split
    · exact ⟨9 + i, by omega, rfl⟩
    · exact ⟨5 + i, by omega, rfl⟩)) (zJ_two (k1 := 7) (n1 := 4) (k2 := 11) (n2 := 0) (b1 := wS cA (fun i => ad (7 + i)) (V_stage u) ++ wS cA (fun i => ad (9 + i)) (S_bec q)) (b2 := []) (fun _ => False) (wV_I hI u) (wV_fst cA ad vT vH vA u) (by decide) rfl (fun x hx => by
    have hx := List.mem_append.mp hx
    have e : (wSS cA (adSi ad) (SS_put_mouth_jaw_moving_letters_slips_house_words q (V_toSSi u))) = wS cA (fun i => ad (9 + i)) (S_bec q) ++ wS cA (fun i => ad (7 + i)) (V_stage u) := rfl
    rw [e]
    exact List.mem_append.mpr hx.symm) (fun _ h => nomatch h) (fun _ _ h => h.elim) (by
    rintro q ⟨i, hi, rfl⟩
    unfold adSi
    split
    · exact ⟨9 + i, by omega, Or.inl (by omega), rfl⟩
    · exact ⟨5 + i, by omega, Or.inl (by omega), rfl⟩)) (g q h2)
def B_ofA (p : Int32 × (Nat → Int32)) : SB := (p.1, p.2)
def V_toA (u : SV) (a : Nat) : SA := ((B_ran (V_acting u), O_number (V_vo u a)), (O_kind (V_vo u a), (O_v (V_vo u a), B_bodies (V_acting u))))
def adA (ad : Nat → Nat) (a : Nat) : Nat → Nat := fun i => if i < 2 then ad (12 + i) else ad (70 + a)
theorem zInj_A {ad : Nat → Nat} {a : Nat} (hI : zInj ad 80) (ha : a < 10) : zInj (adA ad a) 3 := by
  intro i j hi hj hij
  unfold adA at hij
  split at hij <;> split at hij
  · have := hI _ _ (by omega) (by omega) hij; omega
  · have := hI _ _ (by omega) (by omega) hij; omega
  · have := hI _ _ (by omega) (by omega) hij; omega
  · omega
theorem wV_o_at {cA : Nat → ClassId} {ad : Nat → Nat} {vT vH vA : Value} {u : SV} {a : Nat} {q : Nat × va_E} (hq : (wV cA ad vT vH vA u)[70 + a]? = some q) : q = (ad (70 + a), .inr (6, fO_o (fun j => ad (70 + a + j)) (V_vo u a))) := by
  have h1 : (wV cA ad vT vH vA u)[70 + a]? = (wVo ad (V_vo u) (V_nv u))[a]? := by
    have e : wV cA ad vT vH vA u = (wV cA ad vT vH vA u).take 70 ++ wVo ad (V_vo u) (V_nv u) := rfl
    rw [e, List.getElem?_append_right (by rw [List.length_take]; omega)]
    congr 1
    have hl : (wV cA ad vT vH vA u).length = 70 + V_nv u := by
      have := congrArg List.length (wV_fst cA ad vT vH vA u)
      simpa using this
    rw [List.length_take, hl]
    omega
  rw [h1] at hq
  unfold wVo at hq
  rw [List.getElem?_map] at hq
  cases hr : (List.range (V_nv u))[a]? with
  | none => rw [hr] at hq; cases hq
  | some z =>
    rw [hr] at hq
    obtain ⟨hl, he⟩ := List.getElem?_eq_some_iff.mp hr
    rw [List.getElem_range] at he
    subst he
    exact (Option.some.inj hq).symm
theorem xV_280 {p : Program} {l : Launch} {e : Env} {s : State} {m : MethodId} {args : Array Value} {below : List Frame} {meth : Method} {c : Code} {Q : State → Prop} {D : va_G} {A : Nat → Prop} {cc : ByteArray} {nL : Nat} {lv : List (Nat × Value)} {pc : Nat} {st : List Value} {cA : Nat → ClassId} {ad : Nat → Nat} {tK tB : Nat} {kS vS : Nat → Nat} {vT vH vA : Value} {d : Nat} {u : SV} {a : Nat} {x2 x3 : Int32} (ha : a < V_nv u) (hI : zInj ad 80) (C : zC p s m args meth c cc nL RX7 zTS D (zTy cA) A (zE tK tB kS vS)) (hdm : 25 + 1 ≤ d) (hA : ∀ q, zAd ad 80 q → A q) {β : Type} {f : (Int32 × Int32 × (Nat → Int32)) → Option β} {o : β} (hm : (mA_run x2 x3 (V_toA u a)).bind f = some o) (hd : decode cc pc = .ok (.invokevirtual 280, 3)) (h8 : (st.map fun v => v.category).sum ≤ 8) (g : ∀ q, f q = some o → zG p l e (zRm d) s m args below meth c nL D A Q (wV cA ad vT vH (.ref (ad (70 + a))) (V_set_acting (B_ofA q.2) u)) lv (pc + 3) (.int q.1 :: st)) : zG p l e (zRm d) s m args below meth c nL D A Q (wV cA ad vT vH vA u) lv pc (.int x3 :: .int x2 :: .ref (ad (70 + a)) :: .ref (ad 12) :: st) := by
  obtain ⟨q, h1, h2⟩ := zb_some hm
  have h10 : a < 10 := Nat.lt_of_lt_of_le ha (V_nv_le u)
  have e0 : wA cA (adA ad a) vA (V_toA u a) = wB cA (fun i => ad (12 + i)) vA (V_acting u) ++ wO cA (fun i => ad (70 + a + i)) (V_vo u a) := rfl
  refine z_calliV C (cA_run (ad := adA ad a) (cA := cA) (vA := vA) (zInj_A hI h10) x2 x3 (V_toA u a) h1) (cwX7_280 C.1.2.2.2.2 rfl rfl ⟨hdm, by have := hdm; simp only [zRm]; omega⟩) hd rfl rfl h8 ⟨_, rfl, rfl⟩ (List.mem_of_getElem? (heV_acting cA ad _ _ _ u)) ?_ ?_ ?_ (g q h2)
  · intro x hx
    rw [e0] at hx
    exact (List.mem_append.mp hx).elim (inV_acting x) (inV_o ha x)
  · rintro x ⟨i, hi, rfl⟩
    refine hA _ ?_
    unfold adA
    split
    · exact ⟨12 + i, by omega, rfl⟩
    · exact ⟨70 + a, by omega, rfl⟩
  · refine zJ_two (k1 := 12) (n1 := 2) (k2 := 14) (n2 := 0) (b1 := wB cA (fun i => ad (12 + i)) (.ref (ad (70 + a))) (B_ofA q.2)) (b2 := []) (fun i => i = 70 + a) (wV_I hI u) (wV_fst cA ad vT vH vA u) (by decide) rfl ?_ (fun _ h => nomatch h) ?_ ?_
    · intro x hx
      exact List.mem_append_left _ hx
    · intro j x hj hx
      subst hj
      rw [wV_o_at hx]
      exact List.mem_of_getElem? (i := 2) rfl
    · rintro x ⟨i, hi, rfl⟩
      unfold adA
      split
      · exact ⟨12 + i, by have := V_nv_le u; omega, Or.inl (by omega), rfl⟩
      · exact ⟨70 + a, by omega, Or.inr (Or.inr rfl), rfl⟩
def H_ofR (p : Int32 × Int32 × Int32 × Int32 × Int32 × (Nat → Int32) × (Nat → Int32) × (Nat → Int32) × (Nat → Int32) × (Nat → Int32) × (Nat → Int32)) (h : SH) : SH := (((p.2.2.1, p.2.2.2.1), (p.2.2.2.2.1, p.2.2.2.2.2.1)), ((p.2.2.2.2.2.2.1, p.2.2.2.2.2.2.2.1), (p.2.2.2.2.2.2.2.2.1, (p.2.2.2.2.2.2.2.2.2.1, p.2.2.2.2.2.2.2.2.2.2))))
def V_toR (u : SV) (K : Nat) : SR := (((V_rlen u, (V_rat u, H_late (V_hs u K))), (H_clauses (V_hs u K), (H_stepCount (V_hs u K), V_text u))), ((H_sounds (V_hs u K), (H_swaps (V_hs u K), H_senses (V_hs u K))), (H_amounts (V_hs u K), (H_ends (V_hs u K), H_steps (V_hs u K)))))
def adR (ad : Nat → Nat) (K : Nat) : Nat → Nat := fun i => if i = 0 then ad 11 else if i = 1 then ad 3 else ad (16 + 7 * K + (i - 2))
theorem zInj_R {ad : Nat → Nat} {K : Nat} (hI : zInj ad 80) (hK : K < 6) : zInj (adR ad K) 9 := by
  intro i j hi hj hij
  unfold adR at hij
  split at hij
  · split at hij
    · omega
    · split at hij <;> (have := hI _ _ (by omega) (by omega) hij; omega)
  · split at hij
    · split at hij
      · have := hI _ _ (by omega) (by omega) hij; omega
      · split at hij
        · omega
        · have := hI _ _ (by omega) (by omega) hij; omega
    · split at hij
      · have := hI _ _ (by omega) (by omega) hij; omega
      · split at hij <;> (have := hI _ _ (by omega) (by omega) hij; omega)
theorem adR_in {ad : Nat → Nat} (K : Nat) (hK : K < 6) (u : SV) : ∀ q, zAd (adR ad K) 9 q → ∃ i, i < 70 + V_nv u ∧ ((11 ≤ i ∧ i < 11 + 1) ∨ (16 + 7 * K ≤ i ∧ i < 16 + 7 * K + 7) ∨ i = 3) ∧ q = ad i := by
  rintro q ⟨i, hi, rfl⟩
  unfold adR
  split
  · exact ⟨11, by omega, Or.inl (by omega), rfl⟩
  · split
    · exact ⟨3, by omega, Or.inr (Or.inr rfl), rfl⟩
    · exact ⟨16 + 7 * K + (i - 2), by omega, Or.inr (Or.inl (by omega)), rfl⟩
theorem xV_108 {p : Program} {l : Launch} {e : Env} {s : State} {m : MethodId} {args : Array Value} {below : List Frame} {meth : Method} {c : Code} {Q : State → Prop} {D : va_G} {A : Nat → Prop} {cc : ByteArray} {nL : Nat} {lv : List (Nat × Value)} {pc : Nat} {st : List Value} {cA : Nat → ClassId} {ad : Nat → Nat} {tK tB : Nat} {kS vS : Nat → Nat} {vT vH vA : Value} {d : Nat} {u : SV} {K : Nat} {x2 : Int32} (hK : K < 6) (hI : zInj ad 80) (C : zC p s m args meth c cc nL RX7 zTS D (zTy cA) A (zE tK tB kS vS)) (hdm : 158 + 1 ≤ d) (hA : ∀ q, zAd ad 80 q → A q) {β : Type} {f : (Int32 × Int32 × Int32 × Int32 × Int32 × Int32 × (Nat → Int32) × (Nat → Int32) × (Nat → Int32) × (Nat → Int32) × (Nat → Int32) × (Nat → Int32)) → Option β} {o : β} (hm : (mR_faultOf x2 (V_toR u K)).bind f = some o) (hd : decode cc pc = .ok (.invokevirtual 108, 3)) (h8 : (st.map fun v => v.category).sum ≤ 8) (g : ∀ q, f q = some o → zG p l e (zRm d) s m args below meth c nL D A Q (wV cA ad (.ref (ad 3)) (.ref (ad (16 + 7 * K))) vA (V_set_hs (va_up (V_hs u) K (H_ofR q.2 (V_hs u K))) (V_set_rat q.2.2.1 (V_set_rlen q.2.1 u)))) lv (pc + 3) (.int q.1 :: st)) : zG p l e (zRm d) s m args below meth c nL D A Q (wV cA ad vT vH vA u) lv pc (.ref (ad (16 + 7 * K)) :: .int x2 :: .ref (ad 3) :: .ref (ad 11) :: st) := by
  obtain ⟨q, h1, h2⟩ := zb_some hm
  have e0 : wR cA (adR ad K) vT vH (V_toR u K) = [(ad 11, .inr (3, [vT, .int (V_rlen u), .int (V_rat u), vH])), (ad 3, .inl (cA 3, 100, .inl (V_text u)))] ++ wVh cA ad (V_hs u) K := rfl
  refine z_calliV C (cR_faultOf (ad := adR ad K) (cA := cA) (vT := vT) (vH := vH) (zInj_R hI hK) x2 (V_toR u K) h1) (cwX7_108 C.1.2.2.2.2 rfl rfl ⟨hdm, by have := hdm; simp only [zRm]; omega⟩) hd rfl rfl h8 ⟨_, rfl, rfl⟩ (List.mem_of_getElem? (heV_reader cA ad _ _ _ u)) ?_ ?_ ?_ (g q h2)
  · intro x hx
    rw [e0] at hx
    rcases List.mem_append.mp hx with hx | hx
    · rcases List.mem_cons.mp hx with rfl | hx
      · exact List.mem_of_getElem? (heV_reader cA ad vT vH vA u)
      · rw [List.mem_singleton] at hx
        rw [hx]
        exact List.mem_of_getElem? (heV_text cA ad vT vH vA u)
    · exact inV_h hK x hx
  · intro x hx
    obtain ⟨i, hi, _, rfl⟩ := adR_in K hK u x hx
    exact hA _ ⟨i, by have := V_nv_le u; omega, rfl⟩
  · have : K = 0 ∨ K = 1 ∨ K = 2 ∨ K = 3 ∨ K = 4 ∨ K = 5 := by omega
    rcases this with rfl | rfl | rfl | rfl | rfl | rfl
    · exact zJ_two (k1 := 11) (n1 := 1) (k2 := 16) (n2 := 7) (b1 := [(ad 11, .inr (3, [.ref (ad 3), .int q.2.1, .int q.2.2.1, .ref (ad 16)]))]) (b2 := wH cA (fun i => ad (16 + i)) (H_ofR q.2 (V_hs u 0))) (fun i => i = 3) (wV_I hI u) (wV_fst cA ad vT vH vA u) (by decide) rfl (fun x hx => List.mem_append_left _ (show x ∈ [_, _] from List.mem_cons.mpr ((List.mem_cons.mp hx).imp id (fun h => nomatch h)))) (fun x hx => List.mem_append_right [_, _] hx) (fun j x hj hx => by subst hj; cases hx; exact List.mem_of_getElem? (i := 1) rfl) (adR_in 0 (by decide) u)
    · exact zJ_two (k1 := 11) (n1 := 1) (k2 := 23) (n2 := 7) (b1 := [(ad 11, .inr (3, [.ref (ad 3), .int q.2.1, .int q.2.2.1, .ref (ad 23)]))]) (b2 := wH cA (fun i => ad (23 + i)) (H_ofR q.2 (V_hs u 1))) (fun i => i = 3) (wV_I hI u) (wV_fst cA ad vT vH vA u) (by decide) rfl (fun x hx => List.mem_append_left _ (show x ∈ [_, _] from List.mem_cons.mpr ((List.mem_cons.mp hx).imp id (fun h => nomatch h)))) (fun x hx => List.mem_append_right [_, _] hx) (fun j x hj hx => by subst hj; cases hx; exact List.mem_of_getElem? (i := 1) rfl) (adR_in 1 (by decide) u)
    · exact zJ_two (k1 := 11) (n1 := 1) (k2 := 30) (n2 := 7) (b1 := [(ad 11, .inr (3, [.ref (ad 3), .int q.2.1, .int q.2.2.1, .ref (ad 30)]))]) (b2 := wH cA (fun i => ad (30 + i)) (H_ofR q.2 (V_hs u 2))) (fun i => i = 3) (wV_I hI u) (wV_fst cA ad vT vH vA u) (by decide) rfl (fun x hx => List.mem_append_left _ (show x ∈ [_, _] from List.mem_cons.mpr ((List.mem_cons.mp hx).imp id (fun h => nomatch h)))) (fun x hx => List.mem_append_right [_, _] hx) (fun j x hj hx => by subst hj; cases hx; exact List.mem_of_getElem? (i := 1) rfl) (adR_in 2 (by decide) u)
    · exact zJ_two (k1 := 11) (n1 := 1) (k2 := 37) (n2 := 7) (b1 := [(ad 11, .inr (3, [.ref (ad 3), .int q.2.1, .int q.2.2.1, .ref (ad 37)]))]) (b2 := wH cA (fun i => ad (37 + i)) (H_ofR q.2 (V_hs u 3))) (fun i => i = 3) (wV_I hI u) (wV_fst cA ad vT vH vA u) (by decide) rfl (fun x hx => List.mem_append_left _ (show x ∈ [_, _] from List.mem_cons.mpr ((List.mem_cons.mp hx).imp id (fun h => nomatch h)))) (fun x hx => List.mem_append_right [_, _] hx) (fun j x hj hx => by subst hj; cases hx; exact List.mem_of_getElem? (i := 1) rfl) (adR_in 3 (by decide) u)
    · exact zJ_two (k1 := 11) (n1 := 1) (k2 := 44) (n2 := 7) (b1 := [(ad 11, .inr (3, [.ref (ad 3), .int q.2.1, .int q.2.2.1, .ref (ad 44)]))]) (b2 := wH cA (fun i => ad (44 + i)) (H_ofR q.2 (V_hs u 4))) (fun i => i = 3) (wV_I hI u) (wV_fst cA ad vT vH vA u) (by decide) rfl (fun x hx => List.mem_append_left _ (show x ∈ [_, _] from List.mem_cons.mpr ((List.mem_cons.mp hx).imp id (fun h => nomatch h)))) (fun x hx => List.mem_append_right [_, _] hx) (fun j x hj hx => by subst hj; cases hx; exact List.mem_of_getElem? (i := 1) rfl) (adR_in 4 (by decide) u)
    · exact zJ_two (k1 := 11) (n1 := 1) (k2 := 51) (n2 := 7) (b1 := [(ad 11, .inr (3, [.ref (ad 3), .int q.2.1, .int q.2.2.1, .ref (ad 51)]))]) (b2 := wH cA (fun i => ad (51 + i)) (H_ofR q.2 (V_hs u 5))) (fun i => i = 3) (wV_I hI u) (wV_fst cA ad vT vH vA u) (by decide) rfl (fun x hx => List.mem_append_left _ (show x ∈ [_, _] from List.mem_cons.mpr ((List.mem_cons.mp hx).imp id (fun h => nomatch h)))) (fun x hx => List.mem_append_right [_, _] hx) (fun j x hj hx => by subst hj; cases hx; exact List.mem_of_getElem? (i := 1) rfl) (adR_in 5 (by decide) u)
theorem gV_X7_18_o {p : Program} {l : Launch} {e : Env} {R : Room} {s : State} {m : MethodId} {args : Array Value} {below : List Frame} {meth : Method} {c : Code} {Q : State → Prop} {D : va_G} {A : Nat → Prop} {cc : ByteArray} {nL : Nat} {lv : List (Nat × Value)} {pc : Nat} {st : List Value} {cA : Nat → ClassId} {ad : Nat → Nat} {tK tB : Nat} {kS vS : Nat → Nat} {vT vH vA : Value} {u : SV} (C : zC p s m args meth c cc nL RX7 zTS D (zTy cA) A (zE tK tB kS vS)) (hd : decode cc pc = .ok (.getfield 18, 3)) (g : zG p l e R s m args below meth c nL D A Q (wV cA ad vT vH vA u) lv (pc + 3) (.ref (ad 9) :: st)) : zG p l e R s m args below meth c nL D A Q (wV cA ad vT vH vA u) lv pc (.ref (ad 0) :: st) := by
  exact fun H locs ls hP hS hL => va_get (D := D) (ci := 7) (C := RX7) (T := TX7) (N := 16) C.1.1 C.1.2.1 C.1.2.2.2.2 inlX7 C.1.2.2.2.1 C.2.1 hP 0 (heV_o cA ad vT vH vA u) rfl 1 (by decide) (C.1.2.2.2.2 _ mfX7_18) (fun _ h9 => h9) (v := .ref (ad 9)) rfl hd (g H locs ls hP hS hL)
def V_put_imageTaken_image (p : Int32 × SS) (u : SV) : SV := ((((p.1, u.1.1.1.2), u.1.1.2), u.1.2), (((u.2.1.1.1, p.2), u.2.1.2), u.2.2))
theorem pV_X7_274_o {p : Program} {l : Launch} {e : Env} {R : Room} {s : State} {m : MethodId} {args : Array Value} {below : List Frame} {meth : Method} {c : Code} {Q : State → Prop} {D : va_G} {A : Nat → Prop} {cc : ByteArray} {nL : Nat} {lv : List (Nat × Value)} {pc : Nat} {st : List Value} {cA : Nat → ClassId} {ad : Nat → Nat} {tK tB : Nat} {kS vS : Nat → Nat} {vT vH vA : Value} {u : SV} {v : Int32} (C : zC p s m args meth c cc nL RX7 zTS D (zTy cA) A (zE tK tB kS vS)) (hI : zInj ad 80) (hA : ∀ q, zAd ad 80 q → A q) (hb : v = 0 ∨ v = 1) (hd : decode cc pc = .ok (.putfield 274, 3)) (g : zG p l e R s m args below meth c nL D A Q (wV cA ad vT vH vA (V_set_imageTaken v u)) lv (pc + 3) (st)) : zG p l e R s m args below meth c nL D A Q (wV cA ad vT vH vA u) lv pc (.int v :: .ref (ad 0) :: st) := fun H locs ls hP hS hL => va_put (D := D) (ci := 7) (C := RX7) (T := TX7) (N := 16) C.1.1 C.1.2.1 C.1.2.2.2.2 inlX7 tyX7 tyX7_ok nmX7 C.1.2.2.2.1 C.2.1 hP (zD_mono (wV_D hI cA vT vH vA u) hA) hS 0 (heV_o cA ad vT vH vA u) rfl 2 (by decide) (C.1.2.2.2.2 _ mfX7_274) (fun _ h9 => h9) rfl (ty := .boolean) (by decide +kernel) (zb_nar hb) (zb_fit hb) (Nat.le_of_ble_eq_true rfl) hd (fun H1 locs1 hP1 _ hS1 => g H1 locs1 ls hP1 hS1 hL)
def mV_image (u : SV) : Option (Int32 × Int32 × SS) :=
  (mSS_become (V_toSSi u)).bind fun q1 => (some ((S_letters (V_stage u)), ((1 : Int32), (S_bec q1))))
set_option maxRecDepth 100000 in
set_option maxHeartbeats 4000000 in
theorem cV_image {l : Launch} {D : va_G} {cA : Nat → ClassId} {ad : Nat → Nat} {tK tB : Nat} {kS vS : Nat → Nat} {vT vH vA : Value} (hI : zInj ad 80) (u : SV) {r : Int32} {w' : Int32 × SS} (hm : mV_image u = some (r, w')) : Met l yX7_image (zWs yX7_image cX7_image 1 (some .int)) (zRm 2) (va_Pc [.ref (ad 0)] (zPre D (zTy cA) (zE tK tB kS vS) (zAd ad 80) (wV cA ad vT vH vA u))) (zQi r (zBw D (wV cA ad vT vH vA (V_put_imageTaken_image w' u))) (zAd ad 80)) 0 0 (zAd ad 80) := by
  refine z_met (lv := [(0, .ref (ad 0))]) plX7 rfl rfl (Nat.le_of_ble_eq_true rfl) rfl ?_
  intro p e s m below meth c hC hr hin
  unfold mV_image at hm
  refine z_aload_n hC dX7_image_0 rfl 0 rfl ?_
  refine gV_X7_18_o hC dX7_image_1 ?_
  refine z_aload_n hC dX7_image_4 rfl 0 rfl ?_
  refine gV_X7_12_o hC dX7_image_5 ?_
  refine xV_270i hI hC (Nat.le_of_ble_eq_true rfl) (fun _ h => h) hm dX7_image_8 (Nat.le_of_ble_eq_true rfl) (fun q1 hm => ?_)
  refine zuV (u2 := (V_put_imageTaken_image ((V_imageTaken u), (S_bec q1)) u)) rfl ?_
  refine z_aload_n hC dX7_image_11 rfl 0 rfl ?_
  refine z_iconst hC dX7_image_12 kI_1 ?_
  refine pV_X7_274_o hC hI (fun _ h => h) (Or.inr rfl) dX7_image_13 ?_
  refine zuV (u2 := (V_put_imageTaken_image ((1 : Int32), (S_bec q1)) u)) rfl ?_
  refine z_aload_n hC dX7_image_16 rfl 0 rfl ?_
  refine gV_X7_12_o hC dX7_image_17 ?_
  refine gV_X7_96_stage (v := (S_letters (V_stage u))) hC dX7_image_20 rfl ?_
  exact riV (fin := fun z => V_put_imageTaken_image z u) hC hr rfl dX7_image_23 hm rfl
theorem gV_X7_274_o {p : Program} {l : Launch} {e : Env} {R : Room} {s : State} {m : MethodId} {args : Array Value} {below : List Frame} {meth : Method} {c : Code} {Q : State → Prop} {D : va_G} {A : Nat → Prop} {cc : ByteArray} {nL : Nat} {lv : List (Nat × Value)} {pc : Nat} {st : List Value} {cA : Nat → ClassId} {ad : Nat → Nat} {tK tB : Nat} {kS vS : Nat → Nat} {vT vH vA : Value} {u : SV} (C : zC p s m args meth c cc nL RX7 zTS D (zTy cA) A (zE tK tB kS vS)) (hd : decode cc pc = .ok (.getfield 274, 3)) {v : Int32} (hv : V_imageTaken u = v) (g : zG p l e R s m args below meth c nL D A Q (wV cA ad vT vH vA u) lv (pc + 3) (.int v :: st)) : zG p l e R s m args below meth c nL D A Q (wV cA ad vT vH vA u) lv pc (.ref (ad 0) :: st) := by
  subst hv
  exact fun H locs ls hP hS hL => va_get (D := D) (ci := 7) (C := RX7) (T := TX7) (N := 16) C.1.1 C.1.2.1 C.1.2.2.2.2 inlX7 C.1.2.2.2.1 C.2.1 hP 0 (heV_o cA ad vT vH vA u) rfl 2 (by decide) (C.1.2.2.2.2 _ mfX7_274) (fun _ h9 => h9) (v := .int (V_imageTaken u)) rfl hd (g H locs ls hP hS hL)
def mV_undo (u : SV) : Option (Int32 × SS) :=
  if (V_imageTaken u) = 0 then (some ((-3 : Int32), ((V_stage u)))) else ((mSS_become (V_toSSu u)).bind fun q1 => (some ((S_letters (S_bec q1)), ((S_bec q1)))))
set_option maxRecDepth 100000 in
set_option maxHeartbeats 4000000 in
theorem cV_undo {l : Launch} {D : va_G} {cA : Nat → ClassId} {ad : Nat → Nat} {tK tB : Nat} {kS vS : Nat → Nat} {vT vH vA : Value} (hI : zInj ad 80) (u : SV) {r : Int32} {w' : SS} (hm : mV_undo u = some (r, w')) : Met l yX7_undo (zWs yX7_undo cX7_undo 1 (some .int)) (zRm 2) (va_Pc [.ref (ad 0)] (zPre D (zTy cA) (zE tK tB kS vS) (zAd ad 80) (wV cA ad vT vH vA u))) (zQi r (zBw D (wV cA ad vT vH vA (V_put_stage w' u))) (zAd ad 80)) 0 0 (zAd ad 80) := by
  refine z_met (lv := [(0, .ref (ad 0))]) plX7 rfl rfl (Nat.le_of_ble_eq_true rfl) rfl ?_
  intro p e s m below meth c hC hr hin
  unfold mV_undo at hm
  refine z_aload_n hC dX7_undo_0 rfl 0 rfl ?_
  refine gV_X7_274_o (v := (V_imageTaken u)) hC dX7_undo_1 rfl ?_
  refine z_if_ne (tgt := 10) hC hm dX7_undo_4 (by decide) (fun hm => ?_) (fun hm => ?_)
  · refine z_bipush hC dX7_undo_7 kB_m3 ?_
    exact riV (fin := fun z => V_put_stage z u) hC hr rfl dX7_undo_9 hm rfl
  · refine z_aload_n hC dX7_undo_10 rfl 0 rfl ?_
    refine gV_X7_12_o hC dX7_undo_11 ?_
    refine z_aload_n hC dX7_undo_14 rfl 0 rfl ?_
    refine gV_X7_18_o hC dX7_undo_15 ?_
    refine xV_270u hI hC (Nat.le_of_ble_eq_true rfl) (fun _ h => h) hm dX7_undo_18 (Nat.le_of_ble_eq_true rfl) (fun q1 hm => ?_)
    refine zuV (u2 := (V_put_stage ((S_bec q1)) u)) rfl ?_
    refine z_aload_n hC dX7_undo_21 rfl 0 rfl ?_
    refine gV_X7_12_o hC dX7_undo_22 ?_
    refine gV_X7_96_stage (v := (S_letters (S_bec q1))) hC dX7_undo_25 rfl ?_
    exact riV (fin := fun z => V_put_stage z u) hC hr rfl dX7_undo_28 hm rfl
theorem xV_X7_277 {p : Program} {l : Launch} {e : Env} {s : State} {m : MethodId} {args : Array Value} {below : List Frame} {meth : Method} {c : Code} {Q : State → Prop} {D : va_G} {A : Nat → Prop} {cc : ByteArray} {nL : Nat} {lv : List (Nat × Value)} {pc : Nat} {st : List Value} {cA : Nat → ClassId} {ad : Nat → Nat} {tK tB : Nat} {kS vS : Nat → Nat} {vT vH vA : Value} {d : Nat} {u : SV} (hI : zInj ad 80) (C : zC p s m args meth c cc nL RX7 zTS D (zTy cA) A (zE tK tB kS vS)) (hdm : 0 + 1 ≤ d) (hA : ∀ q, zAd ad 80 q → A q) {β : Type} {f : (Int32) → Option β} {o : β} (hm : (mB_forget (V_acting u)).bind f = some o) (hd : decode cc pc = .ok (.invokevirtual 277, 3)) (h8 : (st.map fun v => v.category).sum ≤ 8) (g : ∀ q, f q = some o → zG p l e (zRm d) s m args below meth c nL D A Q (wV cA ad vT vH vA (V_set_acting (B_put_ran q (V_acting u)) u)) lv (pc + 3) (st)) : zG p l e (zRm d) s m args below meth c nL D A Q (wV cA ad vT vH vA u) lv pc (.ref (ad 12) :: st) := by
  obtain ⟨q, h1, h2⟩ := zb_some hm
  exact z_callvV C (cB_forget (ad := (fun i => ad (12 + i))) (cA := cA) (zInj_sh (k := 12) (n := 2) hI (by decide))  (V_acting u) h1) (cwX7_277 C.1.2.2.2.2 rfl rfl ⟨hdm, by have := hdm; simp only [zRm]; omega⟩) hd rfl rfl h8 ⟨_, rfl, rfl⟩ (List.mem_of_getElem? (heV_acting cA ad _ _ _ u)) inV_acting (fun q h => hA q (zAd_sh (k := 12) (n := 2) (by omega) q h)) (zJV_blk (k := 12) (n := 2) hI (by decide) rfl) (g q h2)
def V_put_acting (p : SB) (u : SV) : SV := (u.1, (u.2.1, ((p, u.2.2.1.2), u.2.2.2)))
def mV_act (x1 : Int32) (x2 : Int32) (x3 : Int32) (u : SV) : Option (Int32 × SB) :=
  (mV_voiceAt x1 u).bind fun v1 => zcs v1 ((mB_forget (V_acting u)).bind fun q2 => (some ((0 : Int32), ((B_put_ran q2 (V_acting u)))))) (fun a1 => ((mB_forget (V_acting u)).bind fun q3 => (if x2 < 0 then (some ((0 : Int32), ((B_put_ran q3 (V_acting u))))) else (if x2 ≤ (2 : Int32) then (zgk a1 (V_nv (V_put_acting ((B_put_ran q3 (V_acting u))) u)) <| (mA_run x2 x3 (V_toA (V_put_acting ((B_put_ran q3 (V_acting u))) u) a1)).bind fun q4 => (some (q4.1, ((B_ofA q4.2))))) else (some ((0 : Int32), ((B_put_ran q3 (V_acting u)))))))))
set_option maxRecDepth 100000 in
set_option maxHeartbeats 4000000 in
theorem cV_act {l : Launch} {D : va_G} {cA : Nat → ClassId} {ad : Nat → Nat} {tK tB : Nat} {kS vS : Nat → Nat} {vT vH vA : Value} (hI : zInj ad 80) (x1 : Int32) (x2 : Int32) (x3 : Int32) (u : SV) {r : Int32} {w' : SB} (hm : mV_act x1 x2 x3 u = some (r, w')) : Met l yX7_act (zWs yX7_act cX7_act 5 (some .int)) (zRm 26) (va_Pc [.ref (ad 0), .int x1, .int x2, .int x3] (zPre D (zTy cA) (zE tK tB kS vS) (zAd ad 80) (wV cA ad vT vH vA u))) (zQi r (zBe D cA ad (V_put_acting w' u)) (zAd ad 80)) 0 0 (zAd ad 80) := by
  refine z_met (lv := [(0, .ref (ad 0)), (1, .int x1), (2, .int x2), (3, .int x3)]) plX7 rfl rfl (Nat.le_of_ble_eq_true rfl) rfl ?_
  intro p e s m below meth c hC hr hin
  unfold mV_act at hm
  refine z_aload_n hC dX7_act_0 rfl 0 rfl ?_
  refine z_iload_n hC dX7_act_1 rfl 1 rfl ?_
  refine xV_X7_139 hI hC (Nat.le_of_ble_eq_true rfl) hm dX7_act_2 (Nat.le_of_ble_eq_true rfl) (fun hm => ?_) (fun a1 hm => ?_)
  · refine z_astoreN (lv' := [(4, .null), (0, .ref (ad 0)), (1, .int x1), (2, .int x2), (3, .int x3)]) hC dX7_act_5 (by decide) rfl ?_
    refine z_aload_n hC dX7_act_7 rfl 1 rfl ?_
    refine gV_X7_54_o hC dX7_act_8 ?_
    refine xV_X7_277 hI hC (Nat.le_of_ble_eq_true rfl) (fun _ h => h) hm dX7_act_11 (Nat.le_of_ble_eq_true rfl) (fun q2 hm => ?_)
    refine zuV (u2 := (V_put_acting ((B_put_ran q2 (V_acting u))) u)) rfl ?_
    refine z_aloadN hC dX7_act_14 0 rfl ?_
    refine z_ifnullN (tgt := 28) hC dX7_act_16 (by decide) ?_
    refine z_iconst hC dX7_act_28 kI_0 ?_
    exact rieV (fin := fun z => V_put_acting z u) hC hr rfl dX7_act_29 hm rfl
  · refine z_astore (lv' := [(4, .ref (ad (70 + a1))), (0, .ref (ad 0)), (1, .int x1), (2, .int x2), (3, .int x3)]) hC dX7_act_5 (by decide) rfl ?_
    refine z_aload_n hC dX7_act_7 rfl 1 rfl ?_
    refine gV_X7_54_o hC dX7_act_8 ?_
    refine xV_X7_277 hI hC (Nat.le_of_ble_eq_true rfl) (fun _ h => h) hm dX7_act_11 (Nat.le_of_ble_eq_true rfl) (fun q3 hm => ?_)
    refine zuV (u2 := (V_put_acting ((B_put_ran q3 (V_acting u))) u)) rfl ?_
    refine z_aload hC dX7_act_14 0 rfl ?_
    refine z_ifnull hC dX7_act_16 ?_
    refine z_iload_n hC dX7_act_19 rfl 3 rfl ?_
    refine z_if_lt (tgt := 28) hC hm dX7_act_20 (by decide) (fun hm => ?_) (fun hm => ?_)
    · refine z_iconst hC dX7_act_28 kI_0 ?_
      exact rieV (fin := fun z => V_put_acting z u) hC hr rfl dX7_act_29 hm rfl
    · refine z_iload_n hC dX7_act_23 rfl 3 rfl ?_
      refine z_iconst hC dX7_act_24 kI_2 ?_
      refine z_icmp_le (tgt := 30) hC hm dX7_act_25 (by decide) (fun hm => ?_) (fun hm => ?_)
      · refine z_aload_n hC dX7_act_30 rfl 1 rfl ?_
        refine gV_X7_54_o hC dX7_act_31 ?_
        refine z_aload hC dX7_act_34 0 rfl ?_
        refine z_iload_n hC dX7_act_36 rfl 3 rfl ?_
        refine z_iload_n hC dX7_act_37 rfl 4 rfl ?_
        refine z_g (zgk_some hm) (fun ha hm => ?_)
        refine xV_280 ha hI hC (Nat.le_of_ble_eq_true rfl) (fun _ h => h) hm dX7_act_38 (Nat.le_of_ble_eq_true rfl) (fun q4 hm => ?_)
        refine zuV (u2 := (V_put_acting ((B_ofA q4.2)) u)) rfl ?_
        exact rieV (fin := fun z => V_put_acting z u) hC hr rfl dX7_act_41 hm rfl
      · refine z_iconst hC dX7_act_28 kI_0 ?_
        exact rieV (fin := fun z => V_put_acting z u) hC hr rfl dX7_act_29 hm rfl
theorem gV_X7_41_o {p : Program} {l : Launch} {e : Env} {R : Room} {s : State} {m : MethodId} {args : Array Value} {below : List Frame} {meth : Method} {c : Code} {Q : State → Prop} {D : va_G} {A : Nat → Prop} {cc : ByteArray} {nL : Nat} {lv : List (Nat × Value)} {pc : Nat} {st : List Value} {cA : Nat → ClassId} {ad : Nat → Nat} {tK tB : Nat} {kS vS : Nat → Nat} {vT vH vA : Value} {u : SV} (C : zC p s m args meth c cc nL RX7 zTS D (zTy cA) A (zE tK tB kS vS)) (hd : decode cc pc = .ok (.getfield 41, 3)) (g : zG p l e R s m args below meth c nL D A Q (wV cA ad vT vH vA u) lv (pc + 3) (.ref (ad 11) :: st)) : zG p l e R s m args below meth c nL D A Q (wV cA ad vT vH vA u) lv pc (.ref (ad 0) :: st) := by
  exact fun H locs ls hP hS hL => va_get (D := D) (ci := 7) (C := RX7) (T := TX7) (N := 16) C.1.1 C.1.2.1 C.1.2.2.2.2 inlX7 C.1.2.2.2.1 C.2.1 hP 0 (heV_o cA ad vT vH vA u) rfl 10 (by decide) (C.1.2.2.2.2 _ mfX7_41) (fun _ h9 => h9) (v := .ref (ad 11)) rfl hd (g H locs ls hP hS hL)
def V_put_textLength_houseCount_stage_rlen_rat_hs (p : Int32 × Int32 × SS × Int32 × Int32 × (Nat → SH)) (u : SV) : SV := (((u.1.1.1, (p.1, p.2.1)), u.1.2), (((p.2.2.1, u.2.1.1.2), (p.2.2.2.1, p.2.2.2.2.1)), (u.2.2.1, (p.2.2.2.2.2, u.2.2.2.2))))
theorem pV_X7_105_o {p : Program} {l : Launch} {e : Env} {R : Room} {s : State} {m : MethodId} {args : Array Value} {below : List Frame} {meth : Method} {c : Code} {Q : State → Prop} {D : va_G} {A : Nat → Prop} {cc : ByteArray} {nL : Nat} {lv : List (Nat × Value)} {pc : Nat} {st : List Value} {cA : Nat → ClassId} {ad : Nat → Nat} {tK tB : Nat} {kS vS : Nat → Nat} {vT vH vA : Value} {u : SV} {v : Int32} (C : zC p s m args meth c cc nL RX7 zTS D (zTy cA) A (zE tK tB kS vS)) (hI : zInj ad 80) (hA : ∀ q, zAd ad 80 q → A q) (hd : decode cc pc = .ok (.putfield 105, 3)) (g : zG p l e R s m args below meth c nL D A Q (wV cA ad vT vH vA (V_set_houseCount v u)) lv (pc + 3) (st)) : zG p l e R s m args below meth c nL D A Q (wV cA ad vT vH vA u) lv pc (.int v :: .ref (ad 0) :: st) := fun H locs ls hP hS hL => va_put (D := D) (ci := 7) (C := RX7) (T := TX7) (N := 16) C.1.1 C.1.2.1 C.1.2.2.2.2 inlX7 tyX7 tyX7_ok nmX7 C.1.2.2.2.1 C.2.1 hP (zD_mono (wV_D hI cA vT vH vA u) hA) hS 0 (heV_o cA ad vT vH vA u) rfl 9 (by decide) (C.1.2.2.2.2 _ mfX7_105) (fun _ h9 => h9) rfl (ty := .int) (by decide +kernel) rfl rfl (Nat.le_of_ble_eq_true rfl) hd (fun H1 locs1 hP1 _ hS1 => g H1 locs1 ls hP1 hS1 hL)
theorem pV_X7_112_stage {p : Program} {l : Launch} {e : Env} {R : Room} {s : State} {m : MethodId} {args : Array Value} {below : List Frame} {meth : Method} {c : Code} {Q : State → Prop} {D : va_G} {A : Nat → Prop} {cc : ByteArray} {nL : Nat} {lv : List (Nat × Value)} {pc : Nat} {st : List Value} {cA : Nat → ClassId} {ad : Nat → Nat} {tK tB : Nat} {kS vS : Nat → Nat} {vT vH vA : Value} {u : SV} {v : Int32} (C : zC p s m args meth c cc nL RX7 zTS D (zTy cA) A (zE tK tB kS vS)) (hI : zInj ad 80) (hA : ∀ q, zAd ad 80 q → A q) (hd : decode cc pc = .ok (.putfield 112, 3)) (g : zG p l e R s m args below meth c nL D A Q (wV cA ad vT vH vA (V_set_stage (S_set_house v (V_stage u)) u)) lv (pc + 3) (st)) : zG p l e R s m args below meth c nL D A Q (wV cA ad vT vH vA u) lv pc (.int v :: .ref (ad 7) :: st) := fun H locs ls hP hS hL => va_put (D := D) (ci := 4) (C := RX4) (T := TX4) (N := 7) C.1.1 C.1.2.1 C.1.2.2.2.2 inlX4 tyX4 tyX4_ok nmX4 C.1.2.2.2.1 C.2.1 hP (zD_mono (wV_D hI cA vT vH vA u) hA) hS 7 (heV_stage cA ad vT vH vA u) rfl 6 (by decide) (C.1.2.2.2.2 _ mfX7_112) (fun _ h9 => h9) rfl (ty := .int) (by decide +kernel) rfl rfl (Nat.le_of_ble_eq_true rfl) hd (fun H1 locs1 hP1 _ hS1 => g H1 locs1 ls hP1 hS1 hL)
def mV_house (u : SV) : Option (Int32 × Int32 × Int32 × SS × Int32 × Int32 × (Nat → SH)) :=
  if (V_houseCount u) < (5 : Int32) then (zgi ((V_houseCount u) + (1 : Int32)) 6 ((mR_faultOf (V_textLength u) (V_toR u (((V_houseCount u) + (1 : Int32))).toNatClampNeg)).bind fun q1 => (if q1.1 < 0 then (some ((((V_houseCount u) + (1 : Int32)) - (1 : Int32)), ((0 : Int32), ((V_houseCount u) + (1 : Int32)), (S_set_house ((V_houseCount u) + (1 : Int32)) (V_stage u)), q1.2.1, q1.2.2.1, (va_up (V_hs u) (((V_houseCount u) + (1 : Int32))).toNatClampNeg (H_ofR q1.2 ((V_hs u) (((V_houseCount u) + (1 : Int32))).toNatClampNeg)))))) else (some (((-10 : Int32) - q1.1), ((0 : Int32), (V_houseCount u), (V_stage u), q1.2.1, q1.2.2.1, (va_up (V_hs u) (((V_houseCount u) + (1 : Int32))).toNatClampNeg (H_ofR q1.2 ((V_hs u) (((V_houseCount u) + (1 : Int32))).toNatClampNeg))))))))) else (some ((-4 : Int32), ((V_textLength u), (V_houseCount u), (V_stage u), (V_rlen u), (V_rat u), (V_hs u))))
set_option maxRecDepth 100000 in
set_option maxHeartbeats 4000000 in
theorem cV_house {l : Launch} {D : va_G} {cA : Nat → ClassId} {ad : Nat → Nat} {tK tB : Nat} {kS vS : Nat → Nat} {vT vH vA : Value} (hI : zInj ad 80) (u : SV) {r : Int32} {w' : Int32 × Int32 × SS × Int32 × Int32 × (Nat → SH)} (hm : mV_house u = some (r, w')) : Met l yX7_house (zWs yX7_house cX7_house 2 (some .int)) (zRm 159) (va_Pc [.ref (ad 0)] (zPre D (zTy cA) (zE tK tB kS vS) (zAd ad 80) (wV cA ad vT vH vA u))) (zQi r (zBe D cA ad (V_put_textLength_houseCount_stage_rlen_rat_hs w' u)) (zAd ad 80)) 0 0 (zAd ad 80) := by
  refine z_met (lv := [(0, .ref (ad 0))]) plX7 rfl rfl (Nat.le_of_ble_eq_true rfl) rfl ?_
  intro p e s m below meth c hC hr hin
  unfold mV_house at hm
  refine z_aload_n hC dX7_house_0 rfl 0 rfl ?_
  refine gV_X7_105_o (v := (V_houseCount u)) hC dX7_house_1 rfl ?_
  refine z_iconst hC dX7_house_4 kI_5 ?_
  refine z_icmp_lt (tgt := 11) hC hm dX7_house_5 (by decide) (fun hm => ?_) (fun hm => ?_)
  · refine z_aload_n hC dX7_house_11 rfl 0 rfl ?_
    refine gV_X7_41_o hC dX7_house_12 ?_
    refine z_aload_n hC dX7_house_15 rfl 0 rfl ?_
    refine gV_X7_28_o hC dX7_house_16 ?_
    refine z_aload_n hC dX7_house_19 rfl 0 rfl ?_
    refine gV_X7_102_o (v := (V_textLength u)) hC dX7_house_20 rfl ?_
    refine z_aload_n hC dX7_house_23 rfl 0 rfl ?_
    refine gV_X7_34_o hC dX7_house_24 ?_
    refine z_aload_n hC dX7_house_27 rfl 0 rfl ?_
    refine gV_X7_105_o (v := (V_houseCount u)) hC dX7_house_28 rfl ?_
    refine z_iconst hC dX7_house_31 kI_1 ?_
    refine z_iadd hC dX7_house_32 ?_
    refine aV_houses hC hm dX7_house_33 (fun hk1 hm => ?_)
    refine xV_108 hk1 hI hC (Nat.le_of_ble_eq_true rfl) (fun _ h => h) hm dX7_house_34 (Nat.le_of_ble_eq_true rfl) (fun q1 hm => ?_)
    refine zuV (u2 := (V_put_textLength_houseCount_stage_rlen_rat_hs ((V_textLength u), (V_houseCount u), (V_stage u), q1.2.1, q1.2.2.1, (va_up (V_hs u) (((V_houseCount u) + (1 : Int32))).toNatClampNeg (H_ofR q1.2 ((V_hs u) (((V_houseCount u) + (1 : Int32))).toNatClampNeg)))) u)) rfl ?_
    refine z_istore_n (lv' := [(1, .int q1.1), (0, .ref (ad 0))]) hC dX7_house_37 rfl (by decide) rfl ?_
    refine z_aload_n hC dX7_house_38 rfl 1 rfl ?_
    refine z_iconst hC dX7_house_39 kI_0 ?_
    refine pV_X7_102_o hC hI (fun _ h => h) dX7_house_40 ?_
    refine zuV (u2 := (V_put_textLength_houseCount_stage_rlen_rat_hs ((0 : Int32), (V_houseCount u), (V_stage u), q1.2.1, q1.2.2.1, (va_up (V_hs u) (((V_houseCount u) + (1 : Int32))).toNatClampNeg (H_ofR q1.2 ((V_hs u) (((V_houseCount u) + (1 : Int32))).toNatClampNeg)))) u)) rfl ?_
    refine z_iload_n hC dX7_house_43 rfl 0 rfl ?_
    refine z_if_lt (tgt := 52) hC hm dX7_house_44 (by decide) (fun hm => ?_) (fun hm => ?_)
    · refine z_aload_n hC dX7_house_52 rfl 1 rfl ?_
      refine z_dup hC dX7_house_53 rfl ?_
      refine gV_X7_105_o (v := (V_houseCount u)) hC dX7_house_54 rfl ?_
      refine z_iconst hC dX7_house_57 kI_1 ?_
      refine z_iadd hC dX7_house_58 ?_
      refine pV_X7_105_o hC hI (fun _ h => h) dX7_house_59 ?_
      refine zuV (u2 := (V_put_textLength_houseCount_stage_rlen_rat_hs ((0 : Int32), ((V_houseCount u) + (1 : Int32)), (V_stage u), q1.2.1, q1.2.2.1, (va_up (V_hs u) (((V_houseCount u) + (1 : Int32))).toNatClampNeg (H_ofR q1.2 ((V_hs u) (((V_houseCount u) + (1 : Int32))).toNatClampNeg)))) u)) rfl ?_
      refine z_aload_n hC dX7_house_62 rfl 1 rfl ?_
      refine gV_X7_12_o hC dX7_house_63 ?_
      refine z_aload_n hC dX7_house_66 rfl 1 rfl ?_
      refine gV_X7_105_o (v := ((V_houseCount u) + (1 : Int32))) hC dX7_house_67 rfl ?_
      refine pV_X7_112_stage hC hI (fun _ h => h) dX7_house_70 ?_
      refine zuV (u2 := (V_put_textLength_houseCount_stage_rlen_rat_hs ((0 : Int32), ((V_houseCount u) + (1 : Int32)), (S_set_house ((V_houseCount u) + (1 : Int32)) (V_stage u)), q1.2.1, q1.2.2.1, (va_up (V_hs u) (((V_houseCount u) + (1 : Int32))).toNatClampNeg (H_ofR q1.2 ((V_hs u) (((V_houseCount u) + (1 : Int32))).toNatClampNeg)))) u)) rfl ?_
      refine z_aload_n hC dX7_house_73 rfl 1 rfl ?_
      refine gV_X7_105_o (v := ((V_houseCount u) + (1 : Int32))) hC dX7_house_74 rfl ?_
      refine z_iconst hC dX7_house_77 kI_1 ?_
      refine z_isub hC dX7_house_78 ?_
      exact rieV (fin := fun z => V_put_textLength_houseCount_stage_rlen_rat_hs z u) hC hr rfl dX7_house_79 hm rfl
    · refine z_bipush hC dX7_house_47 kB_m10 ?_
      refine z_iload_n hC dX7_house_49 rfl 0 rfl ?_
      refine z_isub hC dX7_house_50 ?_
      exact rieV (fin := fun z => V_put_textLength_houseCount_stage_rlen_rat_hs z u) hC hr rfl dX7_house_51 hm rfl
  · refine z_bipush hC dX7_house_8 kB_m4 ?_
    exact rieV (fin := fun z => V_put_textLength_houseCount_stage_rlen_rat_hs z u) hC hr rfl dX7_house_10 hm rfl
