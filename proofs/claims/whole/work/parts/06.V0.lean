/-! 06.V0: the world of FarVoice; by wip/whole/gen/genV0.py -/
abbrev SV : Type := (((Int32 × Int32) × (Int32 × Int32)) × ((Int32 × (Nat → Int32)) × ((Nat → Int32) × (Nat → Int32)))) × (((SS × SS) × (Int32 × Int32)) × ((SB × SK) × ((Nat → SH) × ((Nat → ST) × (Nat → SO)))))
def V_imageTaken (u : SV) : Int32 := u.1.1.1.1
def V_seats (u : SV) : Int32 := u.1.1.1.2
def V_textLength (u : SV) : Int32 := u.1.1.2.1
def V_houseCount (u : SV) : Int32 := u.1.1.2.2
def V_voiceCount (u : SV) : Int32 := u.1.2.1.1
def V_far (u : SV) : Nat → Int32 := u.1.2.1.2
def V_side (u : SV) : Nat → Int32 := u.1.2.2.1
def V_text (u : SV) : Nat → Int32 := u.1.2.2.2
def V_stage (u : SV) : SS := u.2.1.1.1
def V_image (u : SV) : SS := u.2.1.1.2
def V_rlen (u : SV) : Int32 := u.2.1.2.1
def V_rat (u : SV) : Int32 := u.2.1.2.2
def V_acting (u : SV) : SB := u.2.2.1.1
def V_look (u : SV) : SK := u.2.2.1.2
def V_hs (u : SV) : Nat → SH := u.2.2.2.1
def V_ts (u : SV) : Nat → ST := u.2.2.2.2.1
def V_vo (u : SV) : Nat → SO := u.2.2.2.2.2
def V_set_imageTaken (v : Int32) (u : SV) : SV := ((((v, u.1.1.1.2), u.1.1.2), u.1.2), u.2)
def V_set_seats (v : Int32) (u : SV) : SV := ((((u.1.1.1.1, v), u.1.1.2), u.1.2), u.2)
def V_set_textLength (v : Int32) (u : SV) : SV := (((u.1.1.1, (v, u.1.1.2.2)), u.1.2), u.2)
def V_set_houseCount (v : Int32) (u : SV) : SV := (((u.1.1.1, (u.1.1.2.1, v)), u.1.2), u.2)
def V_set_voiceCount (v : Int32) (u : SV) : SV := ((u.1.1, ((v, u.1.2.1.2), u.1.2.2)), u.2)
def V_set_far (v : Nat → Int32) (u : SV) : SV := ((u.1.1, ((u.1.2.1.1, v), u.1.2.2)), u.2)
def V_set_side (v : Nat → Int32) (u : SV) : SV := ((u.1.1, (u.1.2.1, (v, u.1.2.2.2))), u.2)
def V_set_text (v : Nat → Int32) (u : SV) : SV := ((u.1.1, (u.1.2.1, (u.1.2.2.1, v))), u.2)
def V_set_stage (v : SS) (u : SV) : SV := (u.1, (((v, u.2.1.1.2), u.2.1.2), u.2.2))
def V_set_image (v : SS) (u : SV) : SV := (u.1, (((u.2.1.1.1, v), u.2.1.2), u.2.2))
def V_set_rlen (v : Int32) (u : SV) : SV := (u.1, ((u.2.1.1, (v, u.2.1.2.2)), u.2.2))
def V_set_rat (v : Int32) (u : SV) : SV := (u.1, ((u.2.1.1, (u.2.1.2.1, v)), u.2.2))
def V_set_acting (v : SB) (u : SV) : SV := (u.1, (u.2.1, ((v, u.2.2.1.2), u.2.2.2)))
def V_set_look (v : SK) (u : SV) : SV := (u.1, (u.2.1, ((u.2.2.1.1, v), u.2.2.2)))
def V_set_hs (v : Nat → SH) (u : SV) : SV := (u.1, (u.2.1, (u.2.2.1, (v, u.2.2.2.2))))
def V_set_ts (v : Nat → ST) (u : SV) : SV := (u.1, (u.2.1, (u.2.2.1, (u.2.2.2.1, (v, u.2.2.2.2.2)))))
def V_set_vo (v : Nat → SO) (u : SV) : SV := (u.1, (u.2.1, (u.2.2.1, (u.2.2.2.1, (u.2.2.2.2.1, v)))))

def V_nv (u : SV) : Nat := min 10 (V_voiceCount u).toNatClampNeg
def fV (ad : Nat → Nat) (u : SV) : List Value := [.ref (ad 7), .ref (ad 9), .int (V_imageTaken u), .ref (ad 1), .ref (ad 2), .int (V_seats u), .ref (ad 3), .int (V_textLength u), .ref (ad 4), .int (V_houseCount u), .ref (ad 11), .ref (ad 5), .int (V_voiceCount u), .ref (ad 12), .ref (ad 6), .ref (ad 14)]
def zRefs (n : Nat) (f : Nat → Option Nat) : vp_A := (n, .inr (.inr (.inr (.inr f))))
def fVh (ad : Nat → Nat) : Nat → Option Nat := fun k => some (ad (16 + 7 * k))
def fVt (ad : Nat → Nat) : Nat → Option Nat := fun k => some (ad (58 + 2 * k))
def fVv (ad : Nat → Nat) (u : SV) : Nat → Option Nat := fun k => if k < V_nv u then some (ad (70 + k)) else none
def wV16 (cA : Nat → ClassId) (ad : Nat → Nat) (vT vH vA : Value) (u : SV) : va_W := [(ad 0, .inr (7, fV ad u)), (ad 1, .inl (cA 0, 8, .inl (V_far u))), (ad 2, .inl (cA 0, 8, .inl (V_side u))), (ad 3, .inl (cA 3, 100, .inl (V_text u))), (ad 4, .inl (cA 4, zRefs 6 (fVh ad))), (ad 5, .inl (cA 6, zRefs 10 (fVv ad u))), (ad 6, .inl (cA 5, zRefs 6 (fVt ad)))] ++ (wS cA (fun i => ad (7 + i)) (V_stage u) ++ (wS cA (fun i => ad (9 + i)) (V_image u) ++ ([(ad 11, .inr (3, [vT, .int (V_rlen u), .int (V_rat u), vH]))] ++ (wB cA (fun i => ad (12 + i)) vA (V_acting u) ++ wK cA (fun i => ad (14 + i)) (V_look u)))))
def wVh (cA : Nat → ClassId) (ad : Nat → Nat) (h : Nat → SH) (k : Nat) : va_W := wH cA (fun i => ad (16 + 7 * k + i)) (h k)
def wVt (cA : Nat → ClassId) (ad : Nat → Nat) (t : Nat → ST) (k : Nat) : va_W := wT cA (fun i => ad (58 + 2 * k + i)) (t k)
def wVo (ad : Nat → Nat) (o : Nat → SO) (n : Nat) : va_W := (List.range n).map (fun i => (ad (70 + i), .inr (6, fO_o (fun j => ad (70 + i + j)) (o i))))
def wV (cA : Nat → ClassId) (ad : Nat → Nat) (vT vH vA : Value) (u : SV) : va_W := wV16 cA ad vT vH vA u ++ (wVh cA ad (V_hs u) 0 ++ (wVh cA ad (V_hs u) 1 ++ (wVh cA ad (V_hs u) 2 ++ (wVh cA ad (V_hs u) 3 ++ (wVh cA ad (V_hs u) 4 ++ (wVh cA ad (V_hs u) 5 ++ (wVt cA ad (V_ts u) 0 ++ (wVt cA ad (V_ts u) 1 ++ (wVt cA ad (V_ts u) 2 ++ (wVt cA ad (V_ts u) 3 ++ (wVt cA ad (V_ts u) 4 ++ (wVt cA ad (V_ts u) 5 ++ wVo ad (V_vo u) (V_nv u)))))))))))))
theorem V_nv_le (u : SV) : V_nv u ≤ 10 := Nat.min_le_left _ _
theorem wV_fst (cA : Nat → ClassId) (ad : Nat → Nat) (vT vH vA : Value) (u : SV) : (wV cA ad vT vH vA u).map Prod.fst = (List.range (70 + V_nv u)).map ad := by
  have h1 : (wV cA ad vT vH vA u).map Prod.fst = (List.range 70).map ad ++ (wVo ad (V_vo u) (V_nv u)).map Prod.fst := rfl
  have h2 : (wVo ad (V_vo u) (V_nv u)).map Prod.fst = (List.range (V_nv u)).map (fun i => ad (70 + i)) := by
    unfold wVo
    rw [List.map_map]
    rfl
  rw [h1, h2, List.range_add, List.map_append, List.map_map]
  rfl
theorem zInj_le {ad : Nat → Nat} {N n : Nat} (h : zInj ad N) (hn : n ≤ N) : zInj ad n := fun i j hi hj => h i j (Nat.lt_of_lt_of_le hi hn) (Nat.lt_of_lt_of_le hj hn)
theorem zAd_le {ad : Nat → Nat} {N n : Nat} (hn : n ≤ N) : ∀ q, zAd ad n q → zAd ad N q := by
  rintro q ⟨i, hi, rfl⟩
  exact ⟨i, Nat.lt_of_lt_of_le hi hn, rfl⟩
theorem wV_I {ad : Nat → Nat} (hI : zInj ad 80) (u : SV) : zInj ad (70 + V_nv u) := zInj_le hI (by have := V_nv_le u; omega)
theorem wV_D {ad : Nat → Nat} (hI : zInj ad 80) (cA : Nat → ClassId) (vT vH vA : Value) (u : SV) : va_D (zAd ad 80) (wV cA ad vT vH vA u) := zD_mono (zD_of (wV_I hI u) (wV_fst cA ad vT vH vA u)) (zAd_le (by have := V_nv_le u; omega))
theorem heV_o (cA : Nat → ClassId) (ad : Nat → Nat) (vT vH vA : Value) (u : SV) : (wV cA ad vT vH vA u)[0]? = some (ad 0, .inr (7, fV ad u)) := rfl
theorem heV_far (cA : Nat → ClassId) (ad : Nat → Nat) (vT vH vA : Value) (u : SV) : (wV cA ad vT vH vA u)[1]? = some (ad 1, .inl (cA 0, 8, .inl (V_far u))) := rfl
theorem heV_side (cA : Nat → ClassId) (ad : Nat → Nat) (vT vH vA : Value) (u : SV) : (wV cA ad vT vH vA u)[2]? = some (ad 2, .inl (cA 0, 8, .inl (V_side u))) := rfl
theorem heV_text (cA : Nat → ClassId) (ad : Nat → Nat) (vT vH vA : Value) (u : SV) : (wV cA ad vT vH vA u)[3]? = some (ad 3, .inl (cA 3, 100, .inl (V_text u))) := rfl
theorem heV_houses (cA : Nat → ClassId) (ad : Nat → Nat) (vT vH vA : Value) (u : SV) : (wV cA ad vT vH vA u)[4]? = some (ad 4, .inl (cA 4, zRefs 6 (fVh ad))) := rfl
theorem heV_voices (cA : Nat → ClassId) (ad : Nat → Nat) (vT vH vA : Value) (u : SV) : (wV cA ad vT vH vA u)[5]? = some (ad 5, .inl (cA 6, zRefs 10 (fVv ad u))) := rfl
theorem heV_tapes (cA : Nat → ClassId) (ad : Nat → Nat) (vT vH vA : Value) (u : SV) : (wV cA ad vT vH vA u)[6]? = some (ad 6, .inl (cA 5, zRefs 6 (fVt ad))) := rfl
theorem heV_stage (cA : Nat → ClassId) (ad : Nat → Nat) (vT vH vA : Value) (u : SV) : (wV cA ad vT vH vA u)[7]? = some (ad 7, .inr (4, fS_o (fun i => ad (7 + i)) (V_stage u))) := rfl
theorem heV_words (cA : Nat → ClassId) (ad : Nat → Nat) (vT vH vA : Value) (u : SV) : (wV cA ad vT vH vA u)[8]? = some (ad 8, .inl (cA 0, 20, .inl (S_words (V_stage u)))) := rfl
theorem heV_image (cA : Nat → ClassId) (ad : Nat → Nat) (vT vH vA : Value) (u : SV) : (wV cA ad vT vH vA u)[9]? = some (ad 9, .inr (4, fS_o (fun i => ad (9 + i)) (V_image u))) := rfl
theorem heV_acting (cA : Nat → ClassId) (ad : Nat → Nat) (vT vH vA : Value) (u : SV) : (wV cA ad vT vH vA u)[12]? = some (ad 12, .inr (0, fB_o (fun i => ad (12 + i)) vA (V_acting u))) := rfl
theorem heV_bodies (cA : Nat → ClassId) (ad : Nat → Nat) (vT vH vA : Value) (u : SV) : (wV cA ad vT vH vA u)[13]? = some (ad 13, .inl (cA 0, 20, .inl (B_bodies (V_acting u)))) := rfl
theorem heV_look (cA : Nat → ClassId) (ad : Nat → Nat) (vT vH vA : Value) (u : SV) : (wV cA ad vT vH vA u)[14]? = some (ad 14, .inr (2, fK_o (fun i => ad (14 + i)) (V_look u))) := rfl
theorem heV_reader (cA : Nat → ClassId) (ad : Nat → Nat) (vT vH vA : Value) (u : SV) : (wV cA ad vT vH vA u)[11]? = some (ad 11, .inr (3, [vT, .int (V_rlen u), .int (V_rat u), vH])) := rfl
/-- the houses, the tapes, the voices in it -/
theorem inV_h {cA : Nat → ClassId} {ad : Nat → Nat} {vT vH vA : Value} {u : SV} {k : Nat} (hk : k < 6) : ∀ q ∈ wVh cA ad (V_hs u) k, q ∈ wV cA ad vT vH vA u := by
  intro q hq
  unfold wV
  simp only [List.mem_append]
  have : k = 0 ∨ k = 1 ∨ k = 2 ∨ k = 3 ∨ k = 4 ∨ k = 5 := by omega
  rcases this with rfl | rfl | rfl | rfl | rfl | rfl <;> simp only [hq, true_or, or_true]
theorem inV_t {cA : Nat → ClassId} {ad : Nat → Nat} {vT vH vA : Value} {u : SV} {k : Nat} (hk : k < 6) : ∀ q ∈ wVt cA ad (V_ts u) k, q ∈ wV cA ad vT vH vA u := by
  intro q hq
  unfold wV
  simp only [List.mem_append]
  have : k = 0 ∨ k = 1 ∨ k = 2 ∨ k = 3 ∨ k = 4 ∨ k = 5 := by omega
  rcases this with rfl | rfl | rfl | rfl | rfl | rfl <;> simp only [hq, true_or, or_true]
theorem inV_o {cA : Nat → ClassId} {ad : Nat → Nat} {vT vH vA : Value} {u : SV} {k : Nat} (hk : k < V_nv u) : ∀ q ∈ wO cA (fun i => ad (70 + k + i)) (V_vo u k), q ∈ wV cA ad vT vH vA u := by
  intro q hq
  have h1 : q ∈ wVo ad (V_vo u) (V_nv u) := by
    have hq : q ∈ [((ad (70 + k + 0) : Nat), (.inr (6, fO_o (fun j => ad (70 + k + j)) (V_vo u k)) : va_E))] := hq
    rw [List.mem_singleton] at hq
    exact List.mem_map.mpr ⟨k, List.mem_range.mpr hk, hq.symm⟩
  unfold wV
  simp only [List.mem_append, h1, or_true]
theorem inV_16 {cA : Nat → ClassId} {ad : Nat → Nat} {vT vH vA : Value} {u : SV} {q : Nat × va_E} (hq : q ∈ wV16 cA ad vT vH vA u) : q ∈ wV cA ad vT vH vA u := List.mem_append_left _ hq
theorem inV_stage {cA : Nat → ClassId} {ad : Nat → Nat} {vT vH vA : Value} {u : SV} : ∀ q ∈ wS cA (fun i => ad (7 + i)) (V_stage u), q ∈ wV cA ad vT vH vA u := by
  intro q hq
  apply inV_16
  unfold wV16
  simp only [List.mem_append, hq, true_or, or_true]
theorem inV_look {cA : Nat → ClassId} {ad : Nat → Nat} {vT vH vA : Value} {u : SV} : ∀ q ∈ wK cA (fun i => ad (14 + i)) (V_look u), q ∈ wV cA ad vT vH vA u := by
  intro q hq
  apply inV_16
  unfold wV16
  simp only [List.mem_append, hq, or_true]
theorem inV_acting {cA : Nat → ClassId} {ad : Nat → Nat} {vT vH vA : Value} {u : SV} : ∀ q ∈ wB cA (fun i => ad (12 + i)) vA (V_acting u), q ∈ wV cA ad vT vH vA u := by
  intro q hq
  apply inV_16
  unfold wV16
  simp only [List.mem_append, hq, true_or, or_true]
/-- a house beside the look's facts: what unsure asks -/
def adHF (ad : Nat → Nat) (k : Nat) : Nat → Nat := fun i => if i < 7 then ad (16 + 7 * k + i) else ad 15
def V_toHF (u : SV) (k : Nat) : SHF := (((H_late (V_hs u k), H_clauses (V_hs u k)), (H_stepCount (V_hs u k), (H_sounds (V_hs u k), H_swaps (V_hs u k)))), ((H_senses (V_hs u k), H_amounts (V_hs u k)), (H_ends (V_hs u k), (H_steps (V_hs u k), K_facts (V_look u)))))
theorem inV_HF {cA : Nat → ClassId} {ad : Nat → Nat} {vT vH vA : Value} {u : SV} {k : Nat} (hk : k < 6) : ∀ q ∈ wHF cA (adHF ad k) (V_toHF u k), q ∈ wV cA ad vT vH vA u := by
  intro q hq
  have h1 : wHF cA (adHF ad k) (V_toHF u k) = wVh cA ad (V_hs u) k ++ [(ad 15, .inl (cA 0, 5, .inl (K_facts (V_look u))))] := rfl
  rw [h1, List.mem_append] at hq
  rcases hq with hq | hq
  · exact inV_h hk q hq
  · rw [List.mem_singleton] at hq
    exact List.mem_of_getElem? (i := 15) (by rw [hq]; rfl)
/-- behind a call that writes one block of V alone -/
theorem zJV_blk {D : va_G} {cA : Nat → ClassId} {ad : Nat → Nat} {vT vH vA vT' vH' vA' : Value} {u u' : SV} {w1 : va_W} {k n : Nat} (hI : zInj ad 80) (hkn : k + n ≤ 70) (h2 : wV cA ad vT' vH' vA' u' = (wV cA ad vT vH vA u).take k ++ (w1 ++ (wV cA ad vT vH vA u).drop (k + n))) : zJ D (wV cA ad vT vH vA u) (zBw D w1) (zAd (fun i => ad (k + i)) n) (wV cA ad vT' vH' vA' u') := zJ_blk (wV_I hI u) (wV_fst cA ad vT vH vA u) (by omega) h2
def zgk {α : Type} (k n : Nat) (o : Option α) : Option α := if k < n then o else none
theorem zgk_some {α : Type} {k n : Nat} {o : Option α} {r : α} (h : zgk k n o = some r) : k < n ∧ o = some r := by
  unfold zgk at h
  split at h
  next hn => exact ⟨hn, h⟩
  next => cases h
theorem zJV_tape {D : va_G} {cA : Nat → ClassId} {ad : Nat → Nat} {vT vH vA : Value} {u : SV} {t : ST} {k : Nat} (hI : zInj ad 80) (hk : k < 6) : zJ D (wV cA ad vT vH vA u) (zBw D (wT cA (fun i => ad (58 + 2 * k + i)) t)) (zAd (fun i => ad (58 + 2 * k + i)) 2) (wV cA ad vT vH vA (V_set_ts (va_up (V_ts u) k t) u)) := by
  have : k = 0 ∨ k = 1 ∨ k = 2 ∨ k = 3 ∨ k = 4 ∨ k = 5 := by omega
  rcases this with rfl | rfl | rfl | rfl | rfl | rfl
  · exact zJV_blk (k := 58) (n := 2) hI (by decide) rfl
  · exact zJV_blk (k := 60) (n := 2) hI (by decide) rfl
  · exact zJV_blk (k := 62) (n := 2) hI (by decide) rfl
  · exact zJV_blk (k := 64) (n := 2) hI (by decide) rfl
  · exact zJV_blk (k := 66) (n := 2) hI (by decide) rfl
  · exact zJV_blk (k := 68) (n := 2) hI (by decide) rfl

