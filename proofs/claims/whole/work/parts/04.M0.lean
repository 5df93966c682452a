def zInj (ad : Nat → Nat) (N : Nat) : Prop := ∀ i j, i < N → j < N → ad i = ad j → i = j
def zAd (ad : Nat → Nat) (N : Nat) : Nat → Prop := fun q => ∃ k, k < N ∧ q = ad k
theorem zD_of {ad : Nat → Nat} {N : Nat} {ws : va_W} (hI : zInj ad N) (h : ws.map Prod.fst = (List.range N).map ad) : va_D (zAd ad N) ws := by
  have key : ∀ (k : Nat) (q : Nat × va_E), ws[k]? = some q → k < N ∧ q.1 = ad k := by
    intro k q hk
    have h1 : (ws.map Prod.fst)[k]? = some q.1 := by rw [List.getElem?_map, hk]; rfl
    rw [h, List.getElem?_map] at h1
    cases h2 : (List.range N)[k]? with
    | none => rw [h2] at h1; cases h1
    | some z =>
      rw [h2] at h1
      have h3 := List.getElem?_eq_some_iff.mp h2
      obtain ⟨hl, he⟩ := h3
      rw [List.getElem_range] at he
      rw [List.length_range] at hl
      subst he
      exact ⟨hl, (Option.some.inj h1).symm⟩
  refine ⟨fun i j x y hi hj hxy => ?_, fun k q hk => ⟨k, key k q hk⟩⟩
  obtain ⟨h1, h2⟩ := key i x hi
  obtain ⟨h3, h4⟩ := key j y hj
  exact hI i j h1 h3 (h2.symm.trans (hxy.trans h4))
theorem zD_mono {A B : Nat → Prop} {ws : va_W} (h : va_D A ws) (hA : ∀ q, A q → B q) : va_D B ws := ⟨h.1, fun k q hk => hA _ (h.2 k q hk)⟩
theorem zb_nar {v : Int32} (h : v = 0 ∨ v = 1) : narrow .boolean (.int v) = .int v := by rcases h with rfl | rfl <;> rfl
theorem zb_fit {v : Int32} (h : v = 0 ∨ v = 1) : fits .boolean (.int v) = true := by rcases h with rfl | rfl <;> rfl
/-- a model's guards: an index, a truth value, a divisor -/
def zgi {α : Type} (i : Int32) (n : Nat) (o : Option α) : Option α := if i < 0 ∨ n ≤ i.toNatClampNeg then none else o
theorem zgi_some {α : Type} {i : Int32} {n : Nat} {o : Option α} {r : α} (h : zgi i n o = some r) : vp_in i n ∧ o = some r := by
  unfold zgi at h
  split at h
  next => cases h
  next hn => exact ⟨hn, h⟩
def zgb {α : Type} (x : Int32) (o : Option α) : Option α := if x = 0 ∨ x = 1 then o else none
theorem zgb_some {α : Type} {x : Int32} {o : Option α} {r : α} (h : zgb x o = some r) : (x = 0 ∨ x = 1) ∧ o = some r := by
  unfold zgb at h
  split at h
  next hn => exact ⟨hn, h⟩
  next => cases h
def zgz {α : Type} (x : Int32) (o : Option α) : Option α := if x = 0 then none else o
theorem zgz_some {α : Type} {x : Int32} {o : Option α} {r : α} (h : zgz x o = some r) : ¬ x = 0 ∧ o = some r := by
  unfold zgz at h
  split at h
  next => cases h
  next hn => exact ⟨hn, h⟩
def zgl {α : Type} (x : Int64) (o : Option α) : Option α := if x = 0 then none else o
theorem zgl_some {α : Type} {x : Int64} {o : Option α} {r : α} (h : zgl x o = some r) : ¬ x = 0 ∧ o = some r := by
  unfold zgl at h
  split at h
  next => cases h
  next hn => exact ⟨hn, h⟩
theorem z_g {α : Type} {P : Prop} {o : Option α} {r : α} {G : Prop} (h : P ∧ o = some r) (k : P → o = some r → G) : G := k h.1 h.2
abbrev SM : Type := ((((Int32 × Int32) × (Int32 × (Int32 × Int32))) × ((Int64 × (Int32 × Int32)) × (Int32 × (Int32 × Int32)))) × (((Int32 × Int32) × (Int32 × (Int32 × Int32))) × ((Int32 × (Int32 × Int32)) × (Int32 × (Int32 × Int64))))) × ((((Int32 × (Nat → Int32)) × ((Nat → Int32) × ((Nat → Int32) × (Nat → Int32)))) × (((Nat → Int32) × ((Nat → Int32) × (Nat → Int32))) × ((Nat → Int32) × ((Nat → Int32) × (Nat → Int32))))) × ((((Nat → Int32) × ((Nat → Int32) × (Nat → Int32))) × ((Nat → Int32) × ((Nat → Int32) × (Nat → Int32)))) × (((Nat → Int32) × ((Nat → Int32) × (Nat → Int32))) × ((Nat → Int32) × ((Nat → Int64) × (Nat → Int64))))))
def M_mouth (u : SM) : Int32 := u.1.1.1.1.1
def M_jaw (u : SM) : Int32 := u.1.1.1.1.2
def M_seats (u : SM) : Int32 := u.1.1.1.2.1
def M_letters (u : SM) : Int32 := u.1.1.1.2.2.1
def M_slips (u : SM) : Int32 := u.1.1.1.2.2.2
def M_moves (u : SM) : Int64 := u.1.1.2.1.1
def M_houses (u : SM) : Int32 := u.1.1.2.1.2.1
def M_the (u : SM) : Int32 := u.1.1.2.1.2.2
def M_fed (u : SM) : Int32 := u.1.1.2.2.1
def M_at (u : SM) : Int32 := u.1.1.2.2.2.1
def M_digits (u : SM) : Int32 := u.1.1.2.2.2.2
def M_signs (u : SM) : Int32 := u.1.2.1.1.1
def M_waiting (u : SM) : Int32 := u.1.2.1.1.2
def M_open (u : SM) : Int32 := u.1.2.1.2.1
def M_voices (u : SM) : Int32 := u.1.2.1.2.2.1
def M_hasImage (u : SM) : Int32 := u.1.2.1.2.2.2
def M_imageThe (u : SM) : Int32 := u.1.2.2.1.1
def M_imageMouth (u : SM) : Int32 := u.1.2.2.1.2.1
def M_imageJaw (u : SM) : Int32 := u.1.2.2.1.2.2
def M_imageLetters (u : SM) : Int32 := u.1.2.2.2.1
def M_imageSlips (u : SM) : Int32 := u.1.2.2.2.2.1
def M_imageMoves (u : SM) : Int64 := u.1.2.2.2.2.2
def M_ran (u : SM) : Int32 := u.2.1.1.1.1
def M_far (u : SM) : Nat → Int32 := u.2.1.1.1.2
def M_side (u : SM) : Nat → Int32 := u.2.1.1.2.1
def M_letter (u : SM) : Nat → Int32 := u.2.1.1.2.2.1
def M_text (u : SM) : Nat → Int32 := u.2.1.1.2.2.2
def M_clauses (u : SM) : Nat → Int32 := u.2.1.2.1.1
def M_word (u : SM) : Nat → Int32 := u.2.1.2.1.2.1
def M_spot (u : SM) : Nat → Int32 := u.2.1.2.1.2.2
def M_number (u : SM) : Nat → Int32 := u.2.1.2.2.1
def M_from (u : SM) : Nat → Int32 := u.2.1.2.2.2.1
def M_to (u : SM) : Nat → Int32 := u.2.1.2.2.2.2
def M_sign (u : SM) : Nat → Int32 := u.2.2.1.1.1
def M_waits (u : SM) : Nat → Int32 := u.2.2.1.1.2.1
def M_letterOfWords (u : SM) : Nat → Int32 := u.2.2.1.1.2.2
def M_kind (u : SM) : Nat → Int32 := u.2.2.1.2.1
def M_v (u : SM) : Nat → Int32 := u.2.2.1.2.2.1
def M_pile (u : SM) : Nat → Int32 := u.2.2.1.2.2.2
def M_imageLetter (u : SM) : Nat → Int32 := u.2.2.2.1.1
def M_bodies (u : SM) : Nat → Int32 := u.2.2.2.1.2.1
def M_sort (u : SM) : Nat → Int32 := u.2.2.2.1.2.2
def M_length (u : SM) : Nat → Int32 := u.2.2.2.2.1
def M_item (u : SM) : Nat → Int64 := u.2.2.2.2.2.1
def M_aside (u : SM) : Nat → Int64 := u.2.2.2.2.2.2
def M_set_mouth (v : Int32) (u : SM) : SM := (((((v, u.1.1.1.1.2), u.1.1.1.2), u.1.1.2), u.1.2), u.2)
def M_set_jaw (v : Int32) (u : SM) : SM := (((((u.1.1.1.1.1, v), u.1.1.1.2), u.1.1.2), u.1.2), u.2)
def M_set_seats (v : Int32) (u : SM) : SM := ((((u.1.1.1.1, (v, u.1.1.1.2.2)), u.1.1.2), u.1.2), u.2)
def M_set_letters (v : Int32) (u : SM) : SM := ((((u.1.1.1.1, (u.1.1.1.2.1, (v, u.1.1.1.2.2.2))), u.1.1.2), u.1.2), u.2)
def M_set_slips (v : Int32) (u : SM) : SM := ((((u.1.1.1.1, (u.1.1.1.2.1, (u.1.1.1.2.2.1, v))), u.1.1.2), u.1.2), u.2)
def M_set_moves (v : Int64) (u : SM) : SM := (((u.1.1.1, ((v, u.1.1.2.1.2), u.1.1.2.2)), u.1.2), u.2)
def M_set_houses (v : Int32) (u : SM) : SM := (((u.1.1.1, ((u.1.1.2.1.1, (v, u.1.1.2.1.2.2)), u.1.1.2.2)), u.1.2), u.2)
def M_set_the (v : Int32) (u : SM) : SM := (((u.1.1.1, ((u.1.1.2.1.1, (u.1.1.2.1.2.1, v)), u.1.1.2.2)), u.1.2), u.2)
def M_set_fed (v : Int32) (u : SM) : SM := (((u.1.1.1, (u.1.1.2.1, (v, u.1.1.2.2.2))), u.1.2), u.2)
def M_set_at (v : Int32) (u : SM) : SM := (((u.1.1.1, (u.1.1.2.1, (u.1.1.2.2.1, (v, u.1.1.2.2.2.2)))), u.1.2), u.2)
def M_set_digits (v : Int32) (u : SM) : SM := (((u.1.1.1, (u.1.1.2.1, (u.1.1.2.2.1, (u.1.1.2.2.2.1, v)))), u.1.2), u.2)
def M_set_signs (v : Int32) (u : SM) : SM := ((u.1.1, (((v, u.1.2.1.1.2), u.1.2.1.2), u.1.2.2)), u.2)
def M_set_waiting (v : Int32) (u : SM) : SM := ((u.1.1, (((u.1.2.1.1.1, v), u.1.2.1.2), u.1.2.2)), u.2)
def M_set_open (v : Int32) (u : SM) : SM := ((u.1.1, ((u.1.2.1.1, (v, u.1.2.1.2.2)), u.1.2.2)), u.2)
def M_set_voices (v : Int32) (u : SM) : SM := ((u.1.1, ((u.1.2.1.1, (u.1.2.1.2.1, (v, u.1.2.1.2.2.2))), u.1.2.2)), u.2)
def M_set_hasImage (v : Int32) (u : SM) : SM := ((u.1.1, ((u.1.2.1.1, (u.1.2.1.2.1, (u.1.2.1.2.2.1, v))), u.1.2.2)), u.2)
def M_set_imageThe (v : Int32) (u : SM) : SM := ((u.1.1, (u.1.2.1, ((v, u.1.2.2.1.2), u.1.2.2.2))), u.2)
def M_set_imageMouth (v : Int32) (u : SM) : SM := ((u.1.1, (u.1.2.1, ((u.1.2.2.1.1, (v, u.1.2.2.1.2.2)), u.1.2.2.2))), u.2)
def M_set_imageJaw (v : Int32) (u : SM) : SM := ((u.1.1, (u.1.2.1, ((u.1.2.2.1.1, (u.1.2.2.1.2.1, v)), u.1.2.2.2))), u.2)
def M_set_imageLetters (v : Int32) (u : SM) : SM := ((u.1.1, (u.1.2.1, (u.1.2.2.1, (v, u.1.2.2.2.2)))), u.2)
def M_set_imageSlips (v : Int32) (u : SM) : SM := ((u.1.1, (u.1.2.1, (u.1.2.2.1, (u.1.2.2.2.1, (v, u.1.2.2.2.2.2))))), u.2)
def M_set_imageMoves (v : Int64) (u : SM) : SM := ((u.1.1, (u.1.2.1, (u.1.2.2.1, (u.1.2.2.2.1, (u.1.2.2.2.2.1, v))))), u.2)
def M_set_ran (v : Int32) (u : SM) : SM := (u.1, ((((v, u.2.1.1.1.2), u.2.1.1.2), u.2.1.2), u.2.2))
def M_set_far (v : Nat → Int32) (u : SM) : SM := (u.1, ((((u.2.1.1.1.1, v), u.2.1.1.2), u.2.1.2), u.2.2))
def M_set_side (v : Nat → Int32) (u : SM) : SM := (u.1, (((u.2.1.1.1, (v, u.2.1.1.2.2)), u.2.1.2), u.2.2))
def M_set_letter (v : Nat → Int32) (u : SM) : SM := (u.1, (((u.2.1.1.1, (u.2.1.1.2.1, (v, u.2.1.1.2.2.2))), u.2.1.2), u.2.2))
def M_set_text (v : Nat → Int32) (u : SM) : SM := (u.1, (((u.2.1.1.1, (u.2.1.1.2.1, (u.2.1.1.2.2.1, v))), u.2.1.2), u.2.2))
def M_set_clauses (v : Nat → Int32) (u : SM) : SM := (u.1, ((u.2.1.1, ((v, u.2.1.2.1.2), u.2.1.2.2)), u.2.2))
def M_set_word (v : Nat → Int32) (u : SM) : SM := (u.1, ((u.2.1.1, ((u.2.1.2.1.1, (v, u.2.1.2.1.2.2)), u.2.1.2.2)), u.2.2))
def M_set_spot (v : Nat → Int32) (u : SM) : SM := (u.1, ((u.2.1.1, ((u.2.1.2.1.1, (u.2.1.2.1.2.1, v)), u.2.1.2.2)), u.2.2))
def M_set_number (v : Nat → Int32) (u : SM) : SM := (u.1, ((u.2.1.1, (u.2.1.2.1, (v, u.2.1.2.2.2))), u.2.2))
def M_set_from (v : Nat → Int32) (u : SM) : SM := (u.1, ((u.2.1.1, (u.2.1.2.1, (u.2.1.2.2.1, (v, u.2.1.2.2.2.2)))), u.2.2))
def M_set_to (v : Nat → Int32) (u : SM) : SM := (u.1, ((u.2.1.1, (u.2.1.2.1, (u.2.1.2.2.1, (u.2.1.2.2.2.1, v)))), u.2.2))
def M_set_sign (v : Nat → Int32) (u : SM) : SM := (u.1, (u.2.1, (((v, u.2.2.1.1.2), u.2.2.1.2), u.2.2.2)))
def M_set_waits (v : Nat → Int32) (u : SM) : SM := (u.1, (u.2.1, (((u.2.2.1.1.1, (v, u.2.2.1.1.2.2)), u.2.2.1.2), u.2.2.2)))
def M_set_letterOfWords (v : Nat → Int32) (u : SM) : SM := (u.1, (u.2.1, (((u.2.2.1.1.1, (u.2.2.1.1.2.1, v)), u.2.2.1.2), u.2.2.2)))
def M_set_kind (v : Nat → Int32) (u : SM) : SM := (u.1, (u.2.1, ((u.2.2.1.1, (v, u.2.2.1.2.2)), u.2.2.2)))
def M_set_v (v : Nat → Int32) (u : SM) : SM := (u.1, (u.2.1, ((u.2.2.1.1, (u.2.2.1.2.1, (v, u.2.2.1.2.2.2))), u.2.2.2)))
def M_set_pile (v : Nat → Int32) (u : SM) : SM := (u.1, (u.2.1, ((u.2.2.1.1, (u.2.2.1.2.1, (u.2.2.1.2.2.1, v))), u.2.2.2)))
def M_set_imageLetter (v : Nat → Int32) (u : SM) : SM := (u.1, (u.2.1, (u.2.2.1, ((v, u.2.2.2.1.2), u.2.2.2.2))))
def M_set_bodies (v : Nat → Int32) (u : SM) : SM := (u.1, (u.2.1, (u.2.2.1, ((u.2.2.2.1.1, (v, u.2.2.2.1.2.2)), u.2.2.2.2))))
def M_set_sort (v : Nat → Int32) (u : SM) : SM := (u.1, (u.2.1, (u.2.2.1, ((u.2.2.2.1.1, (u.2.2.2.1.2.1, v)), u.2.2.2.2))))
def M_set_length (v : Nat → Int32) (u : SM) : SM := (u.1, (u.2.1, (u.2.2.1, (u.2.2.2.1, (v, u.2.2.2.2.2)))))
def M_set_item (v : Nat → Int64) (u : SM) : SM := (u.1, (u.2.1, (u.2.2.1, (u.2.2.2.1, (u.2.2.2.2.1, (v, u.2.2.2.2.2.2))))))
def M_set_aside (v : Nat → Int64) (u : SM) : SM := (u.1, (u.2.1, (u.2.2.1, (u.2.2.2.1, (u.2.2.2.2.1, (u.2.2.2.2.2.1, v))))))
def fM_o (ad : Nat → Nat) (u : SM) : List Value := [.int (M_mouth u), .int (M_jaw u), .int (M_seats u), .int (M_letters u), .int (M_slips u), .long (M_moves u), .ref (ad 1), .ref (ad 2), .ref (ad 3), .int (M_houses u), .int (M_the u), .int (M_fed u), .int (M_at u), .int (M_digits u), .ref (ad 4), .ref (ad 5), .ref (ad 6), .ref (ad 7), .ref (ad 8), .ref (ad 9), .ref (ad 10), .ref (ad 11), .ref (ad 12), .int (M_signs u), .int (M_waiting u), .int (M_open u), .ref (ad 13), .int (M_voices u), .ref (ad 14), .ref (ad 15), .ref (ad 16), .int (M_hasImage u), .int (M_imageThe u), .int (M_imageMouth u), .int (M_imageJaw u), .int (M_imageLetters u), .int (M_imageSlips u), .long (M_imageMoves u), .ref (ad 17), .int (M_ran u), .ref (ad 18), .ref (ad 19), .ref (ad 20), .ref (ad 21), .ref (ad 22)]
def wM (cA : Nat → ClassId) (ad : Nat → Nat) (u : SM) : va_W := [(ad 0, .inr (8, fM_o ad u)), (ad 1, .inl (cA 0, 8, .inl (M_far u))), (ad 2, .inl (cA 0, 8, .inl (M_side u))), (ad 3, .inl (cA 0, 20, .inl (M_letter u))), (ad 4, .inl (cA 0, 100, .inl (M_text u))), (ad 5, .inl (cA 0, 5, .inl (M_clauses u))), (ad 6, .inl (cA 0, 50, .inl (M_word u))), (ad 7, .inl (cA 0, 50, .inl (M_spot u))), (ad 8, .inl (cA 0, 50, .inl (M_number u))), (ad 9, .inl (cA 0, 50, .inl (M_from u))), (ad 10, .inl (cA 0, 50, .inl (M_to u))), (ad 11, .inl (cA 0, 500, .inl (M_sign u))), (ad 12, .inl (cA 0, 101, .inl (M_waits u))), (ad 13, .inl (cA 0, 19, .inl (M_letterOfWords u))), (ad 14, .inl (cA 0, 10, .inl (M_kind u))), (ad 15, .inl (cA 0, 10, .inl (M_v u))), (ad 16, .inl (cA 2, 100, .inl (M_pile u))), (ad 17, .inl (cA 0, 20, .inl (M_imageLetter u))), (ad 18, .inl (cA 0, 20, .inl (M_bodies u))), (ad 19, .inl (cA 0, 6, .inl (M_sort u))), (ad 20, .inl (cA 0, 6, .inl (M_length u))), (ad 21, .inl (cA 1, 360, .inr (.inl (M_item u)))), (ad 22, .inl (cA 1, 60, .inr (.inl (M_aside u))))]
theorem wM_fst (cA : Nat → ClassId) (ad : Nat → Nat) (u : SM) : (wM cA ad u).map Prod.fst = (List.range 23).map ad := rfl
theorem wM_D {ad : Nat → Nat} (hI : zInj ad 23) (cA : Nat → ClassId) (u : SM) : va_D (zAd ad 23) (wM cA ad u) := zD_of hI (wM_fst cA ad u)
theorem heM_o (cA : Nat → ClassId) (ad : Nat → Nat) (u : SM) : (wM cA ad u)[0]? = some (ad 0, .inr (8, fM_o ad u)) := rfl
theorem heM_far (cA : Nat → ClassId) (ad : Nat → Nat) (u : SM) : (wM cA ad u)[1]? = some (ad 1, .inl (cA 0, 8, .inl (M_far u))) := rfl
theorem heM_side (cA : Nat → ClassId) (ad : Nat → Nat) (u : SM) : (wM cA ad u)[2]? = some (ad 2, .inl (cA 0, 8, .inl (M_side u))) := rfl
theorem heM_letter (cA : Nat → ClassId) (ad : Nat → Nat) (u : SM) : (wM cA ad u)[3]? = some (ad 3, .inl (cA 0, 20, .inl (M_letter u))) := rfl
theorem heM_text (cA : Nat → ClassId) (ad : Nat → Nat) (u : SM) : (wM cA ad u)[4]? = some (ad 4, .inl (cA 0, 100, .inl (M_text u))) := rfl
theorem heM_clauses (cA : Nat → ClassId) (ad : Nat → Nat) (u : SM) : (wM cA ad u)[5]? = some (ad 5, .inl (cA 0, 5, .inl (M_clauses u))) := rfl
theorem heM_word (cA : Nat → ClassId) (ad : Nat → Nat) (u : SM) : (wM cA ad u)[6]? = some (ad 6, .inl (cA 0, 50, .inl (M_word u))) := rfl
theorem heM_spot (cA : Nat → ClassId) (ad : Nat → Nat) (u : SM) : (wM cA ad u)[7]? = some (ad 7, .inl (cA 0, 50, .inl (M_spot u))) := rfl
theorem heM_number (cA : Nat → ClassId) (ad : Nat → Nat) (u : SM) : (wM cA ad u)[8]? = some (ad 8, .inl (cA 0, 50, .inl (M_number u))) := rfl
theorem heM_from (cA : Nat → ClassId) (ad : Nat → Nat) (u : SM) : (wM cA ad u)[9]? = some (ad 9, .inl (cA 0, 50, .inl (M_from u))) := rfl
theorem heM_to (cA : Nat → ClassId) (ad : Nat → Nat) (u : SM) : (wM cA ad u)[10]? = some (ad 10, .inl (cA 0, 50, .inl (M_to u))) := rfl
theorem heM_sign (cA : Nat → ClassId) (ad : Nat → Nat) (u : SM) : (wM cA ad u)[11]? = some (ad 11, .inl (cA 0, 500, .inl (M_sign u))) := rfl
theorem heM_waits (cA : Nat → ClassId) (ad : Nat → Nat) (u : SM) : (wM cA ad u)[12]? = some (ad 12, .inl (cA 0, 101, .inl (M_waits u))) := rfl
theorem heM_letterOfWords (cA : Nat → ClassId) (ad : Nat → Nat) (u : SM) : (wM cA ad u)[13]? = some (ad 13, .inl (cA 0, 19, .inl (M_letterOfWords u))) := rfl
theorem heM_kind (cA : Nat → ClassId) (ad : Nat → Nat) (u : SM) : (wM cA ad u)[14]? = some (ad 14, .inl (cA 0, 10, .inl (M_kind u))) := rfl
theorem heM_v (cA : Nat → ClassId) (ad : Nat → Nat) (u : SM) : (wM cA ad u)[15]? = some (ad 15, .inl (cA 0, 10, .inl (M_v u))) := rfl
theorem heM_pile (cA : Nat → ClassId) (ad : Nat → Nat) (u : SM) : (wM cA ad u)[16]? = some (ad 16, .inl (cA 2, 100, .inl (M_pile u))) := rfl
theorem heM_imageLetter (cA : Nat → ClassId) (ad : Nat → Nat) (u : SM) : (wM cA ad u)[17]? = some (ad 17, .inl (cA 0, 20, .inl (M_imageLetter u))) := rfl
theorem heM_bodies (cA : Nat → ClassId) (ad : Nat → Nat) (u : SM) : (wM cA ad u)[18]? = some (ad 18, .inl (cA 0, 20, .inl (M_bodies u))) := rfl
theorem heM_sort (cA : Nat → ClassId) (ad : Nat → Nat) (u : SM) : (wM cA ad u)[19]? = some (ad 19, .inl (cA 0, 6, .inl (M_sort u))) := rfl
theorem heM_length (cA : Nat → ClassId) (ad : Nat → Nat) (u : SM) : (wM cA ad u)[20]? = some (ad 20, .inl (cA 0, 6, .inl (M_length u))) := rfl
theorem heM_item (cA : Nat → ClassId) (ad : Nat → Nat) (u : SM) : (wM cA ad u)[21]? = some (ad 21, .inl (cA 1, 360, .inr (.inl (M_item u)))) := rfl
theorem heM_aside (cA : Nat → ClassId) (ad : Nat → Nat) (u : SM) : (wM cA ad u)[22]? = some (ad 22, .inl (cA 1, 60, .inr (.inl (M_aside u)))) := rfl
theorem zuM {p : Program} {l : Launch} {e : Env} {R : Room} {s : State} {m : MethodId} {args : Array Value} {below : List Frame} {meth : Method} {c : Code} {Q : State → Prop} {D : va_G} {A : Nat → Prop} {nL : Nat} {lv : List (Nat × Value)} {pc : Nat} {st : List Value} {cA : Nat → ClassId} {ad : Nat → Nat}  {u u2 : SM} (h : u = u2) (g : zG p l e R s m args below meth c nL D A Q (wM cA ad u2) lv pc st) : zG p l e R s m args below meth c nL D A Q (wM cA ad u) lv pc st := h ▸ g
theorem riM {p : Program} {l : Launch} {e : Env} {R : Room} {s : State} {m : MethodId} {args : Array Value} {below : List Frame} {meth : Method} {c : Code} {D : va_G} {A : Nat → Prop} {cc : ByteArray} {nL : Nat} {lv : List (Nat × Value)} {pc : Nat} {cA : Nat → ClassId} {ad : Nat → Nat} {E : zEt} {own : String} {u : SM} {v r : Int32} {ty : FieldType} {β : Type} {w w' : β} {fin : β → SM} (C : zC p s m args meth c cc nL own zTS D (zTy cA) A E) (hr : meth.sig.returnType = some ty) (hn : narrow ty (.int v) = .int v) (hd : decode cc pc = .ok (.ireturn, 1)) (hm : some (v, w) = some (r, w')) (hu : u = fin w) : zG p l e R s m args below meth c nL D A (MQ below (zQi r (zBw D (wM cA ad (fin w'))) A) args s 0 0 A) (wM cA ad u) lv pc [.int v] := by
  obtain ⟨rfl, rfl⟩ := Prod.mk.inj (Option.some.inj hm)
  exact z_iret C hr hn hd (fun _ h => hu ▸ h) rfl
theorem rlM {p : Program} {l : Launch} {e : Env} {R : Room} {s : State} {m : MethodId} {args : Array Value} {below : List Frame} {meth : Method} {c : Code} {D : va_G} {A : Nat → Prop} {cc : ByteArray} {nL : Nat} {lv : List (Nat × Value)} {pc : Nat} {cA : Nat → ClassId} {ad : Nat → Nat} {E : zEt} {own : String} {u : SM} {v r : Int64} {β : Type} {w w' : β} {fin : β → SM} (C : zC p s m args meth c cc nL own zTS D (zTy cA) A E) (hr : meth.sig.returnType = some .long) (hd : decode cc pc = .ok (.lreturn, 1)) (hm : some (v, w) = some (r, w')) (hu : u = fin w) : zG p l e R s m args below meth c nL D A (MQ below (zQl r (zBw D (wM cA ad (fin w'))) A) args s 0 0 A) (wM cA ad u) lv pc [.long v] := by
  obtain ⟨rfl, rfl⟩ := Prod.mk.inj (Option.some.inj hm)
  exact z_lret C hr hd (fun _ h => hu ▸ h) rfl
theorem rvM {p : Program} {l : Launch} {e : Env} {R : Room} {s : State} {m : MethodId} {args : Array Value} {below : List Frame} {meth : Method} {c : Code} {D : va_G} {A : Nat → Prop} {cc : ByteArray} {nL : Nat} {lv : List (Nat × Value)} {pc : Nat} {cA : Nat → ClassId} {ad : Nat → Nat} {E : zEt} {own : String} {u : SM} {β : Type} {w w' : β} {fin : β → SM} (C : zC p s m args meth c cc nL own zTS D (zTy cA) A E) (hr : meth.sig.returnType = none) (hd : decode cc pc = .ok (.return_, 1)) (hm : some w = some w') (hu : u = fin w) : zG p l e R s m args below meth c nL D A (MQ below (zQv (zBw D (wM cA ad (fin w'))) A) args s 0 0 A) (wM cA ad u) lv pc [] := by
  obtain rfl := Option.some.inj hm
  exact z_vret C hr hd (fun _ h => hu ▸ h)
theorem kB_m38 : (Int8.ofInt (-38)).toInt32 = (-38 : Int32) := by decide
theorem kB_m33 : (Int8.ofInt (-33)).toInt32 = (-33 : Int32) := by decide
theorem kB_m14 : (Int8.ofInt (-14)).toInt32 = (-14 : Int32) := by decide
theorem kB_m13 : (Int8.ofInt (-13)).toInt32 = (-13 : Int32) := by decide
theorem kB_m12 : (Int8.ofInt (-12)).toInt32 = (-12 : Int32) := by decide
theorem kB_m11 : (Int8.ofInt (-11)).toInt32 = (-11 : Int32) := by decide
theorem kB_m10 : (Int8.ofInt (-10)).toInt32 = (-10 : Int32) := by decide
theorem kB_m5 : (Int8.ofInt (-5)).toInt32 = (-5 : Int32) := by decide
theorem kB_m4 : (Int8.ofInt (-4)).toInt32 = (-4 : Int32) := by decide
theorem kB_m3 : (Int8.ofInt (-3)).toInt32 = (-3 : Int32) := by decide
theorem kB_m2 : (Int8.ofInt (-2)).toInt32 = (-2 : Int32) := by decide
theorem kB_6 : (Int8.ofInt (6)).toInt32 = (6 : Int32) := by decide
theorem kB_8 : (Int8.ofInt (8)).toInt32 = (8 : Int32) := by decide
theorem kB_9 : (Int8.ofInt (9)).toInt32 = (9 : Int32) := by decide
theorem kB_10 : (Int8.ofInt (10)).toInt32 = (10 : Int32) := by decide
theorem kB_11 : (Int8.ofInt (11)).toInt32 = (11 : Int32) := by decide
theorem kB_12 : (Int8.ofInt (12)).toInt32 = (12 : Int32) := by decide
theorem kB_15 : (Int8.ofInt (15)).toInt32 = (15 : Int32) := by decide
theorem kB_16 : (Int8.ofInt (16)).toInt32 = (16 : Int32) := by decide
theorem kB_19 : (Int8.ofInt (19)).toInt32 = (19 : Int32) := by decide
theorem kB_20 : (Int8.ofInt (20)).toInt32 = (20 : Int32) := by decide
theorem kB_30 : (Int8.ofInt (30)).toInt32 = (30 : Int32) := by decide
theorem kB_32 : (Int8.ofInt (32)).toInt32 = (32 : Int32) := by decide
theorem kB_33 : (Int8.ofInt (33)).toInt32 = (33 : Int32) := by decide
theorem kB_38 : (Int8.ofInt (38)).toInt32 = (38 : Int32) := by decide
theorem kB_39 : (Int8.ofInt (39)).toInt32 = (39 : Int32) := by decide
theorem kB_40 : (Int8.ofInt (40)).toInt32 = (40 : Int32) := by decide
theorem kB_41 : (Int8.ofInt (41)).toInt32 = (41 : Int32) := by decide
theorem kB_48 : (Int8.ofInt (48)).toInt32 = (48 : Int32) := by decide
theorem kB_50 : (Int8.ofInt (50)).toInt32 = (50 : Int32) := by decide
theorem kB_51 : (Int8.ofInt (51)).toInt32 = (51 : Int32) := by decide
theorem kB_57 : (Int8.ofInt (57)).toInt32 = (57 : Int32) := by decide
theorem kB_59 : (Int8.ofInt (59)).toInt32 = (59 : Int32) := by decide
theorem kB_60 : (Int8.ofInt (60)).toInt32 = (60 : Int32) := by decide
theorem kB_62 : (Int8.ofInt (62)).toInt32 = (62 : Int32) := by decide
theorem kB_70 : (Int8.ofInt (70)).toInt32 = (70 : Int32) := by decide
theorem kB_71 : (Int8.ofInt (71)).toInt32 = (71 : Int32) := by decide
theorem kB_99 : (Int8.ofInt (99)).toInt32 = (99 : Int32) := by decide
theorem kB_100 : (Int8.ofInt (100)).toInt32 = (100 : Int32) := by decide
theorem kB_121 : (Int8.ofInt (121)).toInt32 = (121 : Int32) := by decide
theorem kB_124 : (Int8.ofInt (124)).toInt32 = (124 : Int32) := by decide
theorem kc_0 : (0 : Int32).toInt = (0 : Int) := by decide
theorem kc_1 : (1 : Int32).toInt = (1 : Int) := by decide
theorem kc_2 : (2 : Int32).toInt = (2 : Int) := by decide
theorem kc_3 : (3 : Int32).toInt = (3 : Int) := by decide
theorem kc_4 : (4 : Int32).toInt = (4 : Int) := by decide
theorem kc_5 : (5 : Int32).toInt = (5 : Int) := by decide
theorem kc_6 : (6 : Int32).toInt = (6 : Int) := by decide
theorem kc_7 : (7 : Int32).toInt = (7 : Int) := by decide
theorem kc_101 : (101 : Int32).toInt = (101 : Int) := by decide
theorem kc_102 : (102 : Int32).toInt = (102 : Int) := by decide
theorem kc_103 : (103 : Int32).toInt = (103 : Int) := by decide
theorem kc_104 : (104 : Int32).toInt = (104 : Int) := by decide
theorem kc_105 : (105 : Int32).toInt = (105 : Int) := by decide
theorem kc_106 : (106 : Int32).toInt = (106 : Int) := by decide
theorem kc_107 : (107 : Int32).toInt = (107 : Int) := by decide
theorem kc_108 : (108 : Int32).toInt = (108 : Int) := by decide
theorem kc_109 : (109 : Int32).toInt = (109 : Int) := by decide
theorem kc_110 : (110 : Int32).toInt = (110 : Int) := by decide
theorem kc_111 : (111 : Int32).toInt = (111 : Int) := by decide
theorem kc_112 : (112 : Int32).toInt = (112 : Int) := by decide
theorem kc_113 : (113 : Int32).toInt = (113 : Int) := by decide
theorem kc_114 : (114 : Int32).toInt = (114 : Int) := by decide
theorem kc_115 : (115 : Int32).toInt = (115 : Int) := by decide
theorem kc_116 : (116 : Int32).toInt = (116 : Int) := by decide
theorem kI_m1 : Int32.ofInt (-1) = (-1 : Int32) := by decide
theorem kI_0 : Int32.ofInt (0) = (0 : Int32) := by decide
theorem kI_1 : Int32.ofInt (1) = (1 : Int32) := by decide
theorem kI_2 : Int32.ofInt (2) = (2 : Int32) := by decide
theorem kI_3 : Int32.ofInt (3) = (3 : Int32) := by decide
theorem kI_4 : Int32.ofInt (4) = (4 : Int32) := by decide
theorem kI_5 : Int32.ofInt (5) = (5 : Int32) := by decide
theorem kL_0 : Int64.ofNat ((0 : Fin 2) : Nat) = (0 : Int64) := by decide
theorem kL_1 : Int64.ofNat ((1 : Fin 2) : Nat) = (1 : Int64) := by decide
theorem kS_1000 : (Int16.ofInt (1000)).toInt32 = (1000 : Int32) := by decide
