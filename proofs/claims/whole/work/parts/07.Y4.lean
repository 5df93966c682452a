/-! 07.Y4: FarVoice.voice; by wip/whole/gen/genX.py -/
def zPreN (D : va_G) (tys : List (ClassId × FieldType)) (E : zEt) (A : Nat → Prop) (sz : Nat) (ws : va_W) (U : State) : Prop := U.heap.size = sz ∧ zPre D tys E A ws U
theorem zPreN_blind {D : va_G} {tys : List (ClassId × FieldType)} {E : zEt} {A : Nat → Prop} {sz : Nat} {ws : va_W} {av : List Value} : FrameBlind (va_Pc av (zPreN D tys E A sz ws)) := fun x U g mk h => ⟨h.1, h.2.1, (zPre_blind x U g mk ⟨h.1, h.2.2⟩).2⟩
theorem y_metN {l : Launch} {D : va_G} {tys : List (ClassId × FieldType)} {E : zEt} {A : Nat → Prop} {y : MethodName} {cc : ByteArray} {maxL : Nat} {own : String} {d mc ms sz : Nat} {av : List Value} {ws : va_W} {ret : Option FieldType} {Qc : Array Value → State → Outcome → State → Prop} {lv : List (Nat × Value)} (hy : plainName own = true) (ho : y.cls = own) (hn : (lg_sl av).length ≤ maxL) (hlv : lv_args 0 av = lv) (hD : va_D A ws)
    (h : ∀ (p : Program) (e : Env) (s : State) (m : MethodId) (below : List Frame) (meth : Method) (c : Code), zC p s m av.toArray meth c cc maxL own zTS D tys A E → meth.sig.returnType = ret → s.heap.size = sz → yG p l e (zRmA d mc ms) s m av.toArray below meth c maxL D A (MQ below Qc av.toArray s mc ms A) 0 0 ws lv 0 []) : Met l y (zWs y cc maxL ret) (zRmA d mc ms) (va_Pc av (zPreN D tys E A sz ws)) Qc mc ms A := by
  subst ho
  refine Met.ofW (cc := cc) (maxL := maxL) (ret := ret) hy rfl ?_
  intro p e s m args below meth c s₁ B hml hv
  obtain ⟨rfl, hsz, hP, hK, hE1, hE2⟩ := hv
  have hl := lv_entry av hn
  rw [hlv] at hl
  have hts := atoms_spec (ws := zWs y cc maxL ret) B.pre
  have hg := h p e s m below meth c ⟨⟨B.exec, B.bytes, hml, findClass_of_methodNamed B.named, fun w hw => hts w (List.mem_cons_of_mem _ hw)⟩, hK, B.notSynchronized, hE1, hE2⟩ B.returns hsz
  rw [lg_entry_eq]
  exact hg s.heap [] _ hP hD va_S.rf hl
def wVf (cA : Nat → ClassId) (ad : Nat → Nat) (a b c : Nat → Option Nat) (vT vH vA : Value) (u : SV) : va_W := ([(ad 0, .inr (7, fV ad u)), (ad 1, .inl (cA 0, 8, .inl (V_far u))), (ad 2, .inl (cA 0, 8, .inl (V_side u))), (ad 3, .inl (cA 3, 100, .inl (V_text u))), (ad 4, .inl (cA 4, zRefs 6 a)), (ad 5, .inl (cA 6, zRefs 10 b)), (ad 6, .inl (cA 5, zRefs 6 c))] ++ (wS cA (fun i => ad (7 + i)) (V_stage u) ++ (wS cA (fun i => ad (9 + i)) (V_image u) ++ ([(ad 11, .inr (3, [vT, .int (V_rlen u), .int (V_rat u), vH]))] ++ (wB cA (fun i => ad (12 + i)) vA (V_acting u) ++ wK cA (fun i => ad (14 + i)) (V_look u)))))) ++ (wVh cA ad (V_hs u) 0 ++ (wVh cA ad (V_hs u) 1 ++ (wVh cA ad (V_hs u) 2 ++ (wVh cA ad (V_hs u) 3 ++ (wVh cA ad (V_hs u) 4 ++ (wVh cA ad (V_hs u) 5 ++ (wVt cA ad (V_ts u) 0 ++ (wVt cA ad (V_ts u) 1 ++ (wVt cA ad (V_ts u) 2 ++ (wVt cA ad (V_ts u) 3 ++ (wVt cA ad (V_ts u) 4 ++ (wVt cA ad (V_ts u) 5))))))))))))
theorem wV_f (cA : Nat → ClassId) (ad : Nat → Nat) (vT vH vA : Value) (u : SV) : wV cA ad vT vH vA u = wVf cA ad (fVh ad) (fVv ad u) (fVt ad) vT vH vA u ++ wVo ad (V_vo u) (V_nv u) := rfl
theorem wVf_l (cA : Nat → ClassId) (ad : Nat → Nat) (a b c : Nat → Option Nat) (vT vH vA : Value) (u : SV) : wVf cA ad a b c vT vH vA u = wVf cA (fun i => ((List.range 70).map ad).getD i 0) a b c vT vH vA u := rfl
theorem wVf_congr {cA : Nat → ClassId} {ad ad' : Nat → Nat} {a b c : Nat → Option Nat} {vT vH vA : Value} {u : SV} (h : ∀ i, i < 70 → ad' i = ad i) : wVf cA ad' a b c vT vH vA u = wVf cA ad a b c vT vH vA u := by
  have hm : (List.range 70).map ad' = (List.range 70).map ad := List.map_congr_left (fun i hi => h i (List.mem_range.mp hi))
  rw [wVf_l cA ad', wVf_l cA ad, hm]
theorem wVo_congr {ad ad' : Nat → Nat} {o o' : Nat → SO} {n : Nat} (h : ∀ i, i < n → ad' (70 + i) = ad (70 + i)) (ho : ∀ i, i < n → o' i = o i) : wVo ad' o' n = wVo ad o n := by
  unfold wVo
  refine List.map_congr_left (fun i hi => ?_)
  have hi' := List.mem_range.mp hi
  rw [h i hi', ho i hi']
  rfl
theorem zV_chg {D : va_G} {cA : Nat → ClassId} {ad : Nat → Nat} {a b c a' b' c' : Nat → Option Nat} {vT vH vA : Value} {u : SV} {tl : va_W} {H : Heap} (h : va_P D vwCl (wVf cA ad a b c vT vH vA u ++ tl) H) (ha : ∀ j, j < 6 → a j = a' j) (hb : ∀ j, j < 10 → b j = b' j) (hc : ∀ j, j < 6 → c j = c' j) : va_P D vwCl (wVf cA ad a' b' c' vT vH vA u ++ tl) H :=
  zP_chg (zP_chg (zP_chg h 4 rfl ha) 5 rfl hb) 6 rfl hc
/-- only the addresses in use count -/
theorem zV_re {D : va_G} {cA : Nat → ClassId} {ad ad' : Nat → Nat} {vT vH vA : Value} {u : SV} {H : Heap} (h : ∀ i, i < 70 + V_nv u → ad' i = ad i) (hP : va_P D vwCl (wV cA ad vT vH vA u) H) : va_P D vwCl (wV cA ad' vT vH vA u) H := by
  rw [wV_f] at hP ⊢
  rw [wVf_congr (ad := ad) (fun i hi => h i (by omega)), wVo_congr (ad := ad) (o := V_vo u) (fun i hi => h (70 + i) (by omega)) (fun _ _ => rfl)]
  refine zV_chg hP (fun j hj => ?_) (fun j hj => ?_) (fun j hj => ?_)
  · show some _ = some _
    rw [h _ (by omega)]
  · show (if j < V_nv u then some (ad (70 + j)) else none) = (if j < V_nv u then some (ad' (70 + j)) else none)
    by_cases hjn : j < V_nv u
    · rw [if_pos hjn, if_pos hjn, h _ (by omega)]
    · rw [if_neg hjn, if_neg hjn]
  · show some _ = some _
    rw [h _ (by omega)]
def V_add (p q : Int32) (u : SV) : SV := V_set_voiceCount (V_voiceCount u + 1) (V_set_vo (fun k => if k = V_nv u then (V_voiceCount u, (p, q)) else V_vo u k) u)
def mV_voice (p q : Int32) (u : SV) : Option (Int32 × SV) :=
  if p < 0 then some (-1, u) else if p ≤ 6 then
    if q < 0 then some (-2, u) else if q ≤ 9 then
      if V_voiceCount u < 10 then zgi (V_voiceCount u) 10 (some (V_voiceCount u + 1 - 1, V_add p q u)) else some (-4, u)
    else some (-2, u)
  else some (-1, u)
theorem zI_succ {x : Int32} (h : ¬ x < 0) (h2 : x.toNatClampNeg < 10) : (x + 1).toNatClampNeg = x.toNatClampNeg + 1 := by
  have h3 : ∀ y : Int32, y.toNatClampNeg = y.toInt.toNat := fun _ => rfl
  have h5 : (0 : Int32).toInt = 0 := rfl
  have h6 : (1 : Int32).toInt = 1 := rfl
  have h4 : 0 ≤ x.toInt := by
    have := mt Int32.lt_iff_toInt_lt.mpr h
    rw [h5] at this
    omega
  rw [h3] at h2
  rw [h3, h3, Int32.toInt_add, h6, Int.bmod_eq_of_le (by omega) (by omega)]
  omega
def zBv (D : va_G) (cA : Nat → ClassId) (ad : Nat → Nat) (sz : Nat) (vT vH vA : Value) (u : SV) (H : Heap) : Prop := ∃ ad' : Nat → Nat, zInj ad' 80 ∧ (∀ i, i < 80 → (∃ j, j < 80 ∧ ad' i = ad j) ∨ sz ≤ ad' i) ∧ ad' 0 = ad 0 ∧ va_P D vwCl (wV cA ad' vT vH vA u) H
theorem V_nv_c {u : SV} (h0 : zIn (V_voiceCount u) 10) : V_nv u = (V_voiceCount u).toNatClampNeg ∧ V_nv u < 10 ∧ ∀ (p q : Int32), V_nv (V_add p q u) = V_nv u + 1 := by
  have h1 : ¬ (V_voiceCount u < 0 ∨ 10 ≤ (V_voiceCount u).toNatClampNeg) := h0
  have h2 : (V_voiceCount u).toNatClampNeg < 10 := by omega
  have h3 : V_nv u = (V_voiceCount u).toNatClampNeg := Nat.min_eq_right (Nat.le_of_lt h2)
  refine ⟨h3, h3 ▸ h2, fun p q => ?_⟩
  have h4 : (V_voiceCount u + 1).toNatClampNeg = (V_voiceCount u).toNatClampNeg + 1 := zI_succ (fun h => h1 (Or.inl h)) h2
  show min 10 (V_voiceCount u + 1).toNatClampNeg = _
  rw [h4, h3]
  exact Nat.min_eq_right h2
theorem zV_keep {D : va_G} {cA : Nat → ClassId} {ad : Nat → Nat} {sz : Nat} {vT vH vA : Value} {u : SV} {H : Heap} (hI : zInj ad 80) (hP : va_P D vwCl (wV cA ad vT vH vA u) H) : zBv D cA ad sz vT vH vA u H := ⟨ad, hI, fun i hi => Or.inl ⟨i, hi, rfl⟩, rfl, hP⟩
theorem wVo_succ (ad : Nat → Nat) (o : Nat → SO) (n : Nat) : wVo ad o (n + 1) = wVo ad o n ++ [(ad (70 + n), .inr (6, fO_o (fun j => ad (70 + n + j)) (o n)))] := by
  unfold wVo
  rw [List.range_succ, List.map_append]
  rfl
theorem zV_grow {D : va_G} {cA : Nat → ClassId} {A : Nat → Prop} {ad ad1 : Nat → Nat} {sz : Nat} {vT vH vA : Value} {u : SV} {p q : Int32} {H : Heap} (hI : zInj ad 80) (h0 : zIn (V_voiceCount u) 10) (hsz : sz ≤ H.size) (hq : (∃ j, j < 80 ∧ ad1 0 = ad j) ∨ sz ≤ ad1 0)
    (hP : va_P D vwCl (wVf cA ad (fVh ad) (va_up (fVv ad u) (V_voiceCount u).toNatClampNeg (some (ad1 0))) (fVt ad) vT vH vA (V_add p q u) ++ (wVo ad (V_vo u) (V_nv u) ++ wO cA ad1 (V_voiceCount u, (p, q)))) H)
    (hD : va_D A (wVf cA ad (fVh ad) (va_up (fVv ad u) (V_voiceCount u).toNatClampNeg (some (ad1 0))) (fVt ad) vT vH vA (V_add p q u) ++ (wVo ad (V_vo u) (V_nv u) ++ wO cA ad1 (V_voiceCount u, (p, q))))) : zBv D cA ad sz vT vH vA (V_add p q u) H := by
  obtain ⟨hn1, hn2, hn3⟩ := V_nv_c h0
  have hn3 := hn3 p q
  let ad' : Nat → Nat := fun i => if i < 70 + V_nv u then ad i else if i = 70 + V_nv u then ad1 0 else H.size + i
  have e1 : ∀ i, i < 70 + V_nv u → ad' i = ad i := fun i hi => if_pos hi
  have e2 : ad' (70 + V_nv u) = ad1 0 := by
    show (if _ then _ else _) = _
    rw [if_neg (Nat.lt_irrefl _), if_pos rfl]
  have e3 : ∀ i, 70 + V_nv u < i → ad' i = H.size + i := fun i hi => by
    show (if _ then _ else _) = _
    rw [if_neg (by omega), if_neg (by omega)]
  have ho : ∀ k, V_vo (V_add p q u) k = if k = V_nv u then (V_voiceCount u, (p, q)) else V_vo u k := fun _ => rfl
  have heq : wVf cA ad (fVh ad') (fVv ad' (V_add p q u)) (fVt ad') vT vH vA (V_add p q u) ++ (wVo ad (V_vo u) (V_nv u) ++ wO cA ad1 (V_voiceCount u, (p, q))) = wV cA ad' vT vH vA (V_add p q u) := by
    rw [wV_f, hn3, wVo_succ, wVf_congr (ad := ad) (fun i hi => e1 i (by omega)), wVo_congr (ad := ad) (o := V_vo u) (fun i hi => e1 (70 + i) (by omega)) (fun i hi => by rw [ho, if_neg (by omega)]), ho, if_pos rfl, e2]
    rfl
  have hP2 : va_P D vwCl (wV cA ad' vT vH vA (V_add p q u)) H := by
    rw [← heq]
    refine zV_chg hP (fun j hj => ?_) (fun j hj => ?_) (fun j hj => ?_)
    · show some _ = some _
      rw [e1 _ (by omega)]
    · show (if j = _ then some (ad1 0) else (if j < V_nv u then some (ad (70 + j)) else none)) = (if j < V_nv (V_add p q u) then some (ad' (70 + j)) else none)
      rw [hn3, ← hn1]
      by_cases hj1 : j = V_nv u
      · subst hj1
        rw [if_pos rfl, if_pos (Nat.lt_succ_self _), e2]
      · by_cases hj2 : j < V_nv u
        · rw [if_neg hj1, if_pos hj2, if_pos (by omega), e1 _ (by omega)]
        · rw [if_neg hj1, if_neg hj2, if_neg (by omega)]
    · show some _ = some _
      rw [e1 _ (by omega)]
  have hD2 : va_D A (wV cA ad' vT vH vA (V_add p q u)) := by
    refine zD_fst ?_ hD
    rw [← heq]
    rfl
  have hI1 : zInj ad' (70 + V_nv u + 1) := (zD_inj (by rw [wV_fst, hn3]; rfl) hD2).1
  have hlt : ∀ i, i < 70 + V_nv u + 1 → ad' i < H.size := by
    intro i hi
    have hf : ((wV cA ad' vT vH vA (V_add p q u)).map Prod.fst)[i]? = some (ad' i) := by
      rw [wV_fst, hn3, List.getElem?_map, List.getElem?_range (by omega)]
      rfl
    rw [List.getElem?_map] at hf
    cases hz : (wV cA ad' vT vH vA (V_add p q u))[i]? with
    | none => rw [hz] at hf; cases hf
    | some z =>
      rw [hz] at hf
      have := (hP2 i z hz).lt
      rw [← Option.some.inj hf]
      exact this
  refine ⟨ad', fun i j hi hj hij => ?_, fun i hi => ?_, e1 0 (by omega), hP2⟩
  · by_cases hi1 : i < 70 + V_nv u + 1 <;> by_cases hj1 : j < 70 + V_nv u + 1
    · exact hI1 i j hi1 hj1 hij
    · have := hlt i hi1; rw [e3 j (by omega)] at hij; omega
    · have := hlt j hj1; rw [e3 i (by omega)] at hij; omega
    · rw [e3 i (by omega), e3 j (by omega)] at hij; omega
  · by_cases hi1 : i < 70 + V_nv u
    · exact Or.inl ⟨i, by omega, e1 i hi1⟩
    · by_cases hi2 : i = 70 + V_nv u
      · rw [hi2, e2]; exact hq
      · exact Or.inr (by rw [e3 i (by omega)]; omega)
theorem y_newX7_45 {p : Program} {l : Launch} {e : Env} {R : Room} {s : State} {m : MethodId} {args : Array Value} {below : List Frame} {meth : Method} {c : Code} {Q : State → Prop} {D : va_G} {A : Nat → Prop} {cc : ByteArray} {nL : Nat} {lv : List (Nat × Value)} {pc : Nat} {st : List Value} {cA : Nat → ClassId} {E : zEt} {k9 n9 : Nat} {ws : va_W} (C : zC p s m args meth c cc nL RX7 zTS D (zTy cA) A E) (hA : ∀ q, s.heap.size ≤ q → A q) (hc : k9 + 1 ≤ R.cells) (hs : n9 + 3 ≤ R.slots) (hd : decode cc pc = .ok (.new 45, 3)) (g : ∀ q : Nat, yG p l e R s m args below meth c nL D A Q (k9 + 1) (n9 + 3) (ws ++ [(q, .inr (6, [.int 0, .int 0, .int 0]))]) lv (pc + 3) (.ref q :: st)) : yG p l e R s m args below meth c nL D A Q k9 n9 ws lv pc st := fun H locs ls hP hDD hS hL => va_new (ci := 6) (fs := [.int 0, .int 0, .int 0]) (C := RX6) (T := TX6) (N := 3) C.1.1 C.1.2.1 C.1.2.2.2.2 inlX6 tyX6 tyX6_ok C.1.2.2.2.1 (C.1.2.2.2.2 _ (zMem 174 (by decide +kernel) rfl)) (C.1.2.2.2.2 _ (zMem 597 (by decide +kernel) rfl)) (C.1.2.2.2.2 _ (zMem 105 (by decide +kernel) rfl)) C.2.1 hP hDD hS hA rfl (fun j hj => by
  have : j = 0 ∨ j = 1 ∨ j = 2 := by omega
  rcases this with rfl | rfl | rfl <;> rfl) hc hs hd (fun q H1 hP1 hD1 hS1 => g q H1 locs ls hP1 hD1 hS1 hL)
theorem y_get47 {p : Program} {l : Launch} {e : Env} {R : Room} {s : State} {m : MethodId} {args : Array Value} {below : List Frame} {meth : Method} {c : Code} {Q : State → Prop} {D : va_G} {A : Nat → Prop} {cc : ByteArray} {nL : Nat} {lv : List (Nat × Value)} {pc : Nat} {st : List Value} {cA : Nat → ClassId} {E : zEt} {k9 n9 : Nat} {ws : va_W} (C : zC p s m args meth c cc nL RX7 zTS D (zTy cA) A E) {q0 a : Nat} {fs : List Value} {v : Value} (he : ws[q0]? = some (a, .inr (7, fs))) (hv : fs[11]? = some v) (hd : decode cc pc = .ok (.getfield 47, 3)) (g : yG p l e R s m args below meth c nL D A Q k9 n9 ws lv (pc + 3) (v :: st)) : yG p l e R s m args below meth c nL D A Q k9 n9 ws lv pc (.ref a :: st) := fun H locs ls hP hDD hS hL => va_get (D := D) (ci := 7) (C := RX7) (T := TX7) (N := 16) C.1.1 C.1.2.1 C.1.2.2.2.2 inlX7 C.1.2.2.2.1 C.2.1 hP q0 he rfl 11 (by decide) (C.1.2.2.2.2 _ mfX7_47) (fun _ h9 => h9) hv hd (g H locs ls hP hDD hS hL)
theorem y_get133 {p : Program} {l : Launch} {e : Env} {R : Room} {s : State} {m : MethodId} {args : Array Value} {below : List Frame} {meth : Method} {c : Code} {Q : State → Prop} {D : va_G} {A : Nat → Prop} {cc : ByteArray} {nL : Nat} {lv : List (Nat × Value)} {pc : Nat} {st : List Value} {cA : Nat → ClassId} {E : zEt} {k9 n9 : Nat} {ws : va_W} (C : zC p s m args meth c cc nL RX7 zTS D (zTy cA) A E) {q0 a : Nat} {fs : List Value} {v : Value} (he : ws[q0]? = some (a, .inr (7, fs))) (hv : fs[12]? = some v) (hd : decode cc pc = .ok (.getfield 133, 3)) (g : yG p l e R s m args below meth c nL D A Q k9 n9 ws lv (pc + 3) (v :: st)) : yG p l e R s m args below meth c nL D A Q k9 n9 ws lv pc (.ref a :: st) := fun H locs ls hP hDD hS hL => va_get (D := D) (ci := 7) (C := RX7) (T := TX7) (N := 16) C.1.1 C.1.2.1 C.1.2.2.2.2 inlX7 C.1.2.2.2.1 C.2.1 hP q0 he rfl 12 (by decide) (C.1.2.2.2.2 _ mfX7_133) (fun _ h9 => h9) hv hd (g H locs ls hP hDD hS hL)
theorem iX7_133 {p : Program} {l : Launch} {e : Env} {R : Room} {s : State} {m : MethodId} {args : Array Value} {below : List Frame} {meth : Method} {c : Code} {Q : State → Prop} {D : va_G} {A : Nat → Prop} {cc : ByteArray} {nL : Nat} {lv : List (Nat × Value)} {pc : Nat} {st : List Value} {cA : Nat → ClassId} {E : zEt} {k9 n9 : Nat} {ws : va_W} {q0 a : Nat} {fs : List Value} {v : Int32} (C : zC p s m args meth c cc nL RX7 zTS D (zTy cA) A E) (he : ws[q0]? = some (a, .inr (7, fs))) (hl : 12 < fs.length) (hd : decode cc pc = .ok (.putfield 133, 3)) (g : yG p l e R s m args below meth c nL D A Q k9 n9 (ws.set q0 (a, .inr (7, fs.set 12 (.int v)))) lv (pc + 3) (st)) : yG p l e R s m args below meth c nL D A Q k9 n9 ws lv pc (.int v :: .ref a :: st) := fun H locs ls hP hDD hS hL => va_put (D := D) (ci := 7) (C := RX7) (T := TX7) (N := 16) C.1.1 C.1.2.1 C.1.2.2.2.2 inlX7 tyX7 tyX7_ok nmX7 C.1.2.2.2.1 C.2.1 hP hDD hS q0 he rfl 12 (by decide) (C.1.2.2.2.2 _ mfX7_133) (fun _ h9 => h9) rfl (ty := .int) (by decide +kernel) rfl rfl hl hd (fun H1 locs1 hP1 hD1 hS1 => g H1 locs1 ls hP1 hD1 hS1 hL)
theorem cc7_136 {R : Room} {s : State} {args : Array Value} (ht : ∀ w ∈ zTS, w.before args s = true) {rm : Room} (hc : rm.cells = 0) (hs : rm.slots = 0) (hR : rm.frames + 1 ≤ R.frames ∧ 8 + (4 + 11) + rm.locals ≤ R.locals) : CallB R s args RX7 136 yX6_init cX6_init 4 none (zWs yX6_init cX6_init 4 none) rm 0 0 3 ∧ yX6_init.name = "<init>" ∧ (Cond.instanceMethod yX6_init).before args s = true := ⟨callB_of 3 ht (zGoodIn (zMem 600 (by decide +kernel) rfl)) rfl hc hs (ht _ (zMem 105 (by decide +kernel) rfl)) (ht _ (zMem 598 (by decide +kernel) rfl)) (by decide +kernel) hR, rfl, ht _ (zMem 599 (by decide +kernel) rfl)⟩
theorem cV_voice {l : Launch} {D : va_G} {cA : Nat → ClassId} {tK tB : Nat} {kS vS : Nat → Nat} {ad : Nat → Nat} {vT vH vA : Value} {sz : Nat} (hI : zInj ad 80) (p q : Int32) (u : SV) {r : Int32} {u' : SV} (hm : mV_voice p q u = some (r, u')) : Met l yX7_voice (zWs yX7_voice cX7_voice 3 (some .int)) (zRmA 2 1 3) (va_Pc [.ref (ad 0), .int p, .int q] (zPreN D (zTy cA) (zE tK tB kS vS) (fun a => zAd ad 80 a ∨ sz ≤ a) sz (wV cA ad vT vH vA u))) (zQi r (zBv D cA ad sz vT vH vA u') (fun a => zAd ad 80 a ∨ sz ≤ a)) 1 3 (fun a => zAd ad 80 a ∨ sz ≤ a) := by
  refine y_metN (lv := [(0, .ref (ad 0)), (1, .int p), (2, .int q)]) plX7 rfl (Nat.le_of_ble_eq_true rfl) rfl (zD_mono (wV_D hI cA vT vH vA u) (fun _ h => Or.inl h)) ?_
  intro p' e s m below meth c hC hr hsz
  have hA : ∀ a, s.heap.size ≤ a → zAd ad 80 a ∨ sz ≤ a := fun a h => Or.inr (hsz ▸ h)
  have e1 : yG p' l e (zRmA 2 1 3) s m #[.ref (ad 0), .int p, .int q] below meth c 3 D (fun a => zAd ad 80 a ∨ sz ≤ a) (MQ below (zQi (-1) (zBv D cA ad sz vT vH vA u) (fun a => zAd ad 80 a ∨ sz ≤ a)) #[.ref (ad 0), .int p, .int q] s 1 3 (fun a => zAd ad 80 a ∨ sz ≤ a)) 0 0 (wV cA ad vT vH vA u) [(0, .ref (ad 0)), (1, .int p), (2, .int q)] 10 [] := by
    refine yG_of (k8 := 1) (n8 := 3) (Nat.zero_le _) (Nat.zero_le _) ?_
    refine y_iconst hC dX7_voice_10 kI_m1 ?_
    exact y_iret hC hr rfl dX7_voice_11 (fun H h => zV_keep hI h) rfl
  have e2 : yG p' l e (zRmA 2 1 3) s m #[.ref (ad 0), .int p, .int q] below meth c 3 D (fun a => zAd ad 80 a ∨ sz ≤ a) (MQ below (zQi (-2) (zBv D cA ad sz vT vH vA u) (fun a => zAd ad 80 a ∨ sz ≤ a)) #[.ref (ad 0), .int p, .int q] s 1 3 (fun a => zAd ad 80 a ∨ sz ≤ a)) 0 0 (wV cA ad vT vH vA u) [(0, .ref (ad 0)), (1, .int p), (2, .int q)] 22 [] := by
    refine yG_of (k8 := 1) (n8 := 3) (Nat.zero_le _) (Nat.zero_le _) ?_
    refine y_bipush hC dX7_voice_22 kB_m2 ?_
    exact y_iret hC hr rfl dX7_voice_24 (fun H h => zV_keep hI h) rfl
  refine y_iload_n hC dX7_voice_0 rfl 1 rfl ?_
  refine y_if_lt (tgt := 10) hC hm dX7_voice_1 (by decide) (fun hm => by cases hm; exact e1) (fun hm => ?_)
  refine y_iload_n hC dX7_voice_4 rfl 1 rfl ?_
  refine y_bipush hC dX7_voice_5 kB_6 ?_
  refine y_icmp_le (tgt := 12) hC hm dX7_voice_7 (by decide) (fun hm => ?_) (fun hm => by cases hm; exact e1)
  refine y_iload_n hC dX7_voice_12 rfl 2 rfl ?_
  refine y_if_lt (tgt := 22) hC hm dX7_voice_13 (by decide) (fun hm => by cases hm; exact e2) (fun hm => ?_)
  refine y_iload_n hC dX7_voice_16 rfl 2 rfl ?_
  refine y_bipush hC dX7_voice_17 kB_9 ?_
  refine y_icmp_le (tgt := 25) hC hm dX7_voice_19 (by decide) (fun hm => ?_) (fun hm => by cases hm; exact e2)
  refine y_aload_n hC dX7_voice_25 rfl 0 rfl ?_
  refine y_get133 (v := .int (V_voiceCount u)) hC (q0 := 0) rfl rfl dX7_voice_26 ?_
  refine y_bipush hC dX7_voice_29 kB_10 ?_
  refine y_icmp_lt (tgt := 37) hC hm dX7_voice_31 (by decide) (fun hm => ?_) (fun hm => by
    cases hm
    refine yG_of (k8 := 1) (n8 := 3) (Nat.zero_le _) (Nat.zero_le _) ?_
    refine y_bipush hC dX7_voice_34 kB_m4 ?_
    exact y_iret hC hr rfl dX7_voice_36 (fun H h => zV_keep hI h) rfl)
  obtain ⟨h0, hm⟩ := zgi_some hm
  cases hm
  refine y_aload_n hC dX7_voice_37 rfl 0 rfl ?_
  refine y_get47 (v := .ref (ad 5)) hC (q0 := 0) rfl rfl dX7_voice_38 ?_
  refine y_aload_n hC dX7_voice_41 rfl 0 rfl ?_
  refine y_get133 (v := .int (V_voiceCount u)) hC (q0 := 0) rfl rfl dX7_voice_42 ?_
  refine y_newX7_45 hC hA (Nat.le_of_ble_eq_true rfl) (Nat.le_of_ble_eq_true rfl) dX7_voice_45 (fun a1 => ?_)
  refine y_dup hC dX7_voice_48 rfl ?_
  refine y_aload_n hC dX7_voice_49 rfl 0 rfl ?_
  refine y_get133 (v := .int (V_voiceCount u)) hC (q0 := 0) rfl rfl dX7_voice_50 ?_
  refine y_iload_n hC dX7_voice_53 rfl 1 rfl ?_
  refine y_iload_n hC dX7_voice_54 rfl 2 rfl ?_
  refine y_ctorI (As := [.int (V_voiceCount u), .int p, .int q]) (wr := wV cA ad vT vH vA u) hC hA (fun sz => cO_init (cA := cA) _ sz _ _ _) (cc7_136 hC.1.2.2.2.2 (rm := zRmA 1 0 0) rfl rfl ⟨Nat.le_of_ble_eq_true rfl, Nat.le_of_ble_eq_true rfl⟩) dX7_voice_55 rfl rfl (Nat.le_of_ble_eq_true rfl) ⟨Nat.le_of_ble_eq_true rfl, Nat.le_of_ble_eq_true rfl⟩ (fun ad1 e1 => ?_)
  subst e1
  have hl : (wV cA ad vT vH vA u ++ wO cA ad1 (V_voiceCount u, (p, q)))[(wV cA ad vT vH vA u).length]? = some (ad1 0, .inr (6, fO_o ad1 (V_voiceCount u, (p, q)))) := by
    rw [List.getElem?_append_right (Nat.le_refl _), Nat.sub_self]
    rfl
  refine y_astq6 (N := 10) (f := fVv ad u) (a := ad 5) hC (q0 := 5) (qk := (wV cA ad vT vH vA u).length) rfl hl h0 dX7_voice_58 ?_
  refine y_aload_n hC dX7_voice_59 rfl 0 rfl ?_
  refine y_dup hC dX7_voice_60 rfl ?_
  refine y_get133 (v := .int (V_voiceCount u)) hC (q0 := 0) rfl rfl dX7_voice_61 ?_
  refine y_iconst hC dX7_voice_64 kI_1 ?_
  refine y_iadd hC dX7_voice_65 ?_
  refine iX7_133 hC (q0 := 0) rfl (Nat.le_of_ble_eq_true rfl) dX7_voice_66 ?_
  refine yG_ws (ws2 := wVf cA ad (fVh ad) (va_up (fVv ad u) (V_voiceCount u).toNatClampNeg (some (ad1 0))) (fVt ad) vT vH vA (V_add p q u) ++ (wVo ad (V_vo u) (V_nv u) ++ wO cA ad1 (V_voiceCount u, (p, q)))) rfl ?_
  refine y_aload_n hC dX7_voice_69 rfl 0 rfl ?_
  refine y_get133 (v := .int (V_voiceCount u + 1)) hC (q0 := 0) rfl rfl dX7_voice_70 ?_
  refine y_iconst hC dX7_voice_73 kI_1 ?_
  refine y_isub hC dX7_voice_74 ?_
  intro H locs ls hP hDD hS hL
  have hfr : (∃ j, j < 80 ∧ ad1 0 = ad j) ∨ sz ≤ ad1 0 := by
    have hx := hDD.2 (70 + V_nv u) (ad1 0, .inr (6, fO_o ad1 (V_voiceCount u, (p, q)))) (by
      have e9 : (wVf cA ad (fVh ad) (va_up (fVv ad u) (V_voiceCount u).toNatClampNeg (some (ad1 0))) (fVt ad) vT vH vA (V_add p q u) ++ wVo ad (V_vo u) (V_nv u)).length = 70 + V_nv u := by
        rw [List.length_append, wVo, List.length_map, List.length_range]
        rfl
      rw [← List.append_assoc, List.getElem?_append_right (by rw [e9]; exact Nat.le_refl _), e9, Nat.sub_self]
      rfl)
    exact hx
  exact W.zret hC.1.1 hC.1.2.1 hr rfl (fun t ht hW => ⟨⟨_, (), rfl, rfl, by
    show zBv D cA ad sz vT vH vA (V_add p q u) t.heap
    rw [ht]
    exact zV_grow (A := fun a => zAd ad 80 a ∨ sz ≤ a) hI h0 (hsz ▸ hS.1) hfr hP hDD⟩, hS.F ht⟩) hS.2.2 dX7_voice_75 hC.2.2.1
theorem cV_voice0 {l : Launch} {D : va_G} {cA : Nat → ClassId} {tK tB : Nat} {kS vS : Nat → Nat} {ad : Nat → Nat} {vT vH vA : Value} {sz : Nat} (hI : zInj ad 80) (p q : Int32) (u : SV) {r : Int32} {u' : SV} (hm : mV_voice p q u = some (r, u')) (hneg : r < 0) : Met l yX7_voice (zWs yX7_voice cX7_voice 3 (some .int)) (zRmA 2 0 0) (va_Pc [.ref (ad 0), .int p, .int q] (zPreN D (zTy cA) (zE tK tB kS vS) (fun a => zAd ad 80 a ∨ sz ≤ a) sz (wV cA ad vT vH vA u))) (zQi r (zBw D (wV cA ad vT vH vA u')) (fun a => zAd ad 80 a ∨ sz ≤ a)) 0 0 (fun a => zAd ad 80 a ∨ sz ≤ a) := by
  refine y_metN (lv := [(0, .ref (ad 0)), (1, .int p), (2, .int q)]) plX7 rfl (Nat.le_of_ble_eq_true rfl) rfl (zD_mono (wV_D hI cA vT vH vA u) (fun _ h => Or.inl h)) ?_
  intro p' e s m below meth c hC hr hsz
  have hA : ∀ a, s.heap.size ≤ a → zAd ad 80 a ∨ sz ≤ a := fun a h => Or.inr (hsz ▸ h)
  have e1 : yG p' l e (zRmA 2 0 0) s m #[.ref (ad 0), .int p, .int q] below meth c 3 D (fun a => zAd ad 80 a ∨ sz ≤ a) (MQ below (zQi (-1) (zBw D (wV cA ad vT vH vA u)) (fun a => zAd ad 80 a ∨ sz ≤ a)) #[.ref (ad 0), .int p, .int q] s 0 0 (fun a => zAd ad 80 a ∨ sz ≤ a)) 0 0 (wV cA ad vT vH vA u) [(0, .ref (ad 0)), (1, .int p), (2, .int q)] 10 [] := by
    refine yG_of (k8 := 0) (n8 := 0) (Nat.zero_le _) (Nat.zero_le _) ?_
    refine y_iconst hC dX7_voice_10 kI_m1 ?_
    exact y_iret hC hr rfl dX7_voice_11 (fun H h => h) rfl
  have e2 : yG p' l e (zRmA 2 0 0) s m #[.ref (ad 0), .int p, .int q] below meth c 3 D (fun a => zAd ad 80 a ∨ sz ≤ a) (MQ below (zQi (-2) (zBw D (wV cA ad vT vH vA u)) (fun a => zAd ad 80 a ∨ sz ≤ a)) #[.ref (ad 0), .int p, .int q] s 0 0 (fun a => zAd ad 80 a ∨ sz ≤ a)) 0 0 (wV cA ad vT vH vA u) [(0, .ref (ad 0)), (1, .int p), (2, .int q)] 22 [] := by
    refine yG_of (k8 := 0) (n8 := 0) (Nat.zero_le _) (Nat.zero_le _) ?_
    refine y_bipush hC dX7_voice_22 kB_m2 ?_
    exact y_iret hC hr rfl dX7_voice_24 (fun H h => h) rfl
  refine y_iload_n hC dX7_voice_0 rfl 1 rfl ?_
  refine y_if_lt (tgt := 10) hC hm dX7_voice_1 (by decide) (fun hm => by cases hm; exact e1) (fun hm => ?_)
  refine y_iload_n hC dX7_voice_4 rfl 1 rfl ?_
  refine y_bipush hC dX7_voice_5 kB_6 ?_
  refine y_icmp_le (tgt := 12) hC hm dX7_voice_7 (by decide) (fun hm => ?_) (fun hm => by cases hm; exact e1)
  refine y_iload_n hC dX7_voice_12 rfl 2 rfl ?_
  refine y_if_lt (tgt := 22) hC hm dX7_voice_13 (by decide) (fun hm => by cases hm; exact e2) (fun hm => ?_)
  refine y_iload_n hC dX7_voice_16 rfl 2 rfl ?_
  refine y_bipush hC dX7_voice_17 kB_9 ?_
  refine y_icmp_le (tgt := 25) hC hm dX7_voice_19 (by decide) (fun hm => ?_) (fun hm => by cases hm; exact e2)
  refine y_aload_n hC dX7_voice_25 rfl 0 rfl ?_
  refine y_get133 (v := .int (V_voiceCount u)) hC (q0 := 0) rfl rfl dX7_voice_26 ?_
  refine y_bipush hC dX7_voice_29 kB_10 ?_
  refine y_icmp_lt (tgt := 37) hC hm dX7_voice_31 (by decide) (fun hm => ?_) (fun hm => by
    cases hm
    refine yG_of (k8 := 0) (n8 := 0) (Nat.zero_le _) (Nat.zero_le _) ?_
    refine y_bipush hC dX7_voice_34 kB_m4 ?_
    exact y_iret hC hr rfl dX7_voice_36 (fun H h => h) rfl)
  obtain ⟨h0, hm⟩ := zgi_some hm
  cases hm
  refine absurd hneg (fun hneg => h0 (Or.inl ?_))
  rw [Int32.add_sub_cancel] at hneg
  exact hneg
