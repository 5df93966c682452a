/-! 08.L0: rows of the law; by wip/whole/gen/genL.py -/
theorem y_xld {p : Program} {l : Launch} {e : Env} {R : Room} {s : State} {m : MethodId} {args : Array Value} {below : List Frame} {meth : Method} {c : Code} {Q : State → Prop} {D : va_G} {A : Nat → Prop} {cc : ByteArray} {nL : Nat} {own : String} {lv : List (Nat × Value)} {pc : Nat} {st : List Value} {Ts : List Cond} {tys : List (ClassId × FieldType)} {E : zEt} {k9 n9 : Nat} {ws : va_W} (C : zC p s m args meth c cc nL own Ts D tys A E) {b L : Nat} {xs : Nat → Int32} (hX : va_X b L xs s s.heap) (hbl : b < s.heap.size) (hbA : ¬ A b) {i : Int32} (hin : vp_in i L) (hd : decode cc pc = .ok (.iaload, 1)) (g : yG p l e R s m args below meth c nL D A Q k9 n9 ws lv (pc + 1) (.int (xs i.toNatClampNeg) :: st)) : yG p l e R s m args below meth c nL D A Q k9 n9 ws lv pc (.int i :: .ref b :: st) := fun H locs ls hP hDD hS hL => va_sld C.1.1 C.1.2.1 hX hbl hbA hS hin hd (g H locs ls hP hDD hS hL)
theorem y_xlen {p : Program} {l : Launch} {e : Env} {R : Room} {s : State} {m : MethodId} {args : Array Value} {below : List Frame} {meth : Method} {c : Code} {Q : State → Prop} {D : va_G} {A : Nat → Prop} {cc : ByteArray} {nL : Nat} {own : String} {lv : List (Nat × Value)} {pc : Nat} {st : List Value} {Ts : List Cond} {tys : List (ClassId × FieldType)} {E : zEt} {k9 n9 : Nat} {ws : va_W} (C : zC p s m args meth c cc nL own Ts D tys A E) {b L : Nat} {xs : Nat → Int32} (hX : va_X b L xs s s.heap) (hbl : b < s.heap.size) (hbA : ¬ A b) (hd : decode cc pc = .ok (.arraylength, 1)) (g : yG p l e R s m args below meth c nL D A Q k9 n9 ws lv (pc + 1) (.int (Int32.ofNat L) :: st)) : yG p l e R s m args below meth c nL D A Q k9 n9 ws lv pc (.ref b :: st) := fun H locs ls hP hDD hS hL => va_slen C.1.1 C.1.2.1 hX hbl hbA hS hd (g H locs ls hP hDD hS hL)
theorem y_calliE {p : Program} {l : Launch} {e : Env} {R : Room} {s : State} {m : MethodId} {args : Array Value} {below : List Frame} {meth : Method} {c : Code} {Q : State → Prop} {D : va_G} {A : Nat → Prop} {cc : ByteArray} {nL : Nat} {own : String} {lv : List (Nat × Value)} {pc : Nat} {st : List Value} {Ts : List Cond} {tys : List (ClassId × FieldType)} {E : zEt} {k9 n9 : Nat} {ι : Type} {f : ι → va_W} {Pf : ι → Prop} {ws : va_W} (C : zC p s m args meth c cc nL own Ts D tys A E) {y : MethodName} {bytes : ByteArray} {maxL n index mc ms : Nat} {ret : Option FieldType} {wsy : List Cond} {rm : Room} {B : Nat → Heap → Prop} {Pre : Nat → State → Prop} {Ac : Nat → Nat → Prop} {r : Int32} {Cn : String} {b ci : Nat} {fs : List Value} {As st0 : List Value} (hM : ∀ sz, Met l y wsy rm (va_Pc (.ref b :: As) (Pre sz)) (zQi r (B sz) (Ac sz)) mc ms (Ac sz)) (hbl : ∀ sz, FrameBlind (va_Pc (.ref b :: As) (Pre sz))) (hpre : ∀ (H : Heap) (U : State), va_P D vwCl ws H → va_D A ws → U.heap = H → va_K D vwCl tys U → zEok E → E (Ac H.size) U U.heap → Pre H.size U) (cw : CallW R s args own Cn index y bytes maxL ret wsy rm mc ms n) (hf : k9 + mc ≤ R.cells ∧ n9 + ms ≤ R.slots) (hd : decode cc pc = .ok (.invokevirtual index, 3)) (hst : st0 = As.reverse ++ .ref b :: st) (hn : As.length = n) (h8 : (st.map fun v => v.category).sum ≤ 8) (hrc : ∃ q : vw_C, q.1 = Cn ∧ vwCl[ci]? = some q) (he : (b, .inr (ci, fs)) ∈ ws) (hA : ∀ sz, s.heap.size ≤ sz → ∀ q, Ac sz q → A q) (hj : ∀ H H1 : Heap, va_P D vwCl ws H → va_D A ws → s.heap.size ≤ H.size → B H.size H1 → (∀ q : Nat, q < H.size → ¬ Ac H.size q → H1[q]? = H[q]?) → ∃ i, Pf i ∧ va_P D vwCl (f i) H1 ∧ va_D A (f i)) (g : ∀ i, Pf i → yG p l e R s m args below meth c nL D A Q (k9 + mc) (n9 + ms) (f i) lv (pc + 3) (.int r :: st)) : yG p l e R s m args below meth c nL D A Q k9 n9 ws lv pc st0 := by
  intro H locs ls hP hDD hS hL
  refine va_calli (va_runV (As := As) (rest := st) (g := F0 m pc ls st0) C.1 (hM H.size) cw ⟨hbl H.size, by obtain ⟨q, rfl, hq⟩ := hrc; exact zP_recv C.2.1 hP hq he, fun U hU hW => ⟨rfl, hpre H U hP hDD hU (va_K.moved hW.alike C.2.1) C.2.2.2.1 (zE_at C.2.2.2.1 C.2.2.2.2 hS hU hW (hA H.size hS.1))⟩⟩ rfl hn hL.1 hst (lv_room (Nat.le_of_ble_eq_true (Nat.ble_eq_true_of_le h8))) hd hf) hS (fun q _ h => hA H.size hS.1 q h) (hA H.size hS.1) (fun r1 u t H1 locs1 ht hvm hw hB hz hk hS1 => ?_)
  obtain rfl : r1 = r := hw
  obtain ⟨i, h1, h2, h3⟩ := hj H H1 hP hDD hS.1 (ht ▸ hB) hk
  exact g i h1 H1 locs1 ls h2 h3 hS1 hL
/-- where both worlds lie -/
def LF (ad adm : Nat → Nat) (N : Nat) : Prop := zInj ad 80 ∧ zInj adm 23 ∧ (∀ j, j < 80 → N ≤ ad j) ∧ (∀ j, j < 23 → N ≤ adm j) ∧ ∀ j k, j < 80 → k < 23 → ad j ≠ adm k
theorem LF_v {ad adm : Nat → Nat} {N : Nat} (F : LF ad adm N) : ∀ q, zAd ad 80 q → N ≤ q := by
  rintro q ⟨j, hj, rfl⟩
  exact F.2.2.1 j hj
theorem LF_m {ad adm : Nat → Nat} {N : Nat} (F : LF ad adm N) : ∀ q, zAd adm 23 q → N ≤ q := by
  rintro q ⟨j, hj, rfl⟩
  exact F.2.2.2.1 j hj
theorem LF_x {ad adm : Nat → Nat} {N : Nat} (F : LF ad adm N) : ∀ q, zAd ad 80 q → ¬ zAd adm 23 q := by
  rintro q ⟨j, hj, rfl⟩ ⟨k, hk, h⟩
  exact F.2.2.2.2 j k hj hk h
theorem LF_D {ad adm : Nat → Nat} {N : Nat} {cA : Nat → ClassId} {vT vH vA : Value} {u : SV} {v : SM} (F : LF ad adm N) : va_D (fun q => N ≤ q) (wV cA ad vT vH vA u ++ wM cA adm v) :=
  va_D.app (zD_mono (wV_D F.1 cA vT vH vA u) (LF_v F)) (zD_mono (zD_of F.2.1 rfl) (LF_m F)) (fun i j x y hx hy hxy => LF_x F x.1 ((wV_D F.1 cA vT vH vA u).2 i x hx) (hxy ▸ (zD_of (ws := wM cA adm v) F.2.1 rfl).2 j y hy))
theorem zJ_l {ad adm : Nat → Nat} {N : Nat} {D : va_G} {cA : Nat → ClassId} {vT vH vA vT' vH' vA' : Value} {u u' : SV} {v : SM} (F : LF ad adm N) : zJ D (wV cA ad vT vH vA u ++ wM cA adm v) (zBw D (wV cA ad vT' vH' vA' u')) (zAd ad 80) (wV cA ad vT' vH' vA' u' ++ wM cA adm v) := fun H H1 hP hB hk =>
  va_P.app hB (fun k q hq => ((zP_sub hP (fun _ h => List.mem_append_right _ h)) k q hq).kept (hk q.1 ((zP_sub hP (fun _ h => List.mem_append_right _ h)) k q hq).lt (fun h => LF_x F q.1 h ((zD_of (ws := wM cA adm v) F.2.1 rfl).2 k q hq))))
theorem zJ_r {ad adm : Nat → Nat} {N : Nat} {D : va_G} {cA : Nat → ClassId} {vT vH vA : Value} {u : SV} {v v' : SM} (F : LF ad adm N) : zJ D (wV cA ad vT vH vA u ++ wM cA adm v) (zBw D (wM cA adm v')) (zAd adm 23) (wV cA ad vT vH vA u ++ wM cA adm v') := fun H H1 hP hB hk =>
  va_P.app (fun k q hq => ((zP_sub hP (fun _ h => List.mem_append_left _ h)) k q hq).kept (hk q.1 ((zP_sub hP (fun _ h => List.mem_append_left _ h)) k q hq).lt (fun h => LF_x F q.1 ((wV_D F.1 cA vT vH vA u).2 k q hq) h))) hB
theorem zJ_v {ad adm : Nat → Nat} {N : Nat} {D : va_G} {cA : Nat → ClassId} {vT vH vA : Value} {u u' : SV} {v : SM} {H H1 : Heap} (F : LF ad adm N) (hP : va_P D vwCl (wV cA ad vT vH vA u ++ wM cA adm v) H) (hN : N ≤ H.size) (hB : zBv D cA ad H.size vT vH vA u' H1) (hk : ∀ q : Nat, q < H.size → ¬ (zAd ad 80 q ∨ H.size ≤ q) → H1[q]? = H[q]?) : ∃ ad', (LF ad' adm N ∧ ad' 0 = ad 0) ∧ va_P D vwCl (wV cA ad' vT vH vA u' ++ wM cA adm v) H1 ∧ va_D (fun q => N ≤ q) (wV cA ad' vT vH vA u' ++ wM cA adm v) := by
  obtain ⟨ad', h1, h2, h3, h4⟩ := hB
  have hM := zP_sub hP (wc := wM cA adm v) (fun _ h => List.mem_append_right _ h)
  have hDM := zD_of (ws := wM cA adm v) F.2.1 rfl
  have hlt : ∀ j, j < 23 → adm j < H.size := by
    intro j hj
    have hf : ((wM cA adm v).map Prod.fst)[j]? = some (adm j) := by
      rw [show (wM cA adm v).map Prod.fst = (List.range 23).map adm from rfl, List.getElem?_map, List.getElem?_range hj]
      rfl
    rw [List.getElem?_map] at hf
    cases hz : (wM cA adm v)[j]? with
    | none => rw [hz] at hf; cases hf
    | some z => rw [hz] at hf; rw [← Option.some.inj hf]; exact (hM j z hz).lt
  have F' : LF ad' adm N := by
    refine ⟨h1, F.2.1, fun j hj => ?_, F.2.2.2.1, fun j k hj hk => ?_⟩
    · rcases h2 j hj with ⟨i, hi, e⟩ | h
      · rw [e]; exact F.2.2.1 i hi
      · exact Nat.le_trans hN h
    · rcases h2 j hj with ⟨i, hi, e⟩ | h
      · rw [e]; exact F.2.2.2.2 i k hi hk
      · have := hlt k hk; omega
  refine ⟨ad', ⟨F', h3⟩, va_P.app h4 (fun k q hq => (hM k q hq).kept (hk q.1 (hM k q hq).lt ?_)), LF_D F'⟩
  rintro (h | h)
  · exact LF_x F q.1 h (hDM.2 k q hq)
  · have := (hM k q hq).lt; omega
theorem lg_cmp_self (x : Int64) : lg_cmp x x = 0 := by
  unfold lg_cmp
  simp
/-! what the pure part has to show of every call -/
def zS_mouth (Rel : SV → SM → Prop) : Prop := ∀ (x1 : Int32) (u : SV) (v : SM), Rel u v → ∃ (r : Int32) (w1 : _) (w2 : _), mV_mouth x1 u = some (r, w1) ∧ mM_mouth x1 v = some (r, w2) ∧ Rel (V_put_stage w1 u) (M_put_mouth w2 v)
def zS_jaw (Rel : SV → SM → Prop) : Prop := ∀ (x1 : Int32) (x2 : Int64) (u : SV) (v : SM), Rel u v → ∃ (r : Int32) (w1 : _) (w2 : _), mV_jaw x1 x2 u = some (r, w1) ∧ mM_jaw x1 x2 v = some (r, w2) ∧ Rel (V_put_stage w1 u) (M_put_jaw_moves w2 v)
def zS_seat (Rel : SV → SM → Prop) : Prop := ∀ (x1 : Int32) (x2 : Int32) (u : SV) (v : SM), Rel u v → ∃ (r : Int32) (w1 : _) (w2 : _), mV_seat x1 x2 u = some (r, w1) ∧ mM_seat x1 x2 v = some (r, w2) ∧ Rel (V_put_seats_far_side w1 u) (M_put_seats_far_side w2 v)
def zS_of (Rel : SV → SM → Prop) : Prop := ∀ (x1 : Int32) (x2 : Int32) (u : SV) (v : SM), Rel u v → ∃ (r : Int32), mV_of x1 x2 u = some r ∧ mM_of x1 x2 v = some r ∧ Rel u v
def zS_say (Rel : SV → SM → Prop) : Prop := ∀ (x1 : Int32) (u : SV) (v : SM), Rel u v → ∃ (r : Int32) (w1 : _) (w2 : _), mV_say x1 u = some (r, w1) ∧ mM_say x1 v = some (r, w2) ∧ Rel (V_put_stage w1 u) (M_put_letters_letter w2 v)
def zS_feed (Rel : SV → SM → Prop) : Prop := ∀ (x1 : Int32) (x2 : Int32) (u : SV) (v : SM), Rel u v → ∃ (r : Int32) (w1 : _) (w2 : _), mV_feed x1 x2 u = some (r, w1) ∧ mM_feed x1 x2 v = some (r, w2) ∧ Rel (V_put_textLength_text w1 u) (M_put_fed_text w2 v)
def zS_house (Rel : SV → SM → Prop) : Prop := ∀ (u : SV) (v : SM), Rel u v → ∃ (r : Int32) (w1 : _) (w2 : _), mV_house u = some (r, w1) ∧ mM_house v = some (r, w2) ∧ Rel (V_put_textLength_houseCount_stage_rlen_rat_hs w1 u) (M_putm_house w2 v)
def zS_told (Rel : SV → SM → Prop) : Prop := ∀ (x1 : Int32) (x2 : Int32) (u : SV) (v : SM), Rel u v → ∃ (r : Int32), mV_told x1 x2 u = some r ∧ mM_told x1 x2 v = some r ∧ Rel u v
def zS_voice (Rel : SV → SM → Prop) : Prop := ∀ (x1 : Int32) (x2 : Int32) (u : SV) (v : SM), Rel u v → ∃ (r : Int32) (w1 : _) (w2 : _), mV_voice x1 x2 u = some (r, w1) ∧ mM_voice x1 x2 v = some (r, w2) ∧ Rel w1 (M_put_voices_kind_v w2 v)
def zS_held (Rel : SV → SM → Prop) : Prop := ∀ (x1 : Int32) (x2 : Int32) (x3 : Int32) (x4 : Int32) (u : SV) (v : SM), Rel u v → ∃ (r : Int32) (w1 : _) (w2 : _), mV_held x1 x2 x3 x4 u = some (r, w1) ∧ mM_held x1 x2 x3 x4 v = some (r, w2) ∧ Rel (V_put_look w1 u) (M_put_pile w2 v)
def zS_heard (Rel : SV → SM → Prop) : Prop := ∀ (x1 : Int32) (x2 : Int32) (x3 : Int32) (x4 : Int32) (u : SV) (v : SM), Rel u v → ∃ (r : Int32) (w1 : _) (w2 : _), mV_heard x1 x2 x3 x4 u = some (r, w1) ∧ mM_heard x1 x2 x3 x4 v = some (r, w2) ∧ Rel (V_put_look w1 u) (M_put_pile w2 v)
def zS_houseful (Rel : SV → SM → Prop) : Prop := ∀ (x1 : Int32) (x2 : Int32) (u : SV) (v : SM), Rel u v → ∃ (r : Int32) (w1 : _) (w2 : _), mV_houseful x1 x2 u = some (r, w1) ∧ mM_houseful x1 x2 v = some (r, w2) ∧ Rel (V_put_look w1 u) (M_put_pile w2 v)
def zS_drawn (Rel : SV → SM → Prop) : Prop := ∀ (x1 : Int32) (x2 : Int32) (x3 : Int32) (u : SV) (v : SM), Rel u v → ∃ (r : Int32) (w1 : _) (w2 : _), mV_drawn x1 x2 x3 u = some (r, w1) ∧ mM_drawn x1 x2 x3 v = some (r, w2) ∧ Rel (V_put_look w1 u) (M_put_pile w2 v)
def zS_latest (Rel : SV → SM → Prop) : Prop := ∀ (x1 : Int32) (x2 : Int32) (u : SV) (v : SM), Rel u v → ∃ (r : Int32) (w1 : _) (w2 : _), mV_latest x1 x2 u = some (r, w1) ∧ mM_latest x1 x2 v = some (r, w2) ∧ Rel (V_put_look w1 u) (M_put_pile w2 v)
def zS_wrong (Rel : SV → SM → Prop) : Prop := ∀ (x1 : Int32) (x2 : Int32) (u : SV) (v : SM), Rel u v → ∃ (r : Int32) (w1 : _) (w2 : _), mV_wrong x1 x2 u = some (r, w1) ∧ mM_wrong x1 x2 v = some (r, w2) ∧ Rel (V_put_look w1 u) (M_put_pile w2 v)
def zS_swap (Rel : SV → SM → Prop) : Prop := ∀ (x1 : Int32) (x2 : Int32) (x3 : Int32) (u : SV) (v : SM), Rel u v → ∃ (r : Int32) (w1 : _) (w2 : _), mV_swap x1 x2 x3 u = some (r, w1) ∧ mM_swap x1 x2 x3 v = some (r, w2) ∧ Rel (V_put_look w1 u) (M_put_pile w2 v)
def zS_changed (Rel : SV → SM → Prop) : Prop := ∀ (x1 : Int32) (x2 : Int32) (u : SV) (v : SM), Rel u v → ∃ (r : Int32) (w1 : _) (w2 : _), mV_changed x1 x2 u = some (r, w1) ∧ mM_changed x1 x2 v = some (r, w2) ∧ Rel (V_put_look w1 u) (M_put_pile w2 v)
def zS_boxes (Rel : SV → SM → Prop) : Prop := ∀ (x1 : Int32) (x2 : Int32) (u : SV) (v : SM), Rel u v → ∃ (r : Int32), mV_boxes x1 x2 u = some r ∧ mM_boxes x1 x2 v = some r ∧ Rel u v
def zS_slips (Rel : SV → SM → Prop) : Prop := ∀ (x1 : Int32) (u : SV) (v : SM), Rel u v → ∃ (r : Int32) (w1 : _) (w2 : _), mV_slips x1 u = some (r, w1) ∧ mM_slips x1 v = some (r, w2) ∧ Rel (V_put_stage w1 u) (M_put_slips w2 v)
def zS_sure (Rel : SV → SM → Prop) : Prop := ∀ (x1 : Int32) (x2 : Int32) (x3 : Int32) (x4 : Int32) (u : SV) (v : SM), Rel u v → ∃ (r : Int64) (w1 : _) (w2 : _), mV_sure x1 x2 x3 x4 u = some (r, w1) ∧ mM_sure x1 x2 x3 x4 v = some (r, w2) ∧ Rel (V_put_look w1 u) (M_put_pile w2 v)
def zS_changes (Rel : SV → SM → Prop) : Prop := ∀ (x1 : Int32) (x2 : Int32) (x3 : Int32) (x4 : Int32) (u : SV) (v : SM), Rel u v → ∃ (r : Int32) (w1 : _) (w2 : _), mV_changes x1 x2 x3 x4 u = some (r, w1) ∧ mM_changes x1 x2 x3 x4 v = some (r, w2) ∧ Rel (V_put_look w1 u) (M_put_pile w2 v)
def zS_judge (Rel : SV → SM → Prop) : Prop := ∀ (x1 : Int32) (x2 : Int32) (x3 : Int32) (x4 : Int32) (u : SV) (v : SM), Rel u v → ∃ (r : Int32) (w1 : _) (w2 : _), mV_judge x1 x2 x3 x4 u = some (r, w1) ∧ mM_judge x1 x2 x3 x4 v = some (r, w2) ∧ Rel (V_put_look w1 u) (M_put_pile w2 v)
def zS_image (Rel : SV → SM → Prop) : Prop := ∀ (u : SV) (v : SM), Rel u v → ∃ (r : Int32) (w1 : _) (w2 : _), mV_image u = some (r, w1) ∧ mM_image v = some (r, w2) ∧ Rel (V_put_imageTaken_image w1 u) (M_putm_image w2 v)
def zS_undo (Rel : SV → SM → Prop) : Prop := ∀ (u : SV) (v : SM), Rel u v → ∃ (r : Int32) (w1 : _) (w2 : _), mV_undo u = some (r, w1) ∧ mM_undo v = some (r, w2) ∧ Rel (V_put_stage w1 u) (M_put_mouth_jaw_letters_slips_moves_the_letter w2 v)
def zS_act (Rel : SV → SM → Prop) : Prop := ∀ (x1 : Int32) (x2 : Int32) (x3 : Int32) (u : SV) (v : SM), Rel u v → ∃ (r : Int32) (w1 : _) (w2 : _), mV_act x1 x2 x3 u = some (r, w1) ∧ mM_act x1 x2 x3 v = some (r, w2) ∧ Rel (V_put_acting w1 u) (M_put_ran_bodies w2 v)
def zS_trace (Rel : SV → SM → Prop) : Prop := ∀ (x1 : Int32) (u : SV) (v : SM), Rel u v → ∃ (r : Int32), mV_trace x1 u = some r ∧ mM_trace x1 v = some r ∧ Rel u v
def zS_taken (Rel : SV → SM → Prop) : Prop := ∀ (x1 : Int32) (x2 : Int32) (u : SV) (v : SM), Rel u v → ∃ (r : Int32), mV_taken x1 x2 u = some r ∧ mM_taken x1 x2 v = some r ∧ Rel u v
def zS_count (Rel : SV → SM → Prop) : Prop := ∀ (x1 : Int32) (u : SV) (v : SM), Rel u v → ∃ (r : Int32), mV_count x1 u = r ∧ mM_count x1 v = r ∧ Rel u v
def zS_tape (Rel : SV → SM → Prop) : Prop := ∀ (x1 : Int32) (x2 : Int32) (x3 : Int32) (u : SV) (v : SM), Rel u v → ∃ (r : Int32) (w1 : _) (w2 : _), mV_tape x1 x2 x3 u = some (r, w1) ∧ mM_tape x1 x2 x3 v = some (r, w2) ∧ Rel (V_put_ts w1 u) (M_put_sort_length_item w2 v)
def zS_item (Rel : SV → SM → Prop) : Prop := ∀ (x1 : Int32) (x2 : Int32) (x3 : Int64) (u : SV) (v : SM), Rel u v → ∃ (r : Int32) (w1 : _) (w2 : _), mV_item x1 x2 x3 u = some (r, w1) ∧ mM_item x1 x2 x3 v = some (r, w2) ∧ Rel (V_put_ts w1 u) (M_put_item w2 v)
def zS_read (Rel : SV → SM → Prop) : Prop := ∀ (x1 : Int32) (x2 : Int32) (u : SV) (v : SM), Rel u v → ∃ (r : Int64), mV_read x1 x2 u = some r ∧ mM_read x1 x2 v = some r ∧ Rel u v
def zS_shift (Rel : SV → SM → Prop) : Prop := ∀ (x1 : Int32) (x2 : Int32) (x3 : Int32) (x4 : Int32) (x5 : Int32) (u : SV) (v : SM), Rel u v → ∃ (r : Int32) (w1 : _) (w2 : _), mV_shift x1 x2 x3 x4 x5 u = some (r, w1) ∧ mM_shift x1 x2 x3 x4 x5 v = some (r, w2) ∧ Rel (V_put_ts w1 u) (M_put_item_aside w2 v)
