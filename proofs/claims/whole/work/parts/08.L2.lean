/-! 08.L2: the loop of the law; by wip/whole/gen/genL2.py -/
/-! THE CLAIM OUT OF ONE WALK OF THE LAW'S BODY. Your part is whole_start (and what it stands on); all else here is the same for every law, but numbers. -/
def R_law : String := "FarVoiceLaw"
def lw_P (b : Addr) (xs : List Int32) (args : Array Value) (s : State) : Prop := args = #[.ref b] ∧ s.IntsAt b xs ∧ xs.length ≤ 3072 ∧ (Jvm.Cond.and given_1 narrow_1).before args s = true
def lw_Q (_ : Array Value) (s : State) (o : Outcome) (t : State) : Prop := o = .returned (some (.int 1)) ∧ Framed s o t [] 601723 7297078
def lw_Z (below : List Frame) (a : Array Value) (s : State) : State → Prop := fun t => ∃ o, t.status = .running ∧ Ended t below o ∧ lw_Q a s o t
/-- the law's own end, with 1 on the stack, nothing written that was there before, its room as the claim has it -/
theorem lw_ret {p : Program} {l : Launch} {e : Env} {s : State} {m : MethodId} {below : List Frame} {meth : Method} {c : Code} {b : Nat} (hx : p.tables.exec = Jvm.exec) (hb : c.code = code) (hr : meth.sig.returnType = ret) (hlocks : meth.locks = false) {pc : Nat} {H : Heap} {ls : Array Slot} (hdg : decode code pc = .ok (.ireturn, 1)) : W p l e room_1 s m #[Value.ref b] below meth c H [] 601723 7297078 (lw_Z below #[Value.ref b] s) (F0 m pc ls [.int 1]) := by
  intro T hT X
  obtain ⟨fs, hret, hrun, hended, hW, hframe⟩ := X.leave (v := some (.int 1)) (hlocks := hlocks) (fun h => by rw [hr] at h; cases h)
  have hmeth' : T.vm.method? m = some meth := X.method'
  refine ⟨T.setFrames fs, ?_, .returned (some (.int 1)), hrun, hended, rfl, ⟨_, rfl⟩, hW, hframe⟩
  jvm_step X.here [X.here.top, hx, hb, hdg, hmeth', hr, ret, narrow_b1]
  (try refine ⟨rfl, ?_⟩); (try refine ⟨rfl, ?_⟩)
  first | (intro acts; rw [hret _ acts rfl rfl rfl]) | rw [hret _ _ rfl rfl rfl]
  exact Steps.refl _
/-- what holds at the law's entry: the machine, the code, the tables' words (any of lw_tbl by 'hts w (by decide +kernel)'), the script of L ints xs at the cell b, what the Statement gives of the start (any of its parts by flat_of_before) -/
def lw_At (p : Program) (s : State) (m : MethodId) (meth : Method) (c : Code) (b L : Nat) (xs : Nat → Int32) : Prop :=
  p.tables.exec = Jvm.exec ∧ c.code = code ∧ meth.sig.returnType = ret ∧ c.maxLocals = 4 ∧ s.vm.findClass R_law = some m.cls ∧ (∀ w ∈ lw_tbl, w.before #[Value.ref b] s = true) ∧ va_X b L xs s s.heap ∧ b < s.heap.size ∧ meth.locks = false ∧ (Jvm.Cond.and given_1 narrow_1).before #[Value.ref b] s = true
theorem kB_31 : (Int8.ofInt (31)).toInt32 = (31 : Int32) := by decide
def zSim (Rel : SV → SM → Prop) : Prop := zS_mouth Rel ∧ zS_jaw Rel ∧ zS_seat Rel ∧ zS_of Rel ∧ zS_say Rel ∧ zS_feed Rel ∧ zS_house Rel ∧ zS_told Rel ∧ zS_voice Rel ∧ zS_held Rel ∧ zS_heard Rel ∧ zS_houseful Rel ∧ zS_drawn Rel ∧ zS_latest Rel ∧ zS_wrong Rel ∧ zS_swap Rel ∧ zS_changed Rel ∧ zS_boxes Rel ∧ zS_slips Rel ∧ zS_sure Rel ∧ zS_changes Rel ∧ zS_judge Rel ∧ zS_image Rel ∧ zS_undo Rel ∧ zS_act Rel ∧ zS_trace Rel ∧ zS_taken Rel ∧ zS_count Rel ∧ zS_tape Rel ∧ zS_item Rel ∧ zS_read Rel ∧ zS_shift Rel
theorem zAnd31 (y : Int32) : ∃ n : Nat, n < 32 ∧ y &&& 31 = Int32.ofNat n := by
  refine ⟨(y &&& 31).toBitVec.toNat, ?_, ?_⟩
  · have h : (y &&& 31).toBitVec = y.toBitVec &&& 31#32 := rfl
    rw [h, BitVec.toNat_and]
    exact Nat.lt_of_le_of_lt Nat.and_le_right (by decide)
  · apply Int32.toBitVec_inj.mp
    show _ = BitVec.ofNat 32 _
    rw [BitVec.ofNat_toNat, BitVec.setWidth_eq]
theorem zIdx {k j L : Nat} {y : Int32} (hy : Int32.ofNat j = y) (h : k + j < L) (hL : L < 2 ^ 31) : vp_in (Int32.ofNat k + y) L := by
  have e : Int32.ofNat k + y = nI (k + j) := by
    rw [← hy]
    exact (Int32.ofNat_add k j).symm
  rw [e]
  exact nI_in h hL
theorem zHead {k L : Nat} (hk : k ≤ 4000) (hL : L ≤ 3072) : (Int32.ofNat L - 6 < Int32.ofNat k) ↔ L < k + 6 := by
  have h6 : (6 : Int32).toInt = 6 := by decide
  have h1 : (Int32.ofNat L).toInt = L := nI_toInt (n := L) (by omega)
  have h2 : (Int32.ofNat k).toInt = k := nI_toInt (n := k) (by omega)
  rw [Int32.lt_iff_toInt_lt, Int32.toInt_sub, h1, h2, h6, Int.bmod_eq_of_le (by omega) (by omega)]
  omega
theorem law_head {p : Program} {l : Launch} {e : Env} {s : State} {m : MethodId} {below : List Frame} {meth : Method} {c : Code} {D : va_G} {cA : Nat → ClassId} {tK tB : Nat} {kS vS : Nat → Nat} {b L : Nat} {xs : Nat → Int32} {adm : Nat → Nat} (hC : zC p s m #[Value.ref b] meth c code 4 RL zTS D (zTy cA) (fun q => s.heap.size ≤ q) (zE tK tB kS vS)) (hr : meth.sig.returnType = ret) (hX : va_X b L xs s s.heap) (hbl : b < s.heap.size) (hL : L ≤ 3072) {k k9 n9 : Nat} {ad : Nat → Nat} {vT vH vA : Value} {u : SV} {v : SM} (hk : k ≤ 4000) (hc9 : k9 ≤ 601723) (hs9 : n9 ≤ 7297078) (g : k + 6 ≤ L → yG p l e room_1 s m #[Value.ref b] below meth c 4 D (fun q => s.heap.size ≤ q) (lw_Z below #[Value.ref b] s) k9 n9 (wV cA ad vT vH vA u ++ wM cA adm v) [(0, .ref b), (1, .ref (ad 0)), (2, .ref (adm 0)), (3, .int (Int32.ofNat k))] 27 []) : yG p l e room_1 s m #[Value.ref b] below meth c 4 D (fun q => s.heap.size ≤ q) (lw_Z below #[Value.ref b] s) k9 n9 (wV cA ad vT vH vA u ++ wM cA adm v) [(0, .ref b), (1, .ref (ad 0)), (2, .ref (adm 0)), (3, .int (Int32.ofNat k))] 18 [] := by
  refine y_iload_n hC dL_law_18 rfl 3 rfl ?_
  refine y_aload_n hC dL_law_19 rfl 0 rfl ?_
  refine y_xlen hC hX hbl (Nat.not_le_of_lt hbl) dL_law_20 ?_
  refine y_bipush hC dL_law_21 kB_6 ?_
  refine y_isub hC dL_law_23 ?_
  refine y_icmp_gt (tgt := 1370) (a := true) (b := false) (o := decide (Int32.ofNat L - 6 < Int32.ofNat k)) hC (by by_cases h : Int32.ofNat L - 6 < Int32.ofNat k <;> simp [h]) dL_law_24 (by decide) (fun _ => ?_) (fun h => g (by
    have h := of_decide_eq_false h.symm
    rw [zHead hk hL] at h
    omega))
  refine y_iconst hC dL_law_1370 kI_1 ?_
  intro H locs ls hP hDD hS hL
  refine W.widen (k := 601723) (n := 7297078) hc9 hs9 ?_
  exact va_forget (fun q hq => hS.2.2 q hq) (lw_ret hC.1.1 hC.1.2.1 hr hC.2.2.1 dL_law_1371)
theorem law_loop {p : Program} {l : Launch} {e : Env} {s : State} {m : MethodId} {below : List Frame} {meth : Method} {c : Code} {D : va_G} {cA : Nat → ClassId} {tK tB : Nat} {kS vS : Nat → Nat} {b L : Nat} {xs : Nat → Int32} {adm : Nat → Nat} {Rel : SV → SM → Prop} (hC : zC p s m #[Value.ref b] meth c code 4 RL zTS D (zTy cA) (fun q => s.heap.size ≤ q) (zE tK tB kS vS)) (hr : meth.sig.returnType = ret) (hX : va_X b L xs s s.heap) (hbl : b < s.heap.size) (hL : L ≤ 3072) (hs : zSim Rel) : ∀ (n k : Nat) (k9 n9 : Nat) (ad : Nat → Nat) (vT vH vA : Value) (u : SV) (v : SM), k ≤ 3078 → L + 6 ≤ k + 6 * n → k9 + n ≤ 601723 → n9 + 3 * n ≤ 7297078 → LF ad adm s.heap.size → Rel u v → yG p l e room_1 s m #[Value.ref b] below meth c 4 D (fun q => s.heap.size ≤ q) (lw_Z below #[Value.ref b] s) k9 n9 (wV cA ad vT vH vA u ++ wM cA adm v) [(0, .ref b), (1, .ref (ad 0)), (2, .ref (adm 0)), (3, .int (Int32.ofNat k))] 18 [] := by
  intro n
  induction n with
  | zero =>
    intro k k9 n9 ad vT vH vA u v hk hn hc9 hs9 F hR
    exact law_head hC hr hX hbl hL (by omega) hc9 hs9 (fun h => absurd h (by omega))
  | succ n ih =>
    intro k k9 n9 ad vT vH vA u v hk hn hc9 hs9 F hR
    refine law_head hC hr hX hbl hL (by omega) (by omega) (by omega) (fun hkL => ?_)
    have hnb : k9 + 1 ≤ room_1.cells ∧ n9 + 3 ≤ room_1.slots := ⟨by show k9 + 1 ≤ 601723; omega, by show n9 + 3 ≤ 7297078; omega⟩
    have hi0 : vp_in (Int32.ofNat k) L := nI_in (c := k) (by omega) (by omega)
    have hi1 : vp_in (Int32.ofNat k + 1) L := zIdx (j := 1) rfl (by omega) (by omega)
    have hi2 : vp_in (Int32.ofNat k + 2) L := zIdx (j := 2) rfl (by omega) (by omega)
    have hi3 : vp_in (Int32.ofNat k + 3) L := zIdx (j := 3) rfl (by omega) (by omega)
    have hi4 : vp_in (Int32.ofNat k + 4) L := zIdx (j := 4) rfl (by omega) (by omega)
    have hi5 : vp_in (Int32.ofNat k + 5) L := zIdx (j := 5) rfl (by omega) (by omega)
    have g : ∀ (ad' : Nat → Nat) (vT vH vA : Value) (u' : SV) (v' : SM), LF ad' adm s.heap.size → Rel u' v' → yG p l e room_1 s m #[Value.ref b] below meth c 4 D (fun q => s.heap.size ≤ q) (lw_Z below #[Value.ref b] s) (k9 + 1) (n9 + 3) (wV cA ad' vT vH vA u' ++ wM cA adm v') [(0, .ref b), (1, .ref (ad' 0)), (2, .ref (adm 0)), (3, .int (Int32.ofNat k))] 1364 [] := by
      intro ad' vT vH vA u' v' F' hR'
      refine y_iinc (lv' := [(3, .int (Int32.ofNat (k + 6))), (0, .ref b), (1, .ref (ad' 0)), (2, .ref (adm 0))]) (k := 3) (v := Int32.ofNat (k + 6)) hC dL_law_1364 rfl (Int32.ofNat_add k 6).symm (by decide) rfl ?_
      refine y_goto (tgt := 18) hC dL_law_1367 (by decide) ?_
      refine y_lv hC [1, 2, 3, 0] rfl ?_
      exact ih (k + 6) (k9 + 1) (n9 + 3) ad' vT vH vA u' v' (by omega) (by omega) (by omega) (by omega) F' hR'
    refine y_aload_n hC dL_law_27 rfl 0 rfl ?_
    refine y_iload_n hC dL_law_28 rfl 3 rfl ?_
    refine y_xld hC hX hbl (Nat.not_le_of_lt hbl) hi0 dL_law_29 ?_
    refine y_bipush hC dL_law_30 kB_31 ?_
    refine y_iand hC dL_law_32 ?_
    obtain ⟨w, hw, hx⟩ := zAnd31 (xs (Int32.ofNat k).toNatClampNeg)
    obtain ⟨smouth, sjaw, sseat, sof, ssay, sfeed, shouse, stold, svoice, sheld, sheard, shouseful, sdrawn, slatest, swrong, sswap, schanged, sboxes, sslips, ssure, schanges, sjudge, simage, sundo, sact, strace, staken, scount, stape, sitem, sread, sshift⟩ := hs
    have hw' : w = 0 ∨ w = 1 ∨ w = 2 ∨ w = 3 ∨ w = 4 ∨ w = 5 ∨ w = 6 ∨ w = 7 ∨ w = 8 ∨ w = 9 ∨ w = 10 ∨ w = 11 ∨ w = 12 ∨ w = 13 ∨ w = 14 ∨ w = 15 ∨ w = 16 ∨ w = 17 ∨ w = 18 ∨ w = 19 ∨ w = 20 ∨ w = 21 ∨ w = 22 ∨ w = 23 ∨ w = 24 ∨ w = 25 ∨ w = 26 ∨ w = 27 ∨ w = 28 ∨ w = 29 ∨ w = 30 ∨ w = 31 := by omega
    rcases hw' with rfl | rfl | rfl | rfl | rfl | rfl | rfl | rfl | rfl | rfl | rfl | rfl | rfl | rfl | rfl | rfl | rfl | rfl | rfl | rfl | rfl | rfl | rfl | rfl | rfl | rfl | rfl | rfl | rfl | rfl | rfl | rfl
    · exact y_tin (k := 0) (a := 0) (tgt := 176) hC dL_law_33 hx (by decide) (by decide) (by decide) rfl (by decide) (cL_mouth hC hX hbl smouth F hR hnb hi1 g)
    · exact y_tin (k := 1) (a := 1) (tgt := 199) hC dL_law_33 hx (by decide) (by decide) (by decide) rfl (by decide) (cL_jaw hC hX hbl sjaw F hR hnb hi1 hi2 hi3 g)
    · exact y_tin (k := 2) (a := 2) (tgt := 262) hC dL_law_33 hx (by decide) (by decide) (by decide) rfl (by decide) (cL_seat hC hX hbl sseat F hR hnb hi1 hi2 g)
    · exact y_tin (k := 3) (a := 3) (tgt := 295) hC dL_law_33 hx (by decide) (by decide) (by decide) rfl (by decide) (cL_of hC hX hbl sof F hR hnb hi1 hi2 g)
    · exact y_tin (k := 4) (a := 4) (tgt := 328) hC dL_law_33 hx (by decide) (by decide) (by decide) rfl (by decide) (cL_say hC hX hbl ssay F hR hnb hi1 g)
    · exact y_tin (k := 5) (a := 5) (tgt := 351) hC dL_law_33 hx (by decide) (by decide) (by decide) rfl (by decide) (cL_feed hC hX hbl sfeed F hR hnb hi1 hi2 g)
    · exact y_tin (k := 6) (a := 6) (tgt := 384) hC dL_law_33 hx (by decide) (by decide) (by decide) rfl (by decide) (cL_house hC hX hbl shouse F hR hnb g)
    · exact y_tin (k := 7) (a := 7) (tgt := 397) hC dL_law_33 hx (by decide) (by decide) (by decide) rfl (by decide) (cL_told hC hX hbl stold F hR hnb hi1 hi2 g)
    · exact y_tin (k := 8) (a := 8) (tgt := 430) hC dL_law_33 hx (by decide) (by decide) (by decide) rfl (by decide) (cL_voice hC hX hbl svoice F hR hnb hi1 hi2 g)
    · exact y_tin (k := 9) (a := 9) (tgt := 463) hC dL_law_33 hx (by decide) (by decide) (by decide) rfl (by decide) (cL_held hC hX hbl sheld F hR hnb hi1 hi2 hi3 hi4 g)
    · exact y_tin (k := 10) (a := 10) (tgt := 516) hC dL_law_33 hx (by decide) (by decide) (by decide) rfl (by decide) (cL_heard hC hX hbl sheard F hR hnb hi1 hi2 hi3 hi4 g)
    · exact y_tin (k := 11) (a := 11) (tgt := 569) hC dL_law_33 hx (by decide) (by decide) (by decide) rfl (by decide) (cL_houseful hC hX hbl shouseful F hR hnb hi1 hi2 g)
    · exact y_tin (k := 12) (a := 12) (tgt := 602) hC dL_law_33 hx (by decide) (by decide) (by decide) rfl (by decide) (cL_drawn hC hX hbl sdrawn F hR hnb hi1 hi2 hi3 g)
    · exact y_tin (k := 13) (a := 13) (tgt := 645) hC dL_law_33 hx (by decide) (by decide) (by decide) rfl (by decide) (cL_latest hC hX hbl slatest F hR hnb hi1 hi2 g)
    · exact y_tin (k := 14) (a := 14) (tgt := 678) hC dL_law_33 hx (by decide) (by decide) (by decide) rfl (by decide) (cL_wrong hC hX hbl swrong F hR hnb hi1 hi2 g)
    · exact y_tin (k := 15) (a := 15) (tgt := 711) hC dL_law_33 hx (by decide) (by decide) (by decide) rfl (by decide) (cL_swap hC hX hbl sswap F hR hnb hi1 hi2 hi3 g)
    · exact y_tin (k := 16) (a := 16) (tgt := 754) hC dL_law_33 hx (by decide) (by decide) (by decide) rfl (by decide) (cL_changed hC hX hbl schanged F hR hnb hi1 hi2 g)
    · exact y_tin (k := 17) (a := 17) (tgt := 787) hC dL_law_33 hx (by decide) (by decide) (by decide) rfl (by decide) (cL_boxes hC hX hbl sboxes F hR hnb hi1 hi2 g)
    · exact y_tin (k := 18) (a := 18) (tgt := 820) hC dL_law_33 hx (by decide) (by decide) (by decide) rfl (by decide) (cL_slips hC hX hbl sslips F hR hnb hi1 g)
    · exact y_tin (k := 19) (a := 19) (tgt := 843) hC dL_law_33 hx (by decide) (by decide) (by decide) rfl (by decide) (cL_sure hC hX hbl ssure F hR hnb hi1 hi2 hi3 hi4 g)
    · exact y_tin (k := 20) (a := 20) (tgt := 897) hC dL_law_33 hx (by decide) (by decide) (by decide) rfl (by decide) (cL_changes hC hX hbl schanges F hR hnb hi1 hi2 hi3 hi4 g)
    · exact y_tin (k := 21) (a := 21) (tgt := 950) hC dL_law_33 hx (by decide) (by decide) (by decide) rfl (by decide) (cL_judge hC hX hbl sjudge F hR hnb hi1 hi2 hi3 hi4 g)
    · exact y_tin (k := 22) (a := 22) (tgt := 1003) hC dL_law_33 hx (by decide) (by decide) (by decide) rfl (by decide) (cL_image hC hX hbl simage F hR hnb g)
    · exact y_tin (k := 23) (a := 23) (tgt := 1016) hC dL_law_33 hx (by decide) (by decide) (by decide) rfl (by decide) (cL_undo hC hX hbl sundo F hR hnb g)
    · exact y_tin (k := 24) (a := 24) (tgt := 1029) hC dL_law_33 hx (by decide) (by decide) (by decide) rfl (by decide) (cL_act hC hX hbl sact F hR hnb hi1 hi2 hi3 g)
    · exact y_tin (k := 25) (a := 25) (tgt := 1072) hC dL_law_33 hx (by decide) (by decide) (by decide) rfl (by decide) (cL_trace hC hX hbl strace F hR hnb hi1 g)
    · exact y_tin (k := 26) (a := 26) (tgt := 1095) hC dL_law_33 hx (by decide) (by decide) (by decide) rfl (by decide) (cL_taken hC hX hbl staken F hR hnb hi1 hi2 g)
    · exact y_tin (k := 27) (a := 27) (tgt := 1128) hC dL_law_33 hx (by decide) (by decide) (by decide) rfl (by decide) (cL_count hC hX hbl scount F hR hnb hi1 g)
    · exact y_tin (k := 28) (a := 28) (tgt := 1151) hC dL_law_33 hx (by decide) (by decide) (by decide) rfl (by decide) (cL_tape hC hX hbl stape F hR hnb hi1 hi2 hi3 g)
    · exact y_tin (k := 29) (a := 29) (tgt := 1194) hC dL_law_33 hx (by decide) (by decide) (by decide) rfl (by decide) (cL_item hC hX hbl sitem F hR hnb hi1 hi2 hi3 hi4 g)
    · exact y_tin (k := 30) (a := 30) (tgt := 1267) hC dL_law_33 hx (by decide) (by decide) (by decide) rfl (by decide) (cL_read hC hX hbl sread F hR hnb hi1 hi2 g)
    · exact y_tin (k := 31) (a := 31) (tgt := 1301) hC dL_law_33 hx (by decide) (by decide) (by decide) rfl (by decide) (cL_shift hC hX hbl sshift F hR hnb hi1 hi2 hi3 hi4 hi5 g)
