/-! 08.L1: the cases of the law; by wip/whole/gen/genL.py -/
theorem cwL_51v {R : Room} {s : State} {args : Array Value} {rm : Room} (ht : ∀ w ∈ zTS, w.before args s = true) (hc : rm.cells = 1) (hs : rm.slots = 3) (hR : rm.frames + 1 ≤ R.frames ∧ 8 + (3 + 11) + rm.locals ≤ R.locals) : CallW R s args RL RX7 51 yX7_voice cX7_voice 3 (some .int) (zWs yX7_voice cX7_voice 3 (some .int)) rm 1 3 2 := ⟨callB_of 2 ht (zGoodIn (zMem 596 (by decide +kernel) rfl)) rfl hc hs (ht _ (zMem 91 (by decide +kernel) rfl)) (ht _ (zMem 593 (by decide +kernel) rfl)) (by decide +kernel) hR, ht _ (zMem 594 (by decide +kernel) rfl), ht _ (zMem 595 (by decide +kernel) rfl)⟩
theorem cL_mouth {p : Program} {l : Launch} {e : Env} {s : State} {m : MethodId} {below : List Frame} {meth : Method} {c : Code} {Q : State → Prop} {D : va_G} {cA : Nat → ClassId} {tK tB : Nat} {kS vS : Nat → Nat} {k9 n9 b L : Nat} {xs : Nat → Int32} {ad adm : Nat → Nat} {vT vH vA : Value} {u : SV} {v : SM} {i : Int32} {Rel : SV → SM → Prop} (hC : zC p s m #[Value.ref b] meth c code 4 RL zTS D (zTy cA) (fun q => s.heap.size ≤ q) (zE tK tB kS vS)) (hX : va_X b L xs s s.heap) (hbl : b < s.heap.size) (hs : zS_mouth Rel) (F : LF ad adm s.heap.size) (hR : Rel u v) (hf : k9 + 1 ≤ room_1.cells ∧ n9 + 3 ≤ room_1.slots) (hi1 : vp_in (i + 1) L) (g : ∀ (ad' : Nat → Nat) (vT vH vA : Value) (u' : SV) (v' : SM), LF ad' adm s.heap.size → Rel u' v' → yG p l e room_1 s m #[Value.ref b] below meth c 4 D (fun q => s.heap.size ≤ q) Q (k9 + 1) (n9 + 3) (wV cA ad' vT vH vA u' ++ wM cA adm v') [(0, .ref b), (1, .ref (ad' 0)), (2, .ref (adm 0)), (3, .int i)] 1364 []) : yG p l e room_1 s m #[Value.ref b] below meth c 4 D (fun q => s.heap.size ≤ q) Q k9 n9 (wV cA ad vT vH vA u ++ wM cA adm v) [(0, .ref b), (1, .ref (ad 0)), (2, .ref (adm 0)), (3, .int i)] 176 [] := by
  obtain ⟨r, w1, w2, h1, h2, h3⟩ := hs ((xs (i + 1).toNatClampNeg)) u v hR
  refine y_aload_n hC dL_law_176 rfl 1 rfl ?_
  refine y_aload_n hC dL_law_177 rfl 0 rfl ?_
  refine y_iload_n hC dL_law_178 rfl 3 rfl ?_
  refine y_iconst hC dL_law_179 kI_1 ?_
  refine y_iadd hC dL_law_180 ?_
  refine y_xld hC hX hbl (Nat.not_le_of_lt hbl) hi1 dL_law_181 ?_
  refine y_calliV (As := [.int (xs (i + 1).toNatClampNeg)]) hC (cV_mouth (cA := cA) (ad := ad) (vT := vT) (vH := vH) (vA := vA) (tK := tK) (tB := tB) (kS := kS) (vS := vS) F.1 ((xs (i + 1).toNatClampNeg)) u h1) (cwL_13 (rm := zRm 1) hC.1.2.2.2.2 rfl rfl ⟨Nat.le_of_ble_eq_true rfl, Nat.le_of_ble_eq_true rfl⟩) (Nat.le_trans (Nat.le_add_right _ _) hf.1) (Nat.le_trans (Nat.le_add_right _ _) hf.2) dL_law_182 rfl rfl (Nat.le_of_ble_eq_true rfl) ⟨_, rfl, rfl⟩ (List.mem_append_left _ (List.mem_of_getElem? (heV_o cA ad vT vH vA u))) (fun _ h => List.mem_append_left _ h) (LF_v F) (zJ_l F) (fun _ => LF_D F) ?_
  refine y_aload_n hC dL_law_185 rfl 2 rfl ?_
  refine y_aload_n hC dL_law_186 rfl 0 rfl ?_
  refine y_iload_n hC dL_law_187 rfl 3 rfl ?_
  refine y_iconst hC dL_law_188 kI_1 ?_
  refine y_iadd hC dL_law_189 ?_
  refine y_xld hC hX hbl (Nat.not_le_of_lt hbl) hi1 dL_law_190 ?_
  refine y_calliV (As := [.int (xs (i + 1).toNatClampNeg)]) hC (cM_mouth (cA := cA) (ad := adm) F.2.1 ((xs (i + 1).toNatClampNeg)) v h2) (cwL_17 (rm := zRm 2) hC.1.2.2.2.2 rfl rfl ⟨Nat.le_of_ble_eq_true rfl, Nat.le_of_ble_eq_true rfl⟩) (Nat.le_trans (Nat.le_add_right _ _) hf.1) (Nat.le_trans (Nat.le_add_right _ _) hf.2) dL_law_191 rfl rfl (Nat.le_of_ble_eq_true rfl) ⟨_, rfl, rfl⟩ (List.mem_append_right _ (List.mem_of_getElem? (heM_o cA adm v))) (fun _ h => List.mem_append_right _ h) (LF_m F) (zJ_r F) (fun _ => LF_D F) ?_
  refine y_icmp_eq (tgt := 1364) (a := true) (b := false) (o := true) hC (if_pos rfl) dL_law_194 (by decide) (fun _ => ?_) (fun h => nomatch h)
  refine yG_of (k8 := k9 + 1) (n8 := n9 + 3) (Nat.le_add_right _ _) (Nat.le_add_right _ _) ?_
  exact g ad vT vH vA (V_put_stage w1 u) (M_put_mouth w2 v) F h3
theorem cL_jaw {p : Program} {l : Launch} {e : Env} {s : State} {m : MethodId} {below : List Frame} {meth : Method} {c : Code} {Q : State → Prop} {D : va_G} {cA : Nat → ClassId} {tK tB : Nat} {kS vS : Nat → Nat} {k9 n9 b L : Nat} {xs : Nat → Int32} {ad adm : Nat → Nat} {vT vH vA : Value} {u : SV} {v : SM} {i : Int32} {Rel : SV → SM → Prop} (hC : zC p s m #[Value.ref b] meth c code 4 RL zTS D (zTy cA) (fun q => s.heap.size ≤ q) (zE tK tB kS vS)) (hX : va_X b L xs s s.heap) (hbl : b < s.heap.size) (hs : zS_jaw Rel) (F : LF ad adm s.heap.size) (hR : Rel u v) (hf : k9 + 1 ≤ room_1.cells ∧ n9 + 3 ≤ room_1.slots) (hi1 : vp_in (i + 1) L) (hi2 : vp_in (i + 2) L) (hi3 : vp_in (i + 3) L) (g : ∀ (ad' : Nat → Nat) (vT vH vA : Value) (u' : SV) (v' : SM), LF ad' adm s.heap.size → Rel u' v' → yG p l e room_1 s m #[Value.ref b] below meth c 4 D (fun q => s.heap.size ≤ q) Q (k9 + 1) (n9 + 3) (wV cA ad' vT vH vA u' ++ wM cA adm v') [(0, .ref b), (1, .ref (ad' 0)), (2, .ref (adm 0)), (3, .int i)] 1364 []) : yG p l e room_1 s m #[Value.ref b] below meth c 4 D (fun q => s.heap.size ≤ q) Q k9 n9 (wV cA ad vT vH vA u ++ wM cA adm v) [(0, .ref b), (1, .ref (ad 0)), (2, .ref (adm 0)), (3, .int i)] 199 [] := by
  obtain ⟨r, w1, w2, h1, h2, h3⟩ := hs ((xs (i + 1).toNatClampNeg)) ((((xs (i + 2).toNatClampNeg).toInt64 <<< ((32 : Int32).toInt64 &&& 63)) ||| ((xs (i + 3).toNatClampNeg).toInt64 &&& 4294967295))) u v hR
  refine y_aload_n hC dL_law_199 rfl 1 rfl ?_
  refine y_aload_n hC dL_law_200 rfl 0 rfl ?_
  refine y_iload_n hC dL_law_201 rfl 3 rfl ?_
  refine y_iconst hC dL_law_202 kI_1 ?_
  refine y_iadd hC dL_law_203 ?_
  refine y_xld hC hX hbl (Nat.not_le_of_lt hbl) hi1 dL_law_204 ?_
  refine y_aload_n hC dL_law_205 rfl 0 rfl ?_
  refine y_iload_n hC dL_law_206 rfl 3 rfl ?_
  refine y_iconst hC dL_law_207 kI_2 ?_
  refine y_iadd hC dL_law_208 ?_
  refine y_xld hC hX hbl (Nat.not_le_of_lt hbl) hi2 dL_law_209 ?_
  refine y_i2l hC dL_law_210 ?_
  refine y_bipush hC dL_law_211 kB_32 ?_
  refine y_lshl hC dL_law_213 ?_
  refine y_aload_n hC dL_law_214 rfl 0 rfl ?_
  refine y_iload_n hC dL_law_215 rfl 3 rfl ?_
  refine y_iconst hC dL_law_216 kI_3 ?_
  refine y_iadd hC dL_law_217 ?_
  refine y_xld hC hX hbl (Nat.not_le_of_lt hbl) hi3 dL_law_218 ?_
  refine y_i2l hC dL_law_219 ?_
  refine y_ldc2 hC mcL_18 dL_law_220 ?_
  refine y_land hC dL_law_223 ?_
  refine y_lor hC dL_law_224 ?_
  refine y_calliV (As := [.int (xs (i + 1).toNatClampNeg), .long (((xs (i + 2).toNatClampNeg).toInt64 <<< ((32 : Int32).toInt64 &&& 63)) ||| ((xs (i + 3).toNatClampNeg).toInt64 &&& 4294967295))]) hC (cV_jaw (cA := cA) (ad := ad) (vT := vT) (vH := vH) (vA := vA) (tK := tK) (tB := tB) (kS := kS) (vS := vS) F.1 ((xs (i + 1).toNatClampNeg)) ((((xs (i + 2).toNatClampNeg).toInt64 <<< ((32 : Int32).toInt64 &&& 63)) ||| ((xs (i + 3).toNatClampNeg).toInt64 &&& 4294967295))) u h1) (cwL_20 (rm := zRm 1) hC.1.2.2.2.2 rfl rfl ⟨Nat.le_of_ble_eq_true rfl, Nat.le_of_ble_eq_true rfl⟩) (Nat.le_trans (Nat.le_add_right _ _) hf.1) (Nat.le_trans (Nat.le_add_right _ _) hf.2) dL_law_225 rfl rfl (Nat.le_of_ble_eq_true rfl) ⟨_, rfl, rfl⟩ (List.mem_append_left _ (List.mem_of_getElem? (heV_o cA ad vT vH vA u))) (fun _ h => List.mem_append_left _ h) (LF_v F) (zJ_l F) (fun _ => LF_D F) ?_
  refine y_aload_n hC dL_law_228 rfl 2 rfl ?_
  refine y_aload_n hC dL_law_229 rfl 0 rfl ?_
  refine y_iload_n hC dL_law_230 rfl 3 rfl ?_
  refine y_iconst hC dL_law_231 kI_1 ?_
  refine y_iadd hC dL_law_232 ?_
  refine y_xld hC hX hbl (Nat.not_le_of_lt hbl) hi1 dL_law_233 ?_
  refine y_aload_n hC dL_law_234 rfl 0 rfl ?_
  refine y_iload_n hC dL_law_235 rfl 3 rfl ?_
  refine y_iconst hC dL_law_236 kI_2 ?_
  refine y_iadd hC dL_law_237 ?_
  refine y_xld hC hX hbl (Nat.not_le_of_lt hbl) hi2 dL_law_238 ?_
  refine y_i2l hC dL_law_239 ?_
  refine y_bipush hC dL_law_240 kB_32 ?_
  refine y_lshl hC dL_law_242 ?_
  refine y_aload_n hC dL_law_243 rfl 0 rfl ?_
  refine y_iload_n hC dL_law_244 rfl 3 rfl ?_
  refine y_iconst hC dL_law_245 kI_3 ?_
  refine y_iadd hC dL_law_246 ?_
  refine y_xld hC hX hbl (Nat.not_le_of_lt hbl) hi3 dL_law_247 ?_
  refine y_i2l hC dL_law_248 ?_
  refine y_ldc2 hC mcL_18 dL_law_249 ?_
  refine y_land hC dL_law_252 ?_
  refine y_lor hC dL_law_253 ?_
  refine y_calliV (As := [.int (xs (i + 1).toNatClampNeg), .long (((xs (i + 2).toNatClampNeg).toInt64 <<< ((32 : Int32).toInt64 &&& 63)) ||| ((xs (i + 3).toNatClampNeg).toInt64 &&& 4294967295))]) hC (cM_jaw (cA := cA) (ad := adm) F.2.1 ((xs (i + 1).toNatClampNeg)) ((((xs (i + 2).toNatClampNeg).toInt64 <<< ((32 : Int32).toInt64 &&& 63)) ||| ((xs (i + 3).toNatClampNeg).toInt64 &&& 4294967295))) v h2) (cwL_24 (rm := zRm 2) hC.1.2.2.2.2 rfl rfl ⟨Nat.le_of_ble_eq_true rfl, Nat.le_of_ble_eq_true rfl⟩) (Nat.le_trans (Nat.le_add_right _ _) hf.1) (Nat.le_trans (Nat.le_add_right _ _) hf.2) dL_law_254 rfl rfl (Nat.le_of_ble_eq_true rfl) ⟨_, rfl, rfl⟩ (List.mem_append_right _ (List.mem_of_getElem? (heM_o cA adm v))) (fun _ h => List.mem_append_right _ h) (LF_m F) (zJ_r F) (fun _ => LF_D F) ?_
  refine y_icmp_eq (tgt := 1364) (a := true) (b := false) (o := true) hC (if_pos rfl) dL_law_257 (by decide) (fun _ => ?_) (fun h => nomatch h)
  refine yG_of (k8 := k9 + 1) (n8 := n9 + 3) (Nat.le_add_right _ _) (Nat.le_add_right _ _) ?_
  exact g ad vT vH vA (V_put_stage w1 u) (M_put_jaw_moves w2 v) F h3
theorem cL_seat {p : Program} {l : Launch} {e : Env} {s : State} {m : MethodId} {below : List Frame} {meth : Method} {c : Code} {Q : State → Prop} {D : va_G} {cA : Nat → ClassId} {tK tB : Nat} {kS vS : Nat → Nat} {k9 n9 b L : Nat} {xs : Nat → Int32} {ad adm : Nat → Nat} {vT vH vA : Value} {u : SV} {v : SM} {i : Int32} {Rel : SV → SM → Prop} (hC : zC p s m #[Value.ref b] meth c code 4 RL zTS D (zTy cA) (fun q => s.heap.size ≤ q) (zE tK tB kS vS)) (hX : va_X b L xs s s.heap) (hbl : b < s.heap.size) (hs : zS_seat Rel) (F : LF ad adm s.heap.size) (hR : Rel u v) (hf : k9 + 1 ≤ room_1.cells ∧ n9 + 3 ≤ room_1.slots) (hi1 : vp_in (i + 1) L) (hi2 : vp_in (i + 2) L) (g : ∀ (ad' : Nat → Nat) (vT vH vA : Value) (u' : SV) (v' : SM), LF ad' adm s.heap.size → Rel u' v' → yG p l e room_1 s m #[Value.ref b] below meth c 4 D (fun q => s.heap.size ≤ q) Q (k9 + 1) (n9 + 3) (wV cA ad' vT vH vA u' ++ wM cA adm v') [(0, .ref b), (1, .ref (ad' 0)), (2, .ref (adm 0)), (3, .int i)] 1364 []) : yG p l e room_1 s m #[Value.ref b] below meth c 4 D (fun q => s.heap.size ≤ q) Q k9 n9 (wV cA ad vT vH vA u ++ wM cA adm v) [(0, .ref b), (1, .ref (ad 0)), (2, .ref (adm 0)), (3, .int i)] 262 [] := by
  obtain ⟨r, w1, w2, h1, h2, h3⟩ := hs ((xs (i + 1).toNatClampNeg)) ((xs (i + 2).toNatClampNeg)) u v hR
  refine y_aload_n hC dL_law_262 rfl 1 rfl ?_
  refine y_aload_n hC dL_law_263 rfl 0 rfl ?_
  refine y_iload_n hC dL_law_264 rfl 3 rfl ?_
  refine y_iconst hC dL_law_265 kI_1 ?_
  refine y_iadd hC dL_law_266 ?_
  refine y_xld hC hX hbl (Nat.not_le_of_lt hbl) hi1 dL_law_267 ?_
  refine y_aload_n hC dL_law_268 rfl 0 rfl ?_
  refine y_iload_n hC dL_law_269 rfl 3 rfl ?_
  refine y_iconst hC dL_law_270 kI_2 ?_
  refine y_iadd hC dL_law_271 ?_
  refine y_xld hC hX hbl (Nat.not_le_of_lt hbl) hi2 dL_law_272 ?_
  refine y_calliV (As := [.int (xs (i + 1).toNatClampNeg), .int (xs (i + 2).toNatClampNeg)]) hC (cV_seat (cA := cA) (ad := ad) (vT := vT) (vH := vH) (vA := vA) (tK := tK) (tB := tB) (kS := kS) (vS := vS) F.1 ((xs (i + 1).toNatClampNeg)) ((xs (i + 2).toNatClampNeg)) u h1) (cwL_25 (rm := zRm 1) hC.1.2.2.2.2 rfl rfl ⟨Nat.le_of_ble_eq_true rfl, Nat.le_of_ble_eq_true rfl⟩) (Nat.le_trans (Nat.le_add_right _ _) hf.1) (Nat.le_trans (Nat.le_add_right _ _) hf.2) dL_law_273 rfl rfl (Nat.le_of_ble_eq_true rfl) ⟨_, rfl, rfl⟩ (List.mem_append_left _ (List.mem_of_getElem? (heV_o cA ad vT vH vA u))) (fun _ h => List.mem_append_left _ h) (LF_v F) (zJ_l F) (fun _ => LF_D F) ?_
  refine y_aload_n hC dL_law_276 rfl 2 rfl ?_
  refine y_aload_n hC dL_law_277 rfl 0 rfl ?_
  refine y_iload_n hC dL_law_278 rfl 3 rfl ?_
  refine y_iconst hC dL_law_279 kI_1 ?_
  refine y_iadd hC dL_law_280 ?_
  refine y_xld hC hX hbl (Nat.not_le_of_lt hbl) hi1 dL_law_281 ?_
  refine y_aload_n hC dL_law_282 rfl 0 rfl ?_
  refine y_iload_n hC dL_law_283 rfl 3 rfl ?_
  refine y_iconst hC dL_law_284 kI_2 ?_
  refine y_iadd hC dL_law_285 ?_
  refine y_xld hC hX hbl (Nat.not_le_of_lt hbl) hi2 dL_law_286 ?_
  refine y_calliV (As := [.int (xs (i + 1).toNatClampNeg), .int (xs (i + 2).toNatClampNeg)]) hC (cM_seat (cA := cA) (ad := adm) F.2.1 ((xs (i + 1).toNatClampNeg)) ((xs (i + 2).toNatClampNeg)) v h2) (cwL_29 (rm := zRm 2) hC.1.2.2.2.2 rfl rfl ⟨Nat.le_of_ble_eq_true rfl, Nat.le_of_ble_eq_true rfl⟩) (Nat.le_trans (Nat.le_add_right _ _) hf.1) (Nat.le_trans (Nat.le_add_right _ _) hf.2) dL_law_287 rfl rfl (Nat.le_of_ble_eq_true rfl) ⟨_, rfl, rfl⟩ (List.mem_append_right _ (List.mem_of_getElem? (heM_o cA adm v))) (fun _ h => List.mem_append_right _ h) (LF_m F) (zJ_r F) (fun _ => LF_D F) ?_
  refine y_icmp_eq (tgt := 1364) (a := true) (b := false) (o := true) hC (if_pos rfl) dL_law_290 (by decide) (fun _ => ?_) (fun h => nomatch h)
  refine yG_of (k8 := k9 + 1) (n8 := n9 + 3) (Nat.le_add_right _ _) (Nat.le_add_right _ _) ?_
  exact g ad vT vH vA (V_put_seats_far_side w1 u) (M_put_seats_far_side w2 v) F h3
theorem cL_of {p : Program} {l : Launch} {e : Env} {s : State} {m : MethodId} {below : List Frame} {meth : Method} {c : Code} {Q : State → Prop} {D : va_G} {cA : Nat → ClassId} {tK tB : Nat} {kS vS : Nat → Nat} {k9 n9 b L : Nat} {xs : Nat → Int32} {ad adm : Nat → Nat} {vT vH vA : Value} {u : SV} {v : SM} {i : Int32} {Rel : SV → SM → Prop} (hC : zC p s m #[Value.ref b] meth c code 4 RL zTS D (zTy cA) (fun q => s.heap.size ≤ q) (zE tK tB kS vS)) (hX : va_X b L xs s s.heap) (hbl : b < s.heap.size) (hs : zS_of Rel) (F : LF ad adm s.heap.size) (hR : Rel u v) (hf : k9 + 1 ≤ room_1.cells ∧ n9 + 3 ≤ room_1.slots) (hi1 : vp_in (i + 1) L) (hi2 : vp_in (i + 2) L) (g : ∀ (ad' : Nat → Nat) (vT vH vA : Value) (u' : SV) (v' : SM), LF ad' adm s.heap.size → Rel u' v' → yG p l e room_1 s m #[Value.ref b] below meth c 4 D (fun q => s.heap.size ≤ q) Q (k9 + 1) (n9 + 3) (wV cA ad' vT vH vA u' ++ wM cA adm v') [(0, .ref b), (1, .ref (ad' 0)), (2, .ref (adm 0)), (3, .int i)] 1364 []) : yG p l e room_1 s m #[Value.ref b] below meth c 4 D (fun q => s.heap.size ≤ q) Q k9 n9 (wV cA ad vT vH vA u ++ wM cA adm v) [(0, .ref b), (1, .ref (ad 0)), (2, .ref (adm 0)), (3, .int i)] 295 [] := by
  obtain ⟨r, h1, h2, h3⟩ := hs ((xs (i + 1).toNatClampNeg)) ((xs (i + 2).toNatClampNeg)) u v hR
  refine y_aload_n hC dL_law_295 rfl 1 rfl ?_
  refine y_aload_n hC dL_law_296 rfl 0 rfl ?_
  refine y_iload_n hC dL_law_297 rfl 3 rfl ?_
  refine y_iconst hC dL_law_298 kI_1 ?_
  refine y_iadd hC dL_law_299 ?_
  refine y_xld hC hX hbl (Nat.not_le_of_lt hbl) hi1 dL_law_300 ?_
  refine y_aload_n hC dL_law_301 rfl 0 rfl ?_
  refine y_iload_n hC dL_law_302 rfl 3 rfl ?_
  refine y_iconst hC dL_law_303 kI_2 ?_
  refine y_iadd hC dL_law_304 ?_
  refine y_xld hC hX hbl (Nat.not_le_of_lt hbl) hi2 dL_law_305 ?_
  refine y_calliV (As := [.int (xs (i + 1).toNatClampNeg), .int (xs (i + 2).toNatClampNeg)]) hC (cV_of (cA := cA) (ad := ad) (vT := vT) (vH := vH) (vA := vA) (tK := tK) (tB := tB) (kS := kS) (vS := vS) F.1 ((xs (i + 1).toNatClampNeg)) ((xs (i + 2).toNatClampNeg)) u h1) (cwL_30 (rm := zRm 1) hC.1.2.2.2.2 rfl rfl ⟨Nat.le_of_ble_eq_true rfl, Nat.le_of_ble_eq_true rfl⟩) (Nat.le_trans (Nat.le_add_right _ _) hf.1) (Nat.le_trans (Nat.le_add_right _ _) hf.2) dL_law_306 rfl rfl (Nat.le_of_ble_eq_true rfl) ⟨_, rfl, rfl⟩ (List.mem_append_left _ (List.mem_of_getElem? (heV_o cA ad vT vH vA u))) (fun _ h => List.mem_append_left _ h) (fun _ h => h.elim) zJ_ro (fun h => h) ?_
  refine y_aload_n hC dL_law_309 rfl 2 rfl ?_
  refine y_aload_n hC dL_law_310 rfl 0 rfl ?_
  refine y_iload_n hC dL_law_311 rfl 3 rfl ?_
  refine y_iconst hC dL_law_312 kI_1 ?_
  refine y_iadd hC dL_law_313 ?_
  refine y_xld hC hX hbl (Nat.not_le_of_lt hbl) hi1 dL_law_314 ?_
  refine y_aload_n hC dL_law_315 rfl 0 rfl ?_
  refine y_iload_n hC dL_law_316 rfl 3 rfl ?_
  refine y_iconst hC dL_law_317 kI_2 ?_
  refine y_iadd hC dL_law_318 ?_
  refine y_xld hC hX hbl (Nat.not_le_of_lt hbl) hi2 dL_law_319 ?_
  refine y_calliV (As := [.int (xs (i + 1).toNatClampNeg), .int (xs (i + 2).toNatClampNeg)]) hC (cM_of (cA := cA) (ad := adm) F.2.1 ((xs (i + 1).toNatClampNeg)) ((xs (i + 2).toNatClampNeg)) v h2) (cwL_33 (rm := zRm 2) hC.1.2.2.2.2 rfl rfl ⟨Nat.le_of_ble_eq_true rfl, Nat.le_of_ble_eq_true rfl⟩) (Nat.le_trans (Nat.le_add_right _ _) hf.1) (Nat.le_trans (Nat.le_add_right _ _) hf.2) dL_law_320 rfl rfl (Nat.le_of_ble_eq_true rfl) ⟨_, rfl, rfl⟩ (List.mem_append_right _ (List.mem_of_getElem? (heM_o cA adm v))) (fun _ h => List.mem_append_right _ h) (fun _ h => h.elim) zJ_ro (fun h => h) ?_
  refine y_icmp_eq (tgt := 1364) (a := true) (b := false) (o := true) hC (if_pos rfl) dL_law_323 (by decide) (fun _ => ?_) (fun h => nomatch h)
  refine yG_of (k8 := k9 + 1) (n8 := n9 + 3) (Nat.le_add_right _ _) (Nat.le_add_right _ _) ?_
  exact g ad vT vH vA u v F h3
theorem cL_say {p : Program} {l : Launch} {e : Env} {s : State} {m : MethodId} {below : List Frame} {meth : Method} {c : Code} {Q : State → Prop} {D : va_G} {cA : Nat → ClassId} {tK tB : Nat} {kS vS : Nat → Nat} {k9 n9 b L : Nat} {xs : Nat → Int32} {ad adm : Nat → Nat} {vT vH vA : Value} {u : SV} {v : SM} {i : Int32} {Rel : SV → SM → Prop} (hC : zC p s m #[Value.ref b] meth c code 4 RL zTS D (zTy cA) (fun q => s.heap.size ≤ q) (zE tK tB kS vS)) (hX : va_X b L xs s s.heap) (hbl : b < s.heap.size) (hs : zS_say Rel) (F : LF ad adm s.heap.size) (hR : Rel u v) (hf : k9 + 1 ≤ room_1.cells ∧ n9 + 3 ≤ room_1.slots) (hi1 : vp_in (i + 1) L) (g : ∀ (ad' : Nat → Nat) (vT vH vA : Value) (u' : SV) (v' : SM), LF ad' adm s.heap.size → Rel u' v' → yG p l e room_1 s m #[Value.ref b] below meth c 4 D (fun q => s.heap.size ≤ q) Q (k9 + 1) (n9 + 3) (wV cA ad' vT vH vA u' ++ wM cA adm v') [(0, .ref b), (1, .ref (ad' 0)), (2, .ref (adm 0)), (3, .int i)] 1364 []) : yG p l e room_1 s m #[Value.ref b] below meth c 4 D (fun q => s.heap.size ≤ q) Q k9 n9 (wV cA ad vT vH vA u ++ wM cA adm v) [(0, .ref b), (1, .ref (ad 0)), (2, .ref (adm 0)), (3, .int i)] 328 [] := by
  obtain ⟨r, w1, w2, h1, h2, h3⟩ := hs ((xs (i + 1).toNatClampNeg)) u v hR
  refine y_aload_n hC dL_law_328 rfl 1 rfl ?_
  refine y_aload_n hC dL_law_329 rfl 0 rfl ?_
  refine y_iload_n hC dL_law_330 rfl 3 rfl ?_
  refine y_iconst hC dL_law_331 kI_1 ?_
  refine y_iadd hC dL_law_332 ?_
  refine y_xld hC hX hbl (Nat.not_le_of_lt hbl) hi1 dL_law_333 ?_
  refine y_calliV (As := [.int (xs (i + 1).toNatClampNeg)]) hC (cV_say (cA := cA) (ad := ad) (vT := vT) (vH := vH) (vA := vA) (tK := tK) (tB := tB) (kS := kS) (vS := vS) F.1 ((xs (i + 1).toNatClampNeg)) u h1) (cwL_34 (rm := zRm 0) hC.1.2.2.2.2 rfl rfl ⟨Nat.le_of_ble_eq_true rfl, Nat.le_of_ble_eq_true rfl⟩) (Nat.le_trans (Nat.le_add_right _ _) hf.1) (Nat.le_trans (Nat.le_add_right _ _) hf.2) dL_law_334 rfl rfl (Nat.le_of_ble_eq_true rfl) ⟨_, rfl, rfl⟩ (List.mem_append_left _ (List.mem_of_getElem? (heV_o cA ad vT vH vA u))) (fun _ h => List.mem_append_left _ h) (LF_v F) (zJ_l F) (fun _ => LF_D F) ?_
  refine y_aload_n hC dL_law_337 rfl 2 rfl ?_
  refine y_aload_n hC dL_law_338 rfl 0 rfl ?_
  refine y_iload_n hC dL_law_339 rfl 3 rfl ?_
  refine y_iconst hC dL_law_340 kI_1 ?_
  refine y_iadd hC dL_law_341 ?_
  refine y_xld hC hX hbl (Nat.not_le_of_lt hbl) hi1 dL_law_342 ?_
  refine y_calliV (As := [.int (xs (i + 1).toNatClampNeg)]) hC (cM_say (cA := cA) (ad := adm) F.2.1 ((xs (i + 1).toNatClampNeg)) v h2) (cwL_37 (rm := zRm 1) hC.1.2.2.2.2 rfl rfl ⟨Nat.le_of_ble_eq_true rfl, Nat.le_of_ble_eq_true rfl⟩) (Nat.le_trans (Nat.le_add_right _ _) hf.1) (Nat.le_trans (Nat.le_add_right _ _) hf.2) dL_law_343 rfl rfl (Nat.le_of_ble_eq_true rfl) ⟨_, rfl, rfl⟩ (List.mem_append_right _ (List.mem_of_getElem? (heM_o cA adm v))) (fun _ h => List.mem_append_right _ h) (LF_m F) (zJ_r F) (fun _ => LF_D F) ?_
  refine y_icmp_eq (tgt := 1364) (a := true) (b := false) (o := true) hC (if_pos rfl) dL_law_346 (by decide) (fun _ => ?_) (fun h => nomatch h)
  refine yG_of (k8 := k9 + 1) (n8 := n9 + 3) (Nat.le_add_right _ _) (Nat.le_add_right _ _) ?_
  exact g ad vT vH vA (V_put_stage w1 u) (M_put_letters_letter w2 v) F h3
theorem cL_feed {p : Program} {l : Launch} {e : Env} {s : State} {m : MethodId} {below : List Frame} {meth : Method} {c : Code} {Q : State → Prop} {D : va_G} {cA : Nat → ClassId} {tK tB : Nat} {kS vS : Nat → Nat} {k9 n9 b L : Nat} {xs : Nat → Int32} {ad adm : Nat → Nat} {vT vH vA : Value} {u : SV} {v : SM} {i : Int32} {Rel : SV → SM → Prop} (hC : zC p s m #[Value.ref b] meth c code 4 RL zTS D (zTy cA) (fun q => s.heap.size ≤ q) (zE tK tB kS vS)) (hX : va_X b L xs s s.heap) (hbl : b < s.heap.size) (hs : zS_feed Rel) (F : LF ad adm s.heap.size) (hR : Rel u v) (hf : k9 + 1 ≤ room_1.cells ∧ n9 + 3 ≤ room_1.slots) (hi1 : vp_in (i + 1) L) (hi2 : vp_in (i + 2) L) (g : ∀ (ad' : Nat → Nat) (vT vH vA : Value) (u' : SV) (v' : SM), LF ad' adm s.heap.size → Rel u' v' → yG p l e room_1 s m #[Value.ref b] below meth c 4 D (fun q => s.heap.size ≤ q) Q (k9 + 1) (n9 + 3) (wV cA ad' vT vH vA u' ++ wM cA adm v') [(0, .ref b), (1, .ref (ad' 0)), (2, .ref (adm 0)), (3, .int i)] 1364 []) : yG p l e room_1 s m #[Value.ref b] below meth c 4 D (fun q => s.heap.size ≤ q) Q k9 n9 (wV cA ad vT vH vA u ++ wM cA adm v) [(0, .ref b), (1, .ref (ad 0)), (2, .ref (adm 0)), (3, .int i)] 351 [] := by
  obtain ⟨r, w1, w2, h1, h2, h3⟩ := hs ((xs (i + 1).toNatClampNeg)) ((xs (i + 2).toNatClampNeg)) u v hR
  refine y_aload_n hC dL_law_351 rfl 1 rfl ?_
  refine y_aload_n hC dL_law_352 rfl 0 rfl ?_
  refine y_iload_n hC dL_law_353 rfl 3 rfl ?_
  refine y_iconst hC dL_law_354 kI_1 ?_
  refine y_iadd hC dL_law_355 ?_
  refine y_xld hC hX hbl (Nat.not_le_of_lt hbl) hi1 dL_law_356 ?_
  refine y_aload_n hC dL_law_357 rfl 0 rfl ?_
  refine y_iload_n hC dL_law_358 rfl 3 rfl ?_
  refine y_iconst hC dL_law_359 kI_2 ?_
  refine y_iadd hC dL_law_360 ?_
  refine y_xld hC hX hbl (Nat.not_le_of_lt hbl) hi2 dL_law_361 ?_
  refine y_calliV (As := [.int (xs (i + 1).toNatClampNeg), .int (xs (i + 2).toNatClampNeg)]) hC (cV_feed (cA := cA) (ad := ad) (vT := vT) (vH := vH) (vA := vA) (tK := tK) (tB := tB) (kS := kS) (vS := vS) F.1 ((xs (i + 1).toNatClampNeg)) ((xs (i + 2).toNatClampNeg)) u h1) (cwL_38 (rm := zRm 0) hC.1.2.2.2.2 rfl rfl ⟨Nat.le_of_ble_eq_true rfl, Nat.le_of_ble_eq_true rfl⟩) (Nat.le_trans (Nat.le_add_right _ _) hf.1) (Nat.le_trans (Nat.le_add_right _ _) hf.2) dL_law_362 rfl rfl (Nat.le_of_ble_eq_true rfl) ⟨_, rfl, rfl⟩ (List.mem_append_left _ (List.mem_of_getElem? (heV_o cA ad vT vH vA u))) (fun _ h => List.mem_append_left _ h) (LF_v F) (zJ_l F) (fun _ => LF_D F) ?_
  refine y_aload_n hC dL_law_365 rfl 2 rfl ?_
  refine y_aload_n hC dL_law_366 rfl 0 rfl ?_
  refine y_iload_n hC dL_law_367 rfl 3 rfl ?_
  refine y_iconst hC dL_law_368 kI_1 ?_
  refine y_iadd hC dL_law_369 ?_
  refine y_xld hC hX hbl (Nat.not_le_of_lt hbl) hi1 dL_law_370 ?_
  refine y_aload_n hC dL_law_371 rfl 0 rfl ?_
  refine y_iload_n hC dL_law_372 rfl 3 rfl ?_
  refine y_iconst hC dL_law_373 kI_2 ?_
  refine y_iadd hC dL_law_374 ?_
  refine y_xld hC hX hbl (Nat.not_le_of_lt hbl) hi2 dL_law_375 ?_
  refine y_calliV (As := [.int (xs (i + 1).toNatClampNeg), .int (xs (i + 2).toNatClampNeg)]) hC (cM_feed (cA := cA) (ad := adm) F.2.1 ((xs (i + 1).toNatClampNeg)) ((xs (i + 2).toNatClampNeg)) v h2) (cwL_41 (rm := zRm 1) hC.1.2.2.2.2 rfl rfl ⟨Nat.le_of_ble_eq_true rfl, Nat.le_of_ble_eq_true rfl⟩) (Nat.le_trans (Nat.le_add_right _ _) hf.1) (Nat.le_trans (Nat.le_add_right _ _) hf.2) dL_law_376 rfl rfl (Nat.le_of_ble_eq_true rfl) ⟨_, rfl, rfl⟩ (List.mem_append_right _ (List.mem_of_getElem? (heM_o cA adm v))) (fun _ h => List.mem_append_right _ h) (LF_m F) (zJ_r F) (fun _ => LF_D F) ?_
  refine y_icmp_eq (tgt := 1364) (a := true) (b := false) (o := true) hC (if_pos rfl) dL_law_379 (by decide) (fun _ => ?_) (fun h => nomatch h)
  refine yG_of (k8 := k9 + 1) (n8 := n9 + 3) (Nat.le_add_right _ _) (Nat.le_add_right _ _) ?_
  exact g ad vT vH vA (V_put_textLength_text w1 u) (M_put_fed_text w2 v) F h3
theorem cL_house {p : Program} {l : Launch} {e : Env} {s : State} {m : MethodId} {below : List Frame} {meth : Method} {c : Code} {Q : State → Prop} {D : va_G} {cA : Nat → ClassId} {tK tB : Nat} {kS vS : Nat → Nat} {k9 n9 b L : Nat} {xs : Nat → Int32} {ad adm : Nat → Nat} {vT vH vA : Value} {u : SV} {v : SM} {i : Int32} {Rel : SV → SM → Prop} (hC : zC p s m #[Value.ref b] meth c code 4 RL zTS D (zTy cA) (fun q => s.heap.size ≤ q) (zE tK tB kS vS)) (hX : va_X b L xs s s.heap) (hbl : b < s.heap.size) (hs : zS_house Rel) (F : LF ad adm s.heap.size) (hR : Rel u v) (hf : k9 + 1 ≤ room_1.cells ∧ n9 + 3 ≤ room_1.slots)  (g : ∀ (ad' : Nat → Nat) (vT vH vA : Value) (u' : SV) (v' : SM), LF ad' adm s.heap.size → Rel u' v' → yG p l e room_1 s m #[Value.ref b] below meth c 4 D (fun q => s.heap.size ≤ q) Q (k9 + 1) (n9 + 3) (wV cA ad' vT vH vA u' ++ wM cA adm v') [(0, .ref b), (1, .ref (ad' 0)), (2, .ref (adm 0)), (3, .int i)] 1364 []) : yG p l e room_1 s m #[Value.ref b] below meth c 4 D (fun q => s.heap.size ≤ q) Q k9 n9 (wV cA ad vT vH vA u ++ wM cA adm v) [(0, .ref b), (1, .ref (ad 0)), (2, .ref (adm 0)), (3, .int i)] 384 [] := by
  obtain ⟨r, w1, w2, h1, h2, h3⟩ := hs  u v hR
  refine y_aload_n hC dL_law_384 rfl 1 rfl ?_
  refine y_calliE (ι := Value × Value × Value) (f := fun q => wV cA ad q.1 q.2.1 q.2.2 (V_put_textLength_houseCount_stage_rlen_rat_hs w1 u) ++ wM cA adm v) (Pf := fun _ => True) (mc := 0) (ms := 0) (As := []) (B := fun _ => zBe D cA ad (V_put_textLength_houseCount_stage_rlen_rat_hs w1 u)) (Pre := fun _ => zPre D (zTy cA) (zE tK tB kS vS) (zAd ad 80) (wV cA ad vT vH vA u)) (Ac := fun _ => zAd ad 80) hC (fun _ => cV_house F.1  u h1) (fun _ => zPre_blind) (fun H U hP _ hU hK h1 h2 => ⟨hU ▸ zP_sub hP (fun _ h => List.mem_append_left _ h), hK, h1, h2⟩) (cwL_42 (rm := zRm 159) hC.1.2.2.2.2 rfl rfl ⟨Nat.le_of_ble_eq_true rfl, Nat.le_of_ble_eq_true rfl⟩) ⟨Nat.le_trans (Nat.le_add_right _ 1) hf.1, Nat.le_trans (Nat.le_add_right _ 3) hf.2⟩ dL_law_385 rfl rfl (Nat.le_of_ble_eq_true rfl) ⟨_, rfl, rfl⟩ (List.mem_append_left _ (List.mem_of_getElem? (heV_o cA ad vT vH vA u))) (fun _ _ => LF_v F) (fun H H1 hP _ _ hB hk => by
    obtain ⟨a1, a2, a3, hB⟩ := hB
    exact ⟨(a1, a2, a3), trivial, zJ_l F H H1 hP hB hk, LF_D F⟩) (fun q _ => ?_)
  refine y_aload_n hC dL_law_388 rfl 2 rfl ?_
  refine y_calliV (As := []) hC (cM_house (cA := cA) (ad := adm) F.2.1  v h2) (cwL_46 (rm := zRm 7) hC.1.2.2.2.2 rfl rfl ⟨Nat.le_of_ble_eq_true rfl, Nat.le_of_ble_eq_true rfl⟩) (Nat.le_trans (Nat.le_add_right _ 1) hf.1) (Nat.le_trans (Nat.le_add_right _ 3) hf.2) dL_law_389 rfl rfl (Nat.le_of_ble_eq_true rfl) ⟨_, rfl, rfl⟩ (List.mem_append_right _ (List.mem_of_getElem? (heM_o cA adm v))) (fun _ h => List.mem_append_right _ h) (LF_m F) (zJ_r F) (fun _ => LF_D F) ?_
  refine y_icmp_eq (tgt := 1364) (a := true) (b := false) (o := true) hC (if_pos rfl) dL_law_392 (by decide) (fun _ => ?_) (fun h => nomatch h)
  refine yG_of (k8 := k9 + 1) (n8 := n9 + 3) (Nat.le_succ _) (Nat.add_le_add_left (Nat.zero_le _) _) ?_
  exact g ad q.1 q.2.1 q.2.2 (V_put_textLength_houseCount_stage_rlen_rat_hs w1 u) (M_putm_house w2 v) F h3
theorem cL_told {p : Program} {l : Launch} {e : Env} {s : State} {m : MethodId} {below : List Frame} {meth : Method} {c : Code} {Q : State → Prop} {D : va_G} {cA : Nat → ClassId} {tK tB : Nat} {kS vS : Nat → Nat} {k9 n9 b L : Nat} {xs : Nat → Int32} {ad adm : Nat → Nat} {vT vH vA : Value} {u : SV} {v : SM} {i : Int32} {Rel : SV → SM → Prop} (hC : zC p s m #[Value.ref b] meth c code 4 RL zTS D (zTy cA) (fun q => s.heap.size ≤ q) (zE tK tB kS vS)) (hX : va_X b L xs s s.heap) (hbl : b < s.heap.size) (hs : zS_told Rel) (F : LF ad adm s.heap.size) (hR : Rel u v) (hf : k9 + 1 ≤ room_1.cells ∧ n9 + 3 ≤ room_1.slots) (hi1 : vp_in (i + 1) L) (hi2 : vp_in (i + 2) L) (g : ∀ (ad' : Nat → Nat) (vT vH vA : Value) (u' : SV) (v' : SM), LF ad' adm s.heap.size → Rel u' v' → yG p l e room_1 s m #[Value.ref b] below meth c 4 D (fun q => s.heap.size ≤ q) Q (k9 + 1) (n9 + 3) (wV cA ad' vT vH vA u' ++ wM cA adm v') [(0, .ref b), (1, .ref (ad' 0)), (2, .ref (adm 0)), (3, .int i)] 1364 []) : yG p l e room_1 s m #[Value.ref b] below meth c 4 D (fun q => s.heap.size ≤ q) Q k9 n9 (wV cA ad vT vH vA u ++ wM cA adm v) [(0, .ref b), (1, .ref (ad 0)), (2, .ref (adm 0)), (3, .int i)] 397 [] := by
  obtain ⟨r, h1, h2, h3⟩ := hs ((xs (i + 1).toNatClampNeg)) ((xs (i + 2).toNatClampNeg)) u v hR
  refine y_aload_n hC dL_law_397 rfl 1 rfl ?_
  refine y_aload_n hC dL_law_398 rfl 0 rfl ?_
  refine y_iload_n hC dL_law_399 rfl 3 rfl ?_
  refine y_iconst hC dL_law_400 kI_1 ?_
  refine y_iadd hC dL_law_401 ?_
  refine y_xld hC hX hbl (Nat.not_le_of_lt hbl) hi1 dL_law_402 ?_
  refine y_aload_n hC dL_law_403 rfl 0 rfl ?_
  refine y_iload_n hC dL_law_404 rfl 3 rfl ?_
  refine y_iconst hC dL_law_405 kI_2 ?_
  refine y_iadd hC dL_law_406 ?_
  refine y_xld hC hX hbl (Nat.not_le_of_lt hbl) hi2 dL_law_407 ?_
  refine y_calliV (As := [.int (xs (i + 1).toNatClampNeg), .int (xs (i + 2).toNatClampNeg)]) hC (cV_told (cA := cA) (ad := ad) (vT := vT) (vH := vH) (vA := vA) (tK := tK) (tB := tB) (kS := kS) (vS := vS) F.1 ((xs (i + 1).toNatClampNeg)) ((xs (i + 2).toNatClampNeg)) u h1) (cwL_47 (rm := zRm 1) hC.1.2.2.2.2 rfl rfl ⟨Nat.le_of_ble_eq_true rfl, Nat.le_of_ble_eq_true rfl⟩) (Nat.le_trans (Nat.le_add_right _ _) hf.1) (Nat.le_trans (Nat.le_add_right _ _) hf.2) dL_law_408 rfl rfl (Nat.le_of_ble_eq_true rfl) ⟨_, rfl, rfl⟩ (List.mem_append_left _ (List.mem_of_getElem? (heV_o cA ad vT vH vA u))) (fun _ h => List.mem_append_left _ h) (fun _ h => h.elim) zJ_ro (fun h => h) ?_
  refine y_aload_n hC dL_law_411 rfl 2 rfl ?_
  refine y_aload_n hC dL_law_412 rfl 0 rfl ?_
  refine y_iload_n hC dL_law_413 rfl 3 rfl ?_
  refine y_iconst hC dL_law_414 kI_1 ?_
  refine y_iadd hC dL_law_415 ?_
  refine y_xld hC hX hbl (Nat.not_le_of_lt hbl) hi1 dL_law_416 ?_
  refine y_aload_n hC dL_law_417 rfl 0 rfl ?_
  refine y_iload_n hC dL_law_418 rfl 3 rfl ?_
  refine y_iconst hC dL_law_419 kI_2 ?_
  refine y_iadd hC dL_law_420 ?_
  refine y_xld hC hX hbl (Nat.not_le_of_lt hbl) hi2 dL_law_421 ?_
  refine y_calliV (As := [.int (xs (i + 1).toNatClampNeg), .int (xs (i + 2).toNatClampNeg)]) hC (cM_told (cA := cA) (ad := adm) F.2.1 ((xs (i + 1).toNatClampNeg)) ((xs (i + 2).toNatClampNeg)) v h2) (cwL_50 (rm := zRm 3) hC.1.2.2.2.2 rfl rfl ⟨Nat.le_of_ble_eq_true rfl, Nat.le_of_ble_eq_true rfl⟩) (Nat.le_trans (Nat.le_add_right _ _) hf.1) (Nat.le_trans (Nat.le_add_right _ _) hf.2) dL_law_422 rfl rfl (Nat.le_of_ble_eq_true rfl) ⟨_, rfl, rfl⟩ (List.mem_append_right _ (List.mem_of_getElem? (heM_o cA adm v))) (fun _ h => List.mem_append_right _ h) (fun _ h => h.elim) zJ_ro (fun h => h) ?_
  refine y_icmp_eq (tgt := 1364) (a := true) (b := false) (o := true) hC (if_pos rfl) dL_law_425 (by decide) (fun _ => ?_) (fun h => nomatch h)
  refine yG_of (k8 := k9 + 1) (n8 := n9 + 3) (Nat.le_add_right _ _) (Nat.le_add_right _ _) ?_
  exact g ad vT vH vA u v F h3
theorem cL_voice {p : Program} {l : Launch} {e : Env} {s : State} {m : MethodId} {below : List Frame} {meth : Method} {c : Code} {Q : State → Prop} {D : va_G} {cA : Nat → ClassId} {tK tB : Nat} {kS vS : Nat → Nat} {k9 n9 b L : Nat} {xs : Nat → Int32} {ad adm : Nat → Nat} {vT vH vA : Value} {u : SV} {v : SM} {i : Int32} {Rel : SV → SM → Prop} (hC : zC p s m #[Value.ref b] meth c code 4 RL zTS D (zTy cA) (fun q => s.heap.size ≤ q) (zE tK tB kS vS)) (hX : va_X b L xs s s.heap) (hbl : b < s.heap.size) (hs : zS_voice Rel) (F : LF ad adm s.heap.size) (hR : Rel u v) (hf : k9 + 1 ≤ room_1.cells ∧ n9 + 3 ≤ room_1.slots) (hi1 : vp_in (i + 1) L) (hi2 : vp_in (i + 2) L) (g : ∀ (ad' : Nat → Nat) (vT vH vA : Value) (u' : SV) (v' : SM), LF ad' adm s.heap.size → Rel u' v' → yG p l e room_1 s m #[Value.ref b] below meth c 4 D (fun q => s.heap.size ≤ q) Q (k9 + 1) (n9 + 3) (wV cA ad' vT vH vA u' ++ wM cA adm v') [(0, .ref b), (1, .ref (ad' 0)), (2, .ref (adm 0)), (3, .int i)] 1364 []) : yG p l e room_1 s m #[Value.ref b] below meth c 4 D (fun q => s.heap.size ≤ q) Q k9 n9 (wV cA ad vT vH vA u ++ wM cA adm v) [(0, .ref b), (1, .ref (ad 0)), (2, .ref (adm 0)), (3, .int i)] 430 [] := by
  obtain ⟨r, w1, w2, h1, h2, h3⟩ := hs ((xs (i + 1).toNatClampNeg)) ((xs (i + 2).toNatClampNeg)) u v hR
  refine y_aload_n hC dL_law_430 rfl 1 rfl ?_
  refine y_aload_n hC dL_law_431 rfl 0 rfl ?_
  refine y_iload_n hC dL_law_432 rfl 3 rfl ?_
  refine y_iconst hC dL_law_433 kI_1 ?_
  refine y_iadd hC dL_law_434 ?_
  refine y_xld hC hX hbl (Nat.not_le_of_lt hbl) hi1 dL_law_435 ?_
  refine y_aload_n hC dL_law_436 rfl 0 rfl ?_
  refine y_iload_n hC dL_law_437 rfl 3 rfl ?_
  refine y_iconst hC dL_law_438 kI_2 ?_
  refine y_iadd hC dL_law_439 ?_
  refine y_xld hC hX hbl (Nat.not_le_of_lt hbl) hi2 dL_law_440 ?_
  refine y_calliE (f := fun ad' => wV cA ad' vT vH vA w1 ++ wM cA adm v) (Pf := fun ad' => LF ad' adm s.heap.size ∧ ad' 0 = ad 0) (mc := 1) (ms := 3) (As := [.int (xs (i + 1).toNatClampNeg), .int (xs (i + 2).toNatClampNeg)]) (B := fun sz => zBv D cA ad sz vT vH vA w1) (Pre := fun sz => zPreN D (zTy cA) (zE tK tB kS vS) (fun a => zAd ad 80 a ∨ sz ≤ a) sz (wV cA ad vT vH vA u)) (Ac := fun sz a => zAd ad 80 a ∨ sz ≤ a) hC (fun sz => cV_voice F.1 ((xs (i + 1).toNatClampNeg)) ((xs (i + 2).toNatClampNeg)) u h1) (fun _ => zPreN_blind) (fun H U hP _ hU hK h1 h2 => ⟨by rw [hU], hU ▸ zP_sub hP (fun _ h => List.mem_append_left _ h), hK, h1, h2⟩) (cwL_51v (rm := zRmA 2 1 3) hC.1.2.2.2.2 rfl rfl ⟨Nat.le_of_ble_eq_true rfl, Nat.le_of_ble_eq_true rfl⟩) hf dL_law_441 rfl rfl (Nat.le_of_ble_eq_true rfl) ⟨_, rfl, rfl⟩ (List.mem_append_left _ (List.mem_of_getElem? (heV_o cA ad vT vH vA u))) (fun sz h q hq => hq.elim (LF_v F q) (Nat.le_trans h)) (fun H H1 hP _ hN hB hk => zJ_v F hP hN hB hk) (fun ad' F' => ?_)
  rw [← F'.2]
  replace F := F'.1
  refine y_aload_n hC dL_law_444 rfl 2 rfl ?_
  refine y_aload_n hC dL_law_445 rfl 0 rfl ?_
  refine y_iload_n hC dL_law_446 rfl 3 rfl ?_
  refine y_iconst hC dL_law_447 kI_1 ?_
  refine y_iadd hC dL_law_448 ?_
  refine y_xld hC hX hbl (Nat.not_le_of_lt hbl) hi1 dL_law_449 ?_
  refine y_aload_n hC dL_law_450 rfl 0 rfl ?_
  refine y_iload_n hC dL_law_451 rfl 3 rfl ?_
  refine y_iconst hC dL_law_452 kI_2 ?_
  refine y_iadd hC dL_law_453 ?_
  refine y_xld hC hX hbl (Nat.not_le_of_lt hbl) hi2 dL_law_454 ?_
  refine y_calliV (As := [.int (xs (i + 1).toNatClampNeg), .int (xs (i + 2).toNatClampNeg)]) hC (cM_voice (cA := cA) (ad := adm) F.2.1 ((xs (i + 1).toNatClampNeg)) ((xs (i + 2).toNatClampNeg)) v h2) (cwL_54 (rm := zRm 1) hC.1.2.2.2.2 rfl rfl ⟨Nat.le_of_ble_eq_true rfl, Nat.le_of_ble_eq_true rfl⟩) hf.1 hf.2 dL_law_455 rfl rfl (Nat.le_of_ble_eq_true rfl) ⟨_, rfl, rfl⟩ (List.mem_append_right _ (List.mem_of_getElem? (heM_o cA adm v))) (fun _ h => List.mem_append_right _ h) (LF_m F) (zJ_r F) (fun _ => LF_D F) ?_
  refine y_icmp_eq (tgt := 1364) (a := true) (b := false) (o := true) hC (if_pos rfl) dL_law_458 (by decide) (fun _ => ?_) (fun h => nomatch h)
  exact g ad' vT vH vA w1 (M_put_voices_kind_v w2 v) F h3
theorem cL_held {p : Program} {l : Launch} {e : Env} {s : State} {m : MethodId} {below : List Frame} {meth : Method} {c : Code} {Q : State → Prop} {D : va_G} {cA : Nat → ClassId} {tK tB : Nat} {kS vS : Nat → Nat} {k9 n9 b L : Nat} {xs : Nat → Int32} {ad adm : Nat → Nat} {vT vH vA : Value} {u : SV} {v : SM} {i : Int32} {Rel : SV → SM → Prop} (hC : zC p s m #[Value.ref b] meth c code 4 RL zTS D (zTy cA) (fun q => s.heap.size ≤ q) (zE tK tB kS vS)) (hX : va_X b L xs s s.heap) (hbl : b < s.heap.size) (hs : zS_held Rel) (F : LF ad adm s.heap.size) (hR : Rel u v) (hf : k9 + 1 ≤ room_1.cells ∧ n9 + 3 ≤ room_1.slots) (hi1 : vp_in (i + 1) L) (hi2 : vp_in (i + 2) L) (hi3 : vp_in (i + 3) L) (hi4 : vp_in (i + 4) L) (g : ∀ (ad' : Nat → Nat) (vT vH vA : Value) (u' : SV) (v' : SM), LF ad' adm s.heap.size → Rel u' v' → yG p l e room_1 s m #[Value.ref b] below meth c 4 D (fun q => s.heap.size ≤ q) Q (k9 + 1) (n9 + 3) (wV cA ad' vT vH vA u' ++ wM cA adm v') [(0, .ref b), (1, .ref (ad' 0)), (2, .ref (adm 0)), (3, .int i)] 1364 []) : yG p l e room_1 s m #[Value.ref b] below meth c 4 D (fun q => s.heap.size ≤ q) Q k9 n9 (wV cA ad vT vH vA u ++ wM cA adm v) [(0, .ref b), (1, .ref (ad 0)), (2, .ref (adm 0)), (3, .int i)] 463 [] := by
  obtain ⟨r, w1, w2, h1, h2, h3⟩ := hs ((xs (i + 1).toNatClampNeg)) ((xs (i + 2).toNatClampNeg)) ((xs (i + 3).toNatClampNeg)) ((xs (i + 4).toNatClampNeg)) u v hR
  refine y_aload_n hC dL_law_463 rfl 1 rfl ?_
  refine y_aload_n hC dL_law_464 rfl 0 rfl ?_
  refine y_iload_n hC dL_law_465 rfl 3 rfl ?_
  refine y_iconst hC dL_law_466 kI_1 ?_
  refine y_iadd hC dL_law_467 ?_
  refine y_xld hC hX hbl (Nat.not_le_of_lt hbl) hi1 dL_law_468 ?_
  refine y_aload_n hC dL_law_469 rfl 0 rfl ?_
  refine y_iload_n hC dL_law_470 rfl 3 rfl ?_
  refine y_iconst hC dL_law_471 kI_2 ?_
  refine y_iadd hC dL_law_472 ?_
  refine y_xld hC hX hbl (Nat.not_le_of_lt hbl) hi2 dL_law_473 ?_
  refine y_aload_n hC dL_law_474 rfl 0 rfl ?_
  refine y_iload_n hC dL_law_475 rfl 3 rfl ?_
  refine y_iconst hC dL_law_476 kI_3 ?_
  refine y_iadd hC dL_law_477 ?_
  refine y_xld hC hX hbl (Nat.not_le_of_lt hbl) hi3 dL_law_478 ?_
  refine y_aload_n hC dL_law_479 rfl 0 rfl ?_
  refine y_iload_n hC dL_law_480 rfl 3 rfl ?_
  refine y_iconst hC dL_law_481 kI_4 ?_
  refine y_iadd hC dL_law_482 ?_
  refine y_xld hC hX hbl (Nat.not_le_of_lt hbl) hi4 dL_law_483 ?_
  refine y_calliV (As := [.int (xs (i + 1).toNatClampNeg), .int (xs (i + 2).toNatClampNeg), .int (xs (i + 3).toNatClampNeg), .int (xs (i + 4).toNatClampNeg)]) hC (cV_held (cA := cA) (ad := ad) (vT := vT) (vH := vH) (vA := vA) (tK := tK) (tB := tB) (kS := kS) (vS := vS) F.1 ((xs (i + 1).toNatClampNeg)) ((xs (i + 2).toNatClampNeg)) ((xs (i + 3).toNatClampNeg)) ((xs (i + 4).toNatClampNeg)) u h1) (cwL_55 (rm := zRm 4) hC.1.2.2.2.2 rfl rfl ⟨Nat.le_of_ble_eq_true rfl, Nat.le_of_ble_eq_true rfl⟩) (Nat.le_trans (Nat.le_add_right _ _) hf.1) (Nat.le_trans (Nat.le_add_right _ _) hf.2) dL_law_484 rfl rfl (Nat.le_of_ble_eq_true rfl) ⟨_, rfl, rfl⟩ (List.mem_append_left _ (List.mem_of_getElem? (heV_o cA ad vT vH vA u))) (fun _ h => List.mem_append_left _ h) (LF_v F) (zJ_l F) (fun _ => LF_D F) ?_
  refine y_aload_n hC dL_law_487 rfl 2 rfl ?_
  refine y_aload_n hC dL_law_488 rfl 0 rfl ?_
  refine y_iload_n hC dL_law_489 rfl 3 rfl ?_
  refine y_iconst hC dL_law_490 kI_1 ?_
  refine y_iadd hC dL_law_491 ?_
  refine y_xld hC hX hbl (Nat.not_le_of_lt hbl) hi1 dL_law_492 ?_
  refine y_aload_n hC dL_law_493 rfl 0 rfl ?_
  refine y_iload_n hC dL_law_494 rfl 3 rfl ?_
  refine y_iconst hC dL_law_495 kI_2 ?_
  refine y_iadd hC dL_law_496 ?_
  refine y_xld hC hX hbl (Nat.not_le_of_lt hbl) hi2 dL_law_497 ?_
  refine y_aload_n hC dL_law_498 rfl 0 rfl ?_
  refine y_iload_n hC dL_law_499 rfl 3 rfl ?_
  refine y_iconst hC dL_law_500 kI_3 ?_
  refine y_iadd hC dL_law_501 ?_
  refine y_xld hC hX hbl (Nat.not_le_of_lt hbl) hi3 dL_law_502 ?_
  refine y_aload_n hC dL_law_503 rfl 0 rfl ?_
  refine y_iload_n hC dL_law_504 rfl 3 rfl ?_
  refine y_iconst hC dL_law_505 kI_4 ?_
  refine y_iadd hC dL_law_506 ?_
  refine y_xld hC hX hbl (Nat.not_le_of_lt hbl) hi4 dL_law_507 ?_
  refine y_calliV (As := [.int (xs (i + 1).toNatClampNeg), .int (xs (i + 2).toNatClampNeg), .int (xs (i + 3).toNatClampNeg), .int (xs (i + 4).toNatClampNeg)]) hC (cM_held (cA := cA) (ad := adm) F.2.1 ((xs (i + 1).toNatClampNeg)) ((xs (i + 2).toNatClampNeg)) ((xs (i + 3).toNatClampNeg)) ((xs (i + 4).toNatClampNeg)) v h2) (cwL_59 (rm := zRm 9) hC.1.2.2.2.2 rfl rfl ⟨Nat.le_of_ble_eq_true rfl, Nat.le_of_ble_eq_true rfl⟩) (Nat.le_trans (Nat.le_add_right _ _) hf.1) (Nat.le_trans (Nat.le_add_right _ _) hf.2) dL_law_508 rfl rfl (Nat.le_of_ble_eq_true rfl) ⟨_, rfl, rfl⟩ (List.mem_append_right _ (List.mem_of_getElem? (heM_o cA adm v))) (fun _ h => List.mem_append_right _ h) (LF_m F) (zJ_r F) (fun _ => LF_D F) ?_
  refine y_icmp_eq (tgt := 1364) (a := true) (b := false) (o := true) hC (if_pos rfl) dL_law_511 (by decide) (fun _ => ?_) (fun h => nomatch h)
  refine yG_of (k8 := k9 + 1) (n8 := n9 + 3) (Nat.le_add_right _ _) (Nat.le_add_right _ _) ?_
  exact g ad vT vH vA (V_put_look w1 u) (M_put_pile w2 v) F h3
theorem cL_heard {p : Program} {l : Launch} {e : Env} {s : State} {m : MethodId} {below : List Frame} {meth : Method} {c : Code} {Q : State → Prop} {D : va_G} {cA : Nat → ClassId} {tK tB : Nat} {kS vS : Nat → Nat} {k9 n9 b L : Nat} {xs : Nat → Int32} {ad adm : Nat → Nat} {vT vH vA : Value} {u : SV} {v : SM} {i : Int32} {Rel : SV → SM → Prop} (hC : zC p s m #[Value.ref b] meth c code 4 RL zTS D (zTy cA) (fun q => s.heap.size ≤ q) (zE tK tB kS vS)) (hX : va_X b L xs s s.heap) (hbl : b < s.heap.size) (hs : zS_heard Rel) (F : LF ad adm s.heap.size) (hR : Rel u v) (hf : k9 + 1 ≤ room_1.cells ∧ n9 + 3 ≤ room_1.slots) (hi1 : vp_in (i + 1) L) (hi2 : vp_in (i + 2) L) (hi3 : vp_in (i + 3) L) (hi4 : vp_in (i + 4) L) (g : ∀ (ad' : Nat → Nat) (vT vH vA : Value) (u' : SV) (v' : SM), LF ad' adm s.heap.size → Rel u' v' → yG p l e room_1 s m #[Value.ref b] below meth c 4 D (fun q => s.heap.size ≤ q) Q (k9 + 1) (n9 + 3) (wV cA ad' vT vH vA u' ++ wM cA adm v') [(0, .ref b), (1, .ref (ad' 0)), (2, .ref (adm 0)), (3, .int i)] 1364 []) : yG p l e room_1 s m #[Value.ref b] below meth c 4 D (fun q => s.heap.size ≤ q) Q k9 n9 (wV cA ad vT vH vA u ++ wM cA adm v) [(0, .ref b), (1, .ref (ad 0)), (2, .ref (adm 0)), (3, .int i)] 516 [] := by
  obtain ⟨r, w1, w2, h1, h2, h3⟩ := hs ((xs (i + 1).toNatClampNeg)) ((xs (i + 2).toNatClampNeg)) ((xs (i + 3).toNatClampNeg)) ((xs (i + 4).toNatClampNeg)) u v hR
  refine y_aload_n hC dL_law_516 rfl 1 rfl ?_
  refine y_aload_n hC dL_law_517 rfl 0 rfl ?_
  refine y_iload_n hC dL_law_518 rfl 3 rfl ?_
  refine y_iconst hC dL_law_519 kI_1 ?_
  refine y_iadd hC dL_law_520 ?_
  refine y_xld hC hX hbl (Nat.not_le_of_lt hbl) hi1 dL_law_521 ?_
  refine y_aload_n hC dL_law_522 rfl 0 rfl ?_
  refine y_iload_n hC dL_law_523 rfl 3 rfl ?_
  refine y_iconst hC dL_law_524 kI_2 ?_
  refine y_iadd hC dL_law_525 ?_
  refine y_xld hC hX hbl (Nat.not_le_of_lt hbl) hi2 dL_law_526 ?_
  refine y_aload_n hC dL_law_527 rfl 0 rfl ?_
  refine y_iload_n hC dL_law_528 rfl 3 rfl ?_
  refine y_iconst hC dL_law_529 kI_3 ?_
  refine y_iadd hC dL_law_530 ?_
  refine y_xld hC hX hbl (Nat.not_le_of_lt hbl) hi3 dL_law_531 ?_
  refine y_aload_n hC dL_law_532 rfl 0 rfl ?_
  refine y_iload_n hC dL_law_533 rfl 3 rfl ?_
  refine y_iconst hC dL_law_534 kI_4 ?_
  refine y_iadd hC dL_law_535 ?_
  refine y_xld hC hX hbl (Nat.not_le_of_lt hbl) hi4 dL_law_536 ?_
  refine y_calliV (As := [.int (xs (i + 1).toNatClampNeg), .int (xs (i + 2).toNatClampNeg), .int (xs (i + 3).toNatClampNeg), .int (xs (i + 4).toNatClampNeg)]) hC (cV_heard (cA := cA) (ad := ad) (vT := vT) (vH := vH) (vA := vA) (tK := tK) (tB := tB) (kS := kS) (vS := vS) F.1 ((xs (i + 1).toNatClampNeg)) ((xs (i + 2).toNatClampNeg)) ((xs (i + 3).toNatClampNeg)) ((xs (i + 4).toNatClampNeg)) u h1) (cwL_60 (rm := zRm 6) hC.1.2.2.2.2 rfl rfl ⟨Nat.le_of_ble_eq_true rfl, Nat.le_of_ble_eq_true rfl⟩) (Nat.le_trans (Nat.le_add_right _ _) hf.1) (Nat.le_trans (Nat.le_add_right _ _) hf.2) dL_law_537 rfl rfl (Nat.le_of_ble_eq_true rfl) ⟨_, rfl, rfl⟩ (List.mem_append_left _ (List.mem_of_getElem? (heV_o cA ad vT vH vA u))) (fun _ h => List.mem_append_left _ h) (LF_v F) (zJ_l F) (fun _ => LF_D F) ?_
  refine y_aload_n hC dL_law_540 rfl 2 rfl ?_
  refine y_aload_n hC dL_law_541 rfl 0 rfl ?_
  refine y_iload_n hC dL_law_542 rfl 3 rfl ?_
  refine y_iconst hC dL_law_543 kI_1 ?_
  refine y_iadd hC dL_law_544 ?_
  refine y_xld hC hX hbl (Nat.not_le_of_lt hbl) hi1 dL_law_545 ?_
  refine y_aload_n hC dL_law_546 rfl 0 rfl ?_
  refine y_iload_n hC dL_law_547 rfl 3 rfl ?_
  refine y_iconst hC dL_law_548 kI_2 ?_
  refine y_iadd hC dL_law_549 ?_
  refine y_xld hC hX hbl (Nat.not_le_of_lt hbl) hi2 dL_law_550 ?_
  refine y_aload_n hC dL_law_551 rfl 0 rfl ?_
  refine y_iload_n hC dL_law_552 rfl 3 rfl ?_
  refine y_iconst hC dL_law_553 kI_3 ?_
  refine y_iadd hC dL_law_554 ?_
  refine y_xld hC hX hbl (Nat.not_le_of_lt hbl) hi3 dL_law_555 ?_
  refine y_aload_n hC dL_law_556 rfl 0 rfl ?_
  refine y_iload_n hC dL_law_557 rfl 3 rfl ?_
  refine y_iconst hC dL_law_558 kI_4 ?_
  refine y_iadd hC dL_law_559 ?_
  refine y_xld hC hX hbl (Nat.not_le_of_lt hbl) hi4 dL_law_560 ?_
  refine y_calliV (As := [.int (xs (i + 1).toNatClampNeg), .int (xs (i + 2).toNatClampNeg), .int (xs (i + 3).toNatClampNeg), .int (xs (i + 4).toNatClampNeg)]) hC (cM_heard (cA := cA) (ad := adm) F.2.1 ((xs (i + 1).toNatClampNeg)) ((xs (i + 2).toNatClampNeg)) ((xs (i + 3).toNatClampNeg)) ((xs (i + 4).toNatClampNeg)) v h2) (cwL_63 (rm := zRm 9) hC.1.2.2.2.2 rfl rfl ⟨Nat.le_of_ble_eq_true rfl, Nat.le_of_ble_eq_true rfl⟩) (Nat.le_trans (Nat.le_add_right _ _) hf.1) (Nat.le_trans (Nat.le_add_right _ _) hf.2) dL_law_561 rfl rfl (Nat.le_of_ble_eq_true rfl) ⟨_, rfl, rfl⟩ (List.mem_append_right _ (List.mem_of_getElem? (heM_o cA adm v))) (fun _ h => List.mem_append_right _ h) (LF_m F) (zJ_r F) (fun _ => LF_D F) ?_
  refine y_icmp_eq (tgt := 1364) (a := true) (b := false) (o := true) hC (if_pos rfl) dL_law_564 (by decide) (fun _ => ?_) (fun h => nomatch h)
  refine yG_of (k8 := k9 + 1) (n8 := n9 + 3) (Nat.le_add_right _ _) (Nat.le_add_right _ _) ?_
  exact g ad vT vH vA (V_put_look w1 u) (M_put_pile w2 v) F h3
theorem cL_houseful {p : Program} {l : Launch} {e : Env} {s : State} {m : MethodId} {below : List Frame} {meth : Method} {c : Code} {Q : State → Prop} {D : va_G} {cA : Nat → ClassId} {tK tB : Nat} {kS vS : Nat → Nat} {k9 n9 b L : Nat} {xs : Nat → Int32} {ad adm : Nat → Nat} {vT vH vA : Value} {u : SV} {v : SM} {i : Int32} {Rel : SV → SM → Prop} (hC : zC p s m #[Value.ref b] meth c code 4 RL zTS D (zTy cA) (fun q => s.heap.size ≤ q) (zE tK tB kS vS)) (hX : va_X b L xs s s.heap) (hbl : b < s.heap.size) (hs : zS_houseful Rel) (F : LF ad adm s.heap.size) (hR : Rel u v) (hf : k9 + 1 ≤ room_1.cells ∧ n9 + 3 ≤ room_1.slots) (hi1 : vp_in (i + 1) L) (hi2 : vp_in (i + 2) L) (g : ∀ (ad' : Nat → Nat) (vT vH vA : Value) (u' : SV) (v' : SM), LF ad' adm s.heap.size → Rel u' v' → yG p l e room_1 s m #[Value.ref b] below meth c 4 D (fun q => s.heap.size ≤ q) Q (k9 + 1) (n9 + 3) (wV cA ad' vT vH vA u' ++ wM cA adm v') [(0, .ref b), (1, .ref (ad' 0)), (2, .ref (adm 0)), (3, .int i)] 1364 []) : yG p l e room_1 s m #[Value.ref b] below meth c 4 D (fun q => s.heap.size ≤ q) Q k9 n9 (wV cA ad vT vH vA u ++ wM cA adm v) [(0, .ref b), (1, .ref (ad 0)), (2, .ref (adm 0)), (3, .int i)] 569 [] := by
  obtain ⟨r, w1, w2, h1, h2, h3⟩ := hs ((xs (i + 1).toNatClampNeg)) ((xs (i + 2).toNatClampNeg)) u v hR
  refine y_aload_n hC dL_law_569 rfl 1 rfl ?_
  refine y_aload_n hC dL_law_570 rfl 0 rfl ?_
  refine y_iload_n hC dL_law_571 rfl 3 rfl ?_
  refine y_iconst hC dL_law_572 kI_1 ?_
  refine y_iadd hC dL_law_573 ?_
  refine y_xld hC hX hbl (Nat.not_le_of_lt hbl) hi1 dL_law_574 ?_
  refine y_aload_n hC dL_law_575 rfl 0 rfl ?_
  refine y_iload_n hC dL_law_576 rfl 3 rfl ?_
  refine y_iconst hC dL_law_577 kI_2 ?_
  refine y_iadd hC dL_law_578 ?_
  refine y_xld hC hX hbl (Nat.not_le_of_lt hbl) hi2 dL_law_579 ?_
  refine y_calliV (As := [.int (xs (i + 1).toNatClampNeg), .int (xs (i + 2).toNatClampNeg)]) hC (cV_houseful (cA := cA) (ad := ad) (vT := vT) (vH := vH) (vA := vA) (tK := tK) (tB := tB) (kS := kS) (vS := vS) F.1 ((xs (i + 1).toNatClampNeg)) ((xs (i + 2).toNatClampNeg)) u h1) (cwL_64 (rm := zRm 5) hC.1.2.2.2.2 rfl rfl ⟨Nat.le_of_ble_eq_true rfl, Nat.le_of_ble_eq_true rfl⟩) (Nat.le_trans (Nat.le_add_right _ _) hf.1) (Nat.le_trans (Nat.le_add_right _ _) hf.2) dL_law_580 rfl rfl (Nat.le_of_ble_eq_true rfl) ⟨_, rfl, rfl⟩ (List.mem_append_left _ (List.mem_of_getElem? (heV_o cA ad vT vH vA u))) (fun _ h => List.mem_append_left _ h) (LF_v F) (zJ_l F) (fun _ => LF_D F) ?_
  refine y_aload_n hC dL_law_583 rfl 2 rfl ?_
  refine y_aload_n hC dL_law_584 rfl 0 rfl ?_
  refine y_iload_n hC dL_law_585 rfl 3 rfl ?_
  refine y_iconst hC dL_law_586 kI_1 ?_
  refine y_iadd hC dL_law_587 ?_
  refine y_xld hC hX hbl (Nat.not_le_of_lt hbl) hi1 dL_law_588 ?_
  refine y_aload_n hC dL_law_589 rfl 0 rfl ?_
  refine y_iload_n hC dL_law_590 rfl 3 rfl ?_
  refine y_iconst hC dL_law_591 kI_2 ?_
  refine y_iadd hC dL_law_592 ?_
  refine y_xld hC hX hbl (Nat.not_le_of_lt hbl) hi2 dL_law_593 ?_
  refine y_calliV (As := [.int (xs (i + 1).toNatClampNeg), .int (xs (i + 2).toNatClampNeg)]) hC (cM_houseful (cA := cA) (ad := adm) F.2.1 ((xs (i + 1).toNatClampNeg)) ((xs (i + 2).toNatClampNeg)) v h2) (cwL_67 (rm := zRm 9) hC.1.2.2.2.2 rfl rfl ⟨Nat.le_of_ble_eq_true rfl, Nat.le_of_ble_eq_true rfl⟩) (Nat.le_trans (Nat.le_add_right _ _) hf.1) (Nat.le_trans (Nat.le_add_right _ _) hf.2) dL_law_594 rfl rfl (Nat.le_of_ble_eq_true rfl) ⟨_, rfl, rfl⟩ (List.mem_append_right _ (List.mem_of_getElem? (heM_o cA adm v))) (fun _ h => List.mem_append_right _ h) (LF_m F) (zJ_r F) (fun _ => LF_D F) ?_
  refine y_icmp_eq (tgt := 1364) (a := true) (b := false) (o := true) hC (if_pos rfl) dL_law_597 (by decide) (fun _ => ?_) (fun h => nomatch h)
  refine yG_of (k8 := k9 + 1) (n8 := n9 + 3) (Nat.le_add_right _ _) (Nat.le_add_right _ _) ?_
  exact g ad vT vH vA (V_put_look w1 u) (M_put_pile w2 v) F h3
theorem cL_drawn {p : Program} {l : Launch} {e : Env} {s : State} {m : MethodId} {below : List Frame} {meth : Method} {c : Code} {Q : State → Prop} {D : va_G} {cA : Nat → ClassId} {tK tB : Nat} {kS vS : Nat → Nat} {k9 n9 b L : Nat} {xs : Nat → Int32} {ad adm : Nat → Nat} {vT vH vA : Value} {u : SV} {v : SM} {i : Int32} {Rel : SV → SM → Prop} (hC : zC p s m #[Value.ref b] meth c code 4 RL zTS D (zTy cA) (fun q => s.heap.size ≤ q) (zE tK tB kS vS)) (hX : va_X b L xs s s.heap) (hbl : b < s.heap.size) (hs : zS_drawn Rel) (F : LF ad adm s.heap.size) (hR : Rel u v) (hf : k9 + 1 ≤ room_1.cells ∧ n9 + 3 ≤ room_1.slots) (hi1 : vp_in (i + 1) L) (hi2 : vp_in (i + 2) L) (hi3 : vp_in (i + 3) L) (g : ∀ (ad' : Nat → Nat) (vT vH vA : Value) (u' : SV) (v' : SM), LF ad' adm s.heap.size → Rel u' v' → yG p l e room_1 s m #[Value.ref b] below meth c 4 D (fun q => s.heap.size ≤ q) Q (k9 + 1) (n9 + 3) (wV cA ad' vT vH vA u' ++ wM cA adm v') [(0, .ref b), (1, .ref (ad' 0)), (2, .ref (adm 0)), (3, .int i)] 1364 []) : yG p l e room_1 s m #[Value.ref b] below meth c 4 D (fun q => s.heap.size ≤ q) Q k9 n9 (wV cA ad vT vH vA u ++ wM cA adm v) [(0, .ref b), (1, .ref (ad 0)), (2, .ref (adm 0)), (3, .int i)] 602 [] := by
  obtain ⟨r, w1, w2, h1, h2, h3⟩ := hs ((xs (i + 1).toNatClampNeg)) ((xs (i + 2).toNatClampNeg)) ((xs (i + 3).toNatClampNeg)) u v hR
  refine y_aload_n hC dL_law_602 rfl 1 rfl ?_
  refine y_aload_n hC dL_law_603 rfl 0 rfl ?_
  refine y_iload_n hC dL_law_604 rfl 3 rfl ?_
  refine y_iconst hC dL_law_605 kI_1 ?_
  refine y_iadd hC dL_law_606 ?_
  refine y_xld hC hX hbl (Nat.not_le_of_lt hbl) hi1 dL_law_607 ?_
  refine y_aload_n hC dL_law_608 rfl 0 rfl ?_
  refine y_iload_n hC dL_law_609 rfl 3 rfl ?_
  refine y_iconst hC dL_law_610 kI_2 ?_
  refine y_iadd hC dL_law_611 ?_
  refine y_xld hC hX hbl (Nat.not_le_of_lt hbl) hi2 dL_law_612 ?_
  refine y_aload_n hC dL_law_613 rfl 0 rfl ?_
  refine y_iload_n hC dL_law_614 rfl 3 rfl ?_
  refine y_iconst hC dL_law_615 kI_3 ?_
  refine y_iadd hC dL_law_616 ?_
  refine y_xld hC hX hbl (Nat.not_le_of_lt hbl) hi3 dL_law_617 ?_
  refine y_calliV (As := [.int (xs (i + 1).toNatClampNeg), .int (xs (i + 2).toNatClampNeg), .int (xs (i + 3).toNatClampNeg)]) hC (cV_drawn (cA := cA) (ad := ad) (vT := vT) (vH := vH) (vA := vA) (tK := tK) (tB := tB) (kS := kS) (vS := vS) F.1 ((xs (i + 1).toNatClampNeg)) ((xs (i + 2).toNatClampNeg)) ((xs (i + 3).toNatClampNeg)) u h1) (cwL_68 (rm := zRm 4) hC.1.2.2.2.2 rfl rfl ⟨Nat.le_of_ble_eq_true rfl, Nat.le_of_ble_eq_true rfl⟩) (Nat.le_trans (Nat.le_add_right _ _) hf.1) (Nat.le_trans (Nat.le_add_right _ _) hf.2) dL_law_618 rfl rfl (Nat.le_of_ble_eq_true rfl) ⟨_, rfl, rfl⟩ (List.mem_append_left _ (List.mem_of_getElem? (heV_o cA ad vT vH vA u))) (fun _ h => List.mem_append_left _ h) (LF_v F) (zJ_l F) (fun _ => LF_D F) ?_
  refine y_aload_n hC dL_law_621 rfl 2 rfl ?_
  refine y_aload_n hC dL_law_622 rfl 0 rfl ?_
  refine y_iload_n hC dL_law_623 rfl 3 rfl ?_
  refine y_iconst hC dL_law_624 kI_1 ?_
  refine y_iadd hC dL_law_625 ?_
  refine y_xld hC hX hbl (Nat.not_le_of_lt hbl) hi1 dL_law_626 ?_
  refine y_aload_n hC dL_law_627 rfl 0 rfl ?_
  refine y_iload_n hC dL_law_628 rfl 3 rfl ?_
  refine y_iconst hC dL_law_629 kI_2 ?_
  refine y_iadd hC dL_law_630 ?_
  refine y_xld hC hX hbl (Nat.not_le_of_lt hbl) hi2 dL_law_631 ?_
  refine y_aload_n hC dL_law_632 rfl 0 rfl ?_
  refine y_iload_n hC dL_law_633 rfl 3 rfl ?_
  refine y_iconst hC dL_law_634 kI_3 ?_
  refine y_iadd hC dL_law_635 ?_
  refine y_xld hC hX hbl (Nat.not_le_of_lt hbl) hi3 dL_law_636 ?_
  refine y_calliV (As := [.int (xs (i + 1).toNatClampNeg), .int (xs (i + 2).toNatClampNeg), .int (xs (i + 3).toNatClampNeg)]) hC (cM_drawn (cA := cA) (ad := adm) F.2.1 ((xs (i + 1).toNatClampNeg)) ((xs (i + 2).toNatClampNeg)) ((xs (i + 3).toNatClampNeg)) v h2) (cwL_72 (rm := zRm 7) hC.1.2.2.2.2 rfl rfl ⟨Nat.le_of_ble_eq_true rfl, Nat.le_of_ble_eq_true rfl⟩) (Nat.le_trans (Nat.le_add_right _ _) hf.1) (Nat.le_trans (Nat.le_add_right _ _) hf.2) dL_law_637 rfl rfl (Nat.le_of_ble_eq_true rfl) ⟨_, rfl, rfl⟩ (List.mem_append_right _ (List.mem_of_getElem? (heM_o cA adm v))) (fun _ h => List.mem_append_right _ h) (LF_m F) (zJ_r F) (fun _ => LF_D F) ?_
  refine y_icmp_eq (tgt := 1364) (a := true) (b := false) (o := true) hC (if_pos rfl) dL_law_640 (by decide) (fun _ => ?_) (fun h => nomatch h)
  refine yG_of (k8 := k9 + 1) (n8 := n9 + 3) (Nat.le_add_right _ _) (Nat.le_add_right _ _) ?_
  exact g ad vT vH vA (V_put_look w1 u) (M_put_pile w2 v) F h3
theorem cL_latest {p : Program} {l : Launch} {e : Env} {s : State} {m : MethodId} {below : List Frame} {meth : Method} {c : Code} {Q : State → Prop} {D : va_G} {cA : Nat → ClassId} {tK tB : Nat} {kS vS : Nat → Nat} {k9 n9 b L : Nat} {xs : Nat → Int32} {ad adm : Nat → Nat} {vT vH vA : Value} {u : SV} {v : SM} {i : Int32} {Rel : SV → SM → Prop} (hC : zC p s m #[Value.ref b] meth c code 4 RL zTS D (zTy cA) (fun q => s.heap.size ≤ q) (zE tK tB kS vS)) (hX : va_X b L xs s s.heap) (hbl : b < s.heap.size) (hs : zS_latest Rel) (F : LF ad adm s.heap.size) (hR : Rel u v) (hf : k9 + 1 ≤ room_1.cells ∧ n9 + 3 ≤ room_1.slots) (hi1 : vp_in (i + 1) L) (hi2 : vp_in (i + 2) L) (g : ∀ (ad' : Nat → Nat) (vT vH vA : Value) (u' : SV) (v' : SM), LF ad' adm s.heap.size → Rel u' v' → yG p l e room_1 s m #[Value.ref b] below meth c 4 D (fun q => s.heap.size ≤ q) Q (k9 + 1) (n9 + 3) (wV cA ad' vT vH vA u' ++ wM cA adm v') [(0, .ref b), (1, .ref (ad' 0)), (2, .ref (adm 0)), (3, .int i)] 1364 []) : yG p l e room_1 s m #[Value.ref b] below meth c 4 D (fun q => s.heap.size ≤ q) Q k9 n9 (wV cA ad vT vH vA u ++ wM cA adm v) [(0, .ref b), (1, .ref (ad 0)), (2, .ref (adm 0)), (3, .int i)] 645 [] := by
  obtain ⟨r, w1, w2, h1, h2, h3⟩ := hs ((xs (i + 1).toNatClampNeg)) ((xs (i + 2).toNatClampNeg)) u v hR
  refine y_aload_n hC dL_law_645 rfl 1 rfl ?_
  refine y_aload_n hC dL_law_646 rfl 0 rfl ?_
  refine y_iload_n hC dL_law_647 rfl 3 rfl ?_
  refine y_iconst hC dL_law_648 kI_1 ?_
  refine y_iadd hC dL_law_649 ?_
  refine y_xld hC hX hbl (Nat.not_le_of_lt hbl) hi1 dL_law_650 ?_
  refine y_aload_n hC dL_law_651 rfl 0 rfl ?_
  refine y_iload_n hC dL_law_652 rfl 3 rfl ?_
  refine y_iconst hC dL_law_653 kI_2 ?_
  refine y_iadd hC dL_law_654 ?_
  refine y_xld hC hX hbl (Nat.not_le_of_lt hbl) hi2 dL_law_655 ?_
  refine y_calliV (As := [.int (xs (i + 1).toNatClampNeg), .int (xs (i + 2).toNatClampNeg)]) hC (cV_latest (cA := cA) (ad := ad) (vT := vT) (vH := vH) (vA := vA) (tK := tK) (tB := tB) (kS := kS) (vS := vS) F.1 ((xs (i + 1).toNatClampNeg)) ((xs (i + 2).toNatClampNeg)) u h1) (cwL_73 (rm := zRm 4) hC.1.2.2.2.2 rfl rfl ⟨Nat.le_of_ble_eq_true rfl, Nat.le_of_ble_eq_true rfl⟩) (Nat.le_trans (Nat.le_add_right _ _) hf.1) (Nat.le_trans (Nat.le_add_right _ _) hf.2) dL_law_656 rfl rfl (Nat.le_of_ble_eq_true rfl) ⟨_, rfl, rfl⟩ (List.mem_append_left _ (List.mem_of_getElem? (heV_o cA ad vT vH vA u))) (fun _ h => List.mem_append_left _ h) (LF_v F) (zJ_l F) (fun _ => LF_D F) ?_
  refine y_aload_n hC dL_law_659 rfl 2 rfl ?_
  refine y_aload_n hC dL_law_660 rfl 0 rfl ?_
  refine y_iload_n hC dL_law_661 rfl 3 rfl ?_
  refine y_iconst hC dL_law_662 kI_1 ?_
  refine y_iadd hC dL_law_663 ?_
  refine y_xld hC hX hbl (Nat.not_le_of_lt hbl) hi1 dL_law_664 ?_
  refine y_aload_n hC dL_law_665 rfl 0 rfl ?_
  refine y_iload_n hC dL_law_666 rfl 3 rfl ?_
  refine y_iconst hC dL_law_667 kI_2 ?_
  refine y_iadd hC dL_law_668 ?_
  refine y_xld hC hX hbl (Nat.not_le_of_lt hbl) hi2 dL_law_669 ?_
  refine y_calliV (As := [.int (xs (i + 1).toNatClampNeg), .int (xs (i + 2).toNatClampNeg)]) hC (cM_latest (cA := cA) (ad := adm) F.2.1 ((xs (i + 1).toNatClampNeg)) ((xs (i + 2).toNatClampNeg)) v h2) (cwL_76 (rm := zRm 7) hC.1.2.2.2.2 rfl rfl ⟨Nat.le_of_ble_eq_true rfl, Nat.le_of_ble_eq_true rfl⟩) (Nat.le_trans (Nat.le_add_right _ _) hf.1) (Nat.le_trans (Nat.le_add_right _ _) hf.2) dL_law_670 rfl rfl (Nat.le_of_ble_eq_true rfl) ⟨_, rfl, rfl⟩ (List.mem_append_right _ (List.mem_of_getElem? (heM_o cA adm v))) (fun _ h => List.mem_append_right _ h) (LF_m F) (zJ_r F) (fun _ => LF_D F) ?_
  refine y_icmp_eq (tgt := 1364) (a := true) (b := false) (o := true) hC (if_pos rfl) dL_law_673 (by decide) (fun _ => ?_) (fun h => nomatch h)
  refine yG_of (k8 := k9 + 1) (n8 := n9 + 3) (Nat.le_add_right _ _) (Nat.le_add_right _ _) ?_
  exact g ad vT vH vA (V_put_look w1 u) (M_put_pile w2 v) F h3
theorem cL_wrong {p : Program} {l : Launch} {e : Env} {s : State} {m : MethodId} {below : List Frame} {meth : Method} {c : Code} {Q : State → Prop} {D : va_G} {cA : Nat → ClassId} {tK tB : Nat} {kS vS : Nat → Nat} {k9 n9 b L : Nat} {xs : Nat → Int32} {ad adm : Nat → Nat} {vT vH vA : Value} {u : SV} {v : SM} {i : Int32} {Rel : SV → SM → Prop} (hC : zC p s m #[Value.ref b] meth c code 4 RL zTS D (zTy cA) (fun q => s.heap.size ≤ q) (zE tK tB kS vS)) (hX : va_X b L xs s s.heap) (hbl : b < s.heap.size) (hs : zS_wrong Rel) (F : LF ad adm s.heap.size) (hR : Rel u v) (hf : k9 + 1 ≤ room_1.cells ∧ n9 + 3 ≤ room_1.slots) (hi1 : vp_in (i + 1) L) (hi2 : vp_in (i + 2) L) (g : ∀ (ad' : Nat → Nat) (vT vH vA : Value) (u' : SV) (v' : SM), LF ad' adm s.heap.size → Rel u' v' → yG p l e room_1 s m #[Value.ref b] below meth c 4 D (fun q => s.heap.size ≤ q) Q (k9 + 1) (n9 + 3) (wV cA ad' vT vH vA u' ++ wM cA adm v') [(0, .ref b), (1, .ref (ad' 0)), (2, .ref (adm 0)), (3, .int i)] 1364 []) : yG p l e room_1 s m #[Value.ref b] below meth c 4 D (fun q => s.heap.size ≤ q) Q k9 n9 (wV cA ad vT vH vA u ++ wM cA adm v) [(0, .ref b), (1, .ref (ad 0)), (2, .ref (adm 0)), (3, .int i)] 678 [] := by
  obtain ⟨r, w1, w2, h1, h2, h3⟩ := hs ((xs (i + 1).toNatClampNeg)) ((xs (i + 2).toNatClampNeg)) u v hR
  refine y_aload_n hC dL_law_678 rfl 1 rfl ?_
  refine y_aload_n hC dL_law_679 rfl 0 rfl ?_
  refine y_iload_n hC dL_law_680 rfl 3 rfl ?_
  refine y_iconst hC dL_law_681 kI_1 ?_
  refine y_iadd hC dL_law_682 ?_
  refine y_xld hC hX hbl (Nat.not_le_of_lt hbl) hi1 dL_law_683 ?_
  refine y_aload_n hC dL_law_684 rfl 0 rfl ?_
  refine y_iload_n hC dL_law_685 rfl 3 rfl ?_
  refine y_iconst hC dL_law_686 kI_2 ?_
  refine y_iadd hC dL_law_687 ?_
  refine y_xld hC hX hbl (Nat.not_le_of_lt hbl) hi2 dL_law_688 ?_
  refine y_calliV (As := [.int (xs (i + 1).toNatClampNeg), .int (xs (i + 2).toNatClampNeg)]) hC (cV_wrong (cA := cA) (ad := ad) (vT := vT) (vH := vH) (vA := vA) (tK := tK) (tB := tB) (kS := kS) (vS := vS) F.1 ((xs (i + 1).toNatClampNeg)) ((xs (i + 2).toNatClampNeg)) u h1) (cwL_77 (rm := zRm 6) hC.1.2.2.2.2 rfl rfl ⟨Nat.le_of_ble_eq_true rfl, Nat.le_of_ble_eq_true rfl⟩) (Nat.le_trans (Nat.le_add_right _ _) hf.1) (Nat.le_trans (Nat.le_add_right _ _) hf.2) dL_law_689 rfl rfl (Nat.le_of_ble_eq_true rfl) ⟨_, rfl, rfl⟩ (List.mem_append_left _ (List.mem_of_getElem? (heV_o cA ad vT vH vA u))) (fun _ h => List.mem_append_left _ h) (LF_v F) (zJ_l F) (fun _ => LF_D F) ?_
  refine y_aload_n hC dL_law_692 rfl 2 rfl ?_
  refine y_aload_n hC dL_law_693 rfl 0 rfl ?_
  refine y_iload_n hC dL_law_694 rfl 3 rfl ?_
  refine y_iconst hC dL_law_695 kI_1 ?_
  refine y_iadd hC dL_law_696 ?_
  refine y_xld hC hX hbl (Nat.not_le_of_lt hbl) hi1 dL_law_697 ?_
  refine y_aload_n hC dL_law_698 rfl 0 rfl ?_
  refine y_iload_n hC dL_law_699 rfl 3 rfl ?_
  refine y_iconst hC dL_law_700 kI_2 ?_
  refine y_iadd hC dL_law_701 ?_
  refine y_xld hC hX hbl (Nat.not_le_of_lt hbl) hi2 dL_law_702 ?_
  refine y_calliV (As := [.int (xs (i + 1).toNatClampNeg), .int (xs (i + 2).toNatClampNeg)]) hC (cM_wrong (cA := cA) (ad := adm) F.2.1 ((xs (i + 1).toNatClampNeg)) ((xs (i + 2).toNatClampNeg)) v h2) (cwL_80 (rm := zRm 9) hC.1.2.2.2.2 rfl rfl ⟨Nat.le_of_ble_eq_true rfl, Nat.le_of_ble_eq_true rfl⟩) (Nat.le_trans (Nat.le_add_right _ _) hf.1) (Nat.le_trans (Nat.le_add_right _ _) hf.2) dL_law_703 rfl rfl (Nat.le_of_ble_eq_true rfl) ⟨_, rfl, rfl⟩ (List.mem_append_right _ (List.mem_of_getElem? (heM_o cA adm v))) (fun _ h => List.mem_append_right _ h) (LF_m F) (zJ_r F) (fun _ => LF_D F) ?_
  refine y_icmp_eq (tgt := 1364) (a := true) (b := false) (o := true) hC (if_pos rfl) dL_law_706 (by decide) (fun _ => ?_) (fun h => nomatch h)
  refine yG_of (k8 := k9 + 1) (n8 := n9 + 3) (Nat.le_add_right _ _) (Nat.le_add_right _ _) ?_
  exact g ad vT vH vA (V_put_look w1 u) (M_put_pile w2 v) F h3
theorem cL_swap {p : Program} {l : Launch} {e : Env} {s : State} {m : MethodId} {below : List Frame} {meth : Method} {c : Code} {Q : State → Prop} {D : va_G} {cA : Nat → ClassId} {tK tB : Nat} {kS vS : Nat → Nat} {k9 n9 b L : Nat} {xs : Nat → Int32} {ad adm : Nat → Nat} {vT vH vA : Value} {u : SV} {v : SM} {i : Int32} {Rel : SV → SM → Prop} (hC : zC p s m #[Value.ref b] meth c code 4 RL zTS D (zTy cA) (fun q => s.heap.size ≤ q) (zE tK tB kS vS)) (hX : va_X b L xs s s.heap) (hbl : b < s.heap.size) (hs : zS_swap Rel) (F : LF ad adm s.heap.size) (hR : Rel u v) (hf : k9 + 1 ≤ room_1.cells ∧ n9 + 3 ≤ room_1.slots) (hi1 : vp_in (i + 1) L) (hi2 : vp_in (i + 2) L) (hi3 : vp_in (i + 3) L) (g : ∀ (ad' : Nat → Nat) (vT vH vA : Value) (u' : SV) (v' : SM), LF ad' adm s.heap.size → Rel u' v' → yG p l e room_1 s m #[Value.ref b] below meth c 4 D (fun q => s.heap.size ≤ q) Q (k9 + 1) (n9 + 3) (wV cA ad' vT vH vA u' ++ wM cA adm v') [(0, .ref b), (1, .ref (ad' 0)), (2, .ref (adm 0)), (3, .int i)] 1364 []) : yG p l e room_1 s m #[Value.ref b] below meth c 4 D (fun q => s.heap.size ≤ q) Q k9 n9 (wV cA ad vT vH vA u ++ wM cA adm v) [(0, .ref b), (1, .ref (ad 0)), (2, .ref (adm 0)), (3, .int i)] 711 [] := by
  obtain ⟨r, w1, w2, h1, h2, h3⟩ := hs ((xs (i + 1).toNatClampNeg)) ((xs (i + 2).toNatClampNeg)) ((xs (i + 3).toNatClampNeg)) u v hR
  refine y_aload_n hC dL_law_711 rfl 1 rfl ?_
  refine y_aload_n hC dL_law_712 rfl 0 rfl ?_
  refine y_iload_n hC dL_law_713 rfl 3 rfl ?_
  refine y_iconst hC dL_law_714 kI_1 ?_
  refine y_iadd hC dL_law_715 ?_
  refine y_xld hC hX hbl (Nat.not_le_of_lt hbl) hi1 dL_law_716 ?_
  refine y_aload_n hC dL_law_717 rfl 0 rfl ?_
  refine y_iload_n hC dL_law_718 rfl 3 rfl ?_
  refine y_iconst hC dL_law_719 kI_2 ?_
  refine y_iadd hC dL_law_720 ?_
  refine y_xld hC hX hbl (Nat.not_le_of_lt hbl) hi2 dL_law_721 ?_
  refine y_aload_n hC dL_law_722 rfl 0 rfl ?_
  refine y_iload_n hC dL_law_723 rfl 3 rfl ?_
  refine y_iconst hC dL_law_724 kI_3 ?_
  refine y_iadd hC dL_law_725 ?_
  refine y_xld hC hX hbl (Nat.not_le_of_lt hbl) hi3 dL_law_726 ?_
  refine y_calliV (As := [.int (xs (i + 1).toNatClampNeg), .int (xs (i + 2).toNatClampNeg), .int (xs (i + 3).toNatClampNeg)]) hC (cV_swap (cA := cA) (ad := ad) (vT := vT) (vH := vH) (vA := vA) (tK := tK) (tB := tB) (kS := kS) (vS := vS) F.1 ((xs (i + 1).toNatClampNeg)) ((xs (i + 2).toNatClampNeg)) ((xs (i + 3).toNatClampNeg)) u h1) (cwL_81 (rm := zRm 5) hC.1.2.2.2.2 rfl rfl ⟨Nat.le_of_ble_eq_true rfl, Nat.le_of_ble_eq_true rfl⟩) (Nat.le_trans (Nat.le_add_right _ _) hf.1) (Nat.le_trans (Nat.le_add_right _ _) hf.2) dL_law_727 rfl rfl (Nat.le_of_ble_eq_true rfl) ⟨_, rfl, rfl⟩ (List.mem_append_left _ (List.mem_of_getElem? (heV_o cA ad vT vH vA u))) (fun _ h => List.mem_append_left _ h) (LF_v F) (zJ_l F) (fun _ => LF_D F) ?_
  refine y_aload_n hC dL_law_730 rfl 2 rfl ?_
  refine y_aload_n hC dL_law_731 rfl 0 rfl ?_
  refine y_iload_n hC dL_law_732 rfl 3 rfl ?_
  refine y_iconst hC dL_law_733 kI_1 ?_
  refine y_iadd hC dL_law_734 ?_
  refine y_xld hC hX hbl (Nat.not_le_of_lt hbl) hi1 dL_law_735 ?_
  refine y_aload_n hC dL_law_736 rfl 0 rfl ?_
  refine y_iload_n hC dL_law_737 rfl 3 rfl ?_
  refine y_iconst hC dL_law_738 kI_2 ?_
  refine y_iadd hC dL_law_739 ?_
  refine y_xld hC hX hbl (Nat.not_le_of_lt hbl) hi2 dL_law_740 ?_
  refine y_aload_n hC dL_law_741 rfl 0 rfl ?_
  refine y_iload_n hC dL_law_742 rfl 3 rfl ?_
  refine y_iconst hC dL_law_743 kI_3 ?_
  refine y_iadd hC dL_law_744 ?_
  refine y_xld hC hX hbl (Nat.not_le_of_lt hbl) hi3 dL_law_745 ?_
  refine y_calliV (As := [.int (xs (i + 1).toNatClampNeg), .int (xs (i + 2).toNatClampNeg), .int (xs (i + 3).toNatClampNeg)]) hC (cM_swap (cA := cA) (ad := adm) F.2.1 ((xs (i + 1).toNatClampNeg)) ((xs (i + 2).toNatClampNeg)) ((xs (i + 3).toNatClampNeg)) v h2) (cwL_84 (rm := zRm 8) hC.1.2.2.2.2 rfl rfl ⟨Nat.le_of_ble_eq_true rfl, Nat.le_of_ble_eq_true rfl⟩) (Nat.le_trans (Nat.le_add_right _ _) hf.1) (Nat.le_trans (Nat.le_add_right _ _) hf.2) dL_law_746 rfl rfl (Nat.le_of_ble_eq_true rfl) ⟨_, rfl, rfl⟩ (List.mem_append_right _ (List.mem_of_getElem? (heM_o cA adm v))) (fun _ h => List.mem_append_right _ h) (LF_m F) (zJ_r F) (fun _ => LF_D F) ?_
  refine y_icmp_eq (tgt := 1364) (a := true) (b := false) (o := true) hC (if_pos rfl) dL_law_749 (by decide) (fun _ => ?_) (fun h => nomatch h)
  refine yG_of (k8 := k9 + 1) (n8 := n9 + 3) (Nat.le_add_right _ _) (Nat.le_add_right _ _) ?_
  exact g ad vT vH vA (V_put_look w1 u) (M_put_pile w2 v) F h3
theorem cL_changed {p : Program} {l : Launch} {e : Env} {s : State} {m : MethodId} {below : List Frame} {meth : Method} {c : Code} {Q : State → Prop} {D : va_G} {cA : Nat → ClassId} {tK tB : Nat} {kS vS : Nat → Nat} {k9 n9 b L : Nat} {xs : Nat → Int32} {ad adm : Nat → Nat} {vT vH vA : Value} {u : SV} {v : SM} {i : Int32} {Rel : SV → SM → Prop} (hC : zC p s m #[Value.ref b] meth c code 4 RL zTS D (zTy cA) (fun q => s.heap.size ≤ q) (zE tK tB kS vS)) (hX : va_X b L xs s s.heap) (hbl : b < s.heap.size) (hs : zS_changed Rel) (F : LF ad adm s.heap.size) (hR : Rel u v) (hf : k9 + 1 ≤ room_1.cells ∧ n9 + 3 ≤ room_1.slots) (hi1 : vp_in (i + 1) L) (hi2 : vp_in (i + 2) L) (g : ∀ (ad' : Nat → Nat) (vT vH vA : Value) (u' : SV) (v' : SM), LF ad' adm s.heap.size → Rel u' v' → yG p l e room_1 s m #[Value.ref b] below meth c 4 D (fun q => s.heap.size ≤ q) Q (k9 + 1) (n9 + 3) (wV cA ad' vT vH vA u' ++ wM cA adm v') [(0, .ref b), (1, .ref (ad' 0)), (2, .ref (adm 0)), (3, .int i)] 1364 []) : yG p l e room_1 s m #[Value.ref b] below meth c 4 D (fun q => s.heap.size ≤ q) Q k9 n9 (wV cA ad vT vH vA u ++ wM cA adm v) [(0, .ref b), (1, .ref (ad 0)), (2, .ref (adm 0)), (3, .int i)] 754 [] := by
  obtain ⟨r, w1, w2, h1, h2, h3⟩ := hs ((xs (i + 1).toNatClampNeg)) ((xs (i + 2).toNatClampNeg)) u v hR
  refine y_aload_n hC dL_law_754 rfl 1 rfl ?_
  refine y_aload_n hC dL_law_755 rfl 0 rfl ?_
  refine y_iload_n hC dL_law_756 rfl 3 rfl ?_
  refine y_iconst hC dL_law_757 kI_1 ?_
  refine y_iadd hC dL_law_758 ?_
  refine y_xld hC hX hbl (Nat.not_le_of_lt hbl) hi1 dL_law_759 ?_
  refine y_aload_n hC dL_law_760 rfl 0 rfl ?_
  refine y_iload_n hC dL_law_761 rfl 3 rfl ?_
  refine y_iconst hC dL_law_762 kI_2 ?_
  refine y_iadd hC dL_law_763 ?_
  refine y_xld hC hX hbl (Nat.not_le_of_lt hbl) hi2 dL_law_764 ?_
  refine y_calliV (As := [.int (xs (i + 1).toNatClampNeg), .int (xs (i + 2).toNatClampNeg)]) hC (cV_changed (cA := cA) (ad := ad) (vT := vT) (vH := vH) (vA := vA) (tK := tK) (tB := tB) (kS := kS) (vS := vS) F.1 ((xs (i + 1).toNatClampNeg)) ((xs (i + 2).toNatClampNeg)) u h1) (cwL_85 (rm := zRm 6) hC.1.2.2.2.2 rfl rfl ⟨Nat.le_of_ble_eq_true rfl, Nat.le_of_ble_eq_true rfl⟩) (Nat.le_trans (Nat.le_add_right _ _) hf.1) (Nat.le_trans (Nat.le_add_right _ _) hf.2) dL_law_765 rfl rfl (Nat.le_of_ble_eq_true rfl) ⟨_, rfl, rfl⟩ (List.mem_append_left _ (List.mem_of_getElem? (heV_o cA ad vT vH vA u))) (fun _ h => List.mem_append_left _ h) (LF_v F) (zJ_l F) (fun _ => LF_D F) ?_
  refine y_aload_n hC dL_law_768 rfl 2 rfl ?_
  refine y_aload_n hC dL_law_769 rfl 0 rfl ?_
  refine y_iload_n hC dL_law_770 rfl 3 rfl ?_
  refine y_iconst hC dL_law_771 kI_1 ?_
  refine y_iadd hC dL_law_772 ?_
  refine y_xld hC hX hbl (Nat.not_le_of_lt hbl) hi1 dL_law_773 ?_
  refine y_aload_n hC dL_law_774 rfl 0 rfl ?_
  refine y_iload_n hC dL_law_775 rfl 3 rfl ?_
  refine y_iconst hC dL_law_776 kI_2 ?_
  refine y_iadd hC dL_law_777 ?_
  refine y_xld hC hX hbl (Nat.not_le_of_lt hbl) hi2 dL_law_778 ?_
  refine y_calliV (As := [.int (xs (i + 1).toNatClampNeg), .int (xs (i + 2).toNatClampNeg)]) hC (cM_changed (cA := cA) (ad := adm) F.2.1 ((xs (i + 1).toNatClampNeg)) ((xs (i + 2).toNatClampNeg)) v h2) (cwL_88 (rm := zRm 9) hC.1.2.2.2.2 rfl rfl ⟨Nat.le_of_ble_eq_true rfl, Nat.le_of_ble_eq_true rfl⟩) (Nat.le_trans (Nat.le_add_right _ _) hf.1) (Nat.le_trans (Nat.le_add_right _ _) hf.2) dL_law_779 rfl rfl (Nat.le_of_ble_eq_true rfl) ⟨_, rfl, rfl⟩ (List.mem_append_right _ (List.mem_of_getElem? (heM_o cA adm v))) (fun _ h => List.mem_append_right _ h) (LF_m F) (zJ_r F) (fun _ => LF_D F) ?_
  refine y_icmp_eq (tgt := 1364) (a := true) (b := false) (o := true) hC (if_pos rfl) dL_law_782 (by decide) (fun _ => ?_) (fun h => nomatch h)
  refine yG_of (k8 := k9 + 1) (n8 := n9 + 3) (Nat.le_add_right _ _) (Nat.le_add_right _ _) ?_
  exact g ad vT vH vA (V_put_look w1 u) (M_put_pile w2 v) F h3
theorem cL_boxes {p : Program} {l : Launch} {e : Env} {s : State} {m : MethodId} {below : List Frame} {meth : Method} {c : Code} {Q : State → Prop} {D : va_G} {cA : Nat → ClassId} {tK tB : Nat} {kS vS : Nat → Nat} {k9 n9 b L : Nat} {xs : Nat → Int32} {ad adm : Nat → Nat} {vT vH vA : Value} {u : SV} {v : SM} {i : Int32} {Rel : SV → SM → Prop} (hC : zC p s m #[Value.ref b] meth c code 4 RL zTS D (zTy cA) (fun q => s.heap.size ≤ q) (zE tK tB kS vS)) (hX : va_X b L xs s s.heap) (hbl : b < s.heap.size) (hs : zS_boxes Rel) (F : LF ad adm s.heap.size) (hR : Rel u v) (hf : k9 + 1 ≤ room_1.cells ∧ n9 + 3 ≤ room_1.slots) (hi1 : vp_in (i + 1) L) (hi2 : vp_in (i + 2) L) (g : ∀ (ad' : Nat → Nat) (vT vH vA : Value) (u' : SV) (v' : SM), LF ad' adm s.heap.size → Rel u' v' → yG p l e room_1 s m #[Value.ref b] below meth c 4 D (fun q => s.heap.size ≤ q) Q (k9 + 1) (n9 + 3) (wV cA ad' vT vH vA u' ++ wM cA adm v') [(0, .ref b), (1, .ref (ad' 0)), (2, .ref (adm 0)), (3, .int i)] 1364 []) : yG p l e room_1 s m #[Value.ref b] below meth c 4 D (fun q => s.heap.size ≤ q) Q k9 n9 (wV cA ad vT vH vA u ++ wM cA adm v) [(0, .ref b), (1, .ref (ad 0)), (2, .ref (adm 0)), (3, .int i)] 787 [] := by
  obtain ⟨r, h1, h2, h3⟩ := hs ((xs (i + 1).toNatClampNeg)) ((xs (i + 2).toNatClampNeg)) u v hR
  refine y_aload_n hC dL_law_787 rfl 1 rfl ?_
  refine y_aload_n hC dL_law_788 rfl 0 rfl ?_
  refine y_iload_n hC dL_law_789 rfl 3 rfl ?_
  refine y_iconst hC dL_law_790 kI_1 ?_
  refine y_iadd hC dL_law_791 ?_
  refine y_xld hC hX hbl (Nat.not_le_of_lt hbl) hi1 dL_law_792 ?_
  refine y_aload_n hC dL_law_793 rfl 0 rfl ?_
  refine y_iload_n hC dL_law_794 rfl 3 rfl ?_
  refine y_iconst hC dL_law_795 kI_2 ?_
  refine y_iadd hC dL_law_796 ?_
  refine y_xld hC hX hbl (Nat.not_le_of_lt hbl) hi2 dL_law_797 ?_
  refine y_calliV (As := [.int (xs (i + 1).toNatClampNeg), .int (xs (i + 2).toNatClampNeg)]) hC (cV_boxes (cA := cA) (ad := ad) (vT := vT) (vH := vH) (vA := vA) (tK := tK) (tB := tB) (kS := kS) (vS := vS) F.1 ((xs (i + 1).toNatClampNeg)) ((xs (i + 2).toNatClampNeg)) u h1) (cwL_89 (rm := zRm 3) hC.1.2.2.2.2 rfl rfl ⟨Nat.le_of_ble_eq_true rfl, Nat.le_of_ble_eq_true rfl⟩) (Nat.le_trans (Nat.le_add_right _ _) hf.1) (Nat.le_trans (Nat.le_add_right _ _) hf.2) dL_law_798 rfl rfl (Nat.le_of_ble_eq_true rfl) ⟨_, rfl, rfl⟩ (List.mem_append_left _ (List.mem_of_getElem? (heV_o cA ad vT vH vA u))) (fun _ h => List.mem_append_left _ h) (fun _ h => h.elim) zJ_ro (fun h => h) ?_
  refine y_aload_n hC dL_law_801 rfl 2 rfl ?_
  refine y_aload_n hC dL_law_802 rfl 0 rfl ?_
  refine y_iload_n hC dL_law_803 rfl 3 rfl ?_
  refine y_iconst hC dL_law_804 kI_1 ?_
  refine y_iadd hC dL_law_805 ?_
  refine y_xld hC hX hbl (Nat.not_le_of_lt hbl) hi1 dL_law_806 ?_
  refine y_aload_n hC dL_law_807 rfl 0 rfl ?_
  refine y_iload_n hC dL_law_808 rfl 3 rfl ?_
  refine y_iconst hC dL_law_809 kI_2 ?_
  refine y_iadd hC dL_law_810 ?_
  refine y_xld hC hX hbl (Nat.not_le_of_lt hbl) hi2 dL_law_811 ?_
  refine y_calliV (As := [.int (xs (i + 1).toNatClampNeg), .int (xs (i + 2).toNatClampNeg)]) hC (cM_boxes (cA := cA) (ad := adm) F.2.1 ((xs (i + 1).toNatClampNeg)) ((xs (i + 2).toNatClampNeg)) v h2) (cwL_92 (rm := zRm 1) hC.1.2.2.2.2 rfl rfl ⟨Nat.le_of_ble_eq_true rfl, Nat.le_of_ble_eq_true rfl⟩) (Nat.le_trans (Nat.le_add_right _ _) hf.1) (Nat.le_trans (Nat.le_add_right _ _) hf.2) dL_law_812 rfl rfl (Nat.le_of_ble_eq_true rfl) ⟨_, rfl, rfl⟩ (List.mem_append_right _ (List.mem_of_getElem? (heM_o cA adm v))) (fun _ h => List.mem_append_right _ h) (fun _ h => h.elim) zJ_ro (fun h => h) ?_
  refine y_icmp_eq (tgt := 1364) (a := true) (b := false) (o := true) hC (if_pos rfl) dL_law_815 (by decide) (fun _ => ?_) (fun h => nomatch h)
  refine yG_of (k8 := k9 + 1) (n8 := n9 + 3) (Nat.le_add_right _ _) (Nat.le_add_right _ _) ?_
  exact g ad vT vH vA u v F h3
theorem cL_slips {p : Program} {l : Launch} {e : Env} {s : State} {m : MethodId} {below : List Frame} {meth : Method} {c : Code} {Q : State → Prop} {D : va_G} {cA : Nat → ClassId} {tK tB : Nat} {kS vS : Nat → Nat} {k9 n9 b L : Nat} {xs : Nat → Int32} {ad adm : Nat → Nat} {vT vH vA : Value} {u : SV} {v : SM} {i : Int32} {Rel : SV → SM → Prop} (hC : zC p s m #[Value.ref b] meth c code 4 RL zTS D (zTy cA) (fun q => s.heap.size ≤ q) (zE tK tB kS vS)) (hX : va_X b L xs s s.heap) (hbl : b < s.heap.size) (hs : zS_slips Rel) (F : LF ad adm s.heap.size) (hR : Rel u v) (hf : k9 + 1 ≤ room_1.cells ∧ n9 + 3 ≤ room_1.slots) (hi1 : vp_in (i + 1) L) (g : ∀ (ad' : Nat → Nat) (vT vH vA : Value) (u' : SV) (v' : SM), LF ad' adm s.heap.size → Rel u' v' → yG p l e room_1 s m #[Value.ref b] below meth c 4 D (fun q => s.heap.size ≤ q) Q (k9 + 1) (n9 + 3) (wV cA ad' vT vH vA u' ++ wM cA adm v') [(0, .ref b), (1, .ref (ad' 0)), (2, .ref (adm 0)), (3, .int i)] 1364 []) : yG p l e room_1 s m #[Value.ref b] below meth c 4 D (fun q => s.heap.size ≤ q) Q k9 n9 (wV cA ad vT vH vA u ++ wM cA adm v) [(0, .ref b), (1, .ref (ad 0)), (2, .ref (adm 0)), (3, .int i)] 820 [] := by
  obtain ⟨r, w1, w2, h1, h2, h3⟩ := hs ((xs (i + 1).toNatClampNeg)) u v hR
  refine y_aload_n hC dL_law_820 rfl 1 rfl ?_
  refine y_aload_n hC dL_law_821 rfl 0 rfl ?_
  refine y_iload_n hC dL_law_822 rfl 3 rfl ?_
  refine y_iconst hC dL_law_823 kI_1 ?_
  refine y_iadd hC dL_law_824 ?_
  refine y_xld hC hX hbl (Nat.not_le_of_lt hbl) hi1 dL_law_825 ?_
  refine y_calliV (As := [.int (xs (i + 1).toNatClampNeg)]) hC (cV_slips (cA := cA) (ad := ad) (vT := vT) (vH := vH) (vA := vA) (tK := tK) (tB := tB) (kS := kS) (vS := vS) F.1 ((xs (i + 1).toNatClampNeg)) u h1) (cwL_93 (rm := zRm 0) hC.1.2.2.2.2 rfl rfl ⟨Nat.le_of_ble_eq_true rfl, Nat.le_of_ble_eq_true rfl⟩) (Nat.le_trans (Nat.le_add_right _ _) hf.1) (Nat.le_trans (Nat.le_add_right _ _) hf.2) dL_law_826 rfl rfl (Nat.le_of_ble_eq_true rfl) ⟨_, rfl, rfl⟩ (List.mem_append_left _ (List.mem_of_getElem? (heV_o cA ad vT vH vA u))) (fun _ h => List.mem_append_left _ h) (LF_v F) (zJ_l F) (fun _ => LF_D F) ?_
  refine y_aload_n hC dL_law_829 rfl 2 rfl ?_
  refine y_aload_n hC dL_law_830 rfl 0 rfl ?_
  refine y_iload_n hC dL_law_831 rfl 3 rfl ?_
  refine y_iconst hC dL_law_832 kI_1 ?_
  refine y_iadd hC dL_law_833 ?_
  refine y_xld hC hX hbl (Nat.not_le_of_lt hbl) hi1 dL_law_834 ?_
  refine y_calliV (As := [.int (xs (i + 1).toNatClampNeg)]) hC (cM_slips (cA := cA) (ad := adm) F.2.1 ((xs (i + 1).toNatClampNeg)) v h2) (cwL_96 (rm := zRm 1) hC.1.2.2.2.2 rfl rfl ⟨Nat.le_of_ble_eq_true rfl, Nat.le_of_ble_eq_true rfl⟩) (Nat.le_trans (Nat.le_add_right _ _) hf.1) (Nat.le_trans (Nat.le_add_right _ _) hf.2) dL_law_835 rfl rfl (Nat.le_of_ble_eq_true rfl) ⟨_, rfl, rfl⟩ (List.mem_append_right _ (List.mem_of_getElem? (heM_o cA adm v))) (fun _ h => List.mem_append_right _ h) (LF_m F) (zJ_r F) (fun _ => LF_D F) ?_
  refine y_icmp_eq (tgt := 1364) (a := true) (b := false) (o := true) hC (if_pos rfl) dL_law_838 (by decide) (fun _ => ?_) (fun h => nomatch h)
  refine yG_of (k8 := k9 + 1) (n8 := n9 + 3) (Nat.le_add_right _ _) (Nat.le_add_right _ _) ?_
  exact g ad vT vH vA (V_put_stage w1 u) (M_put_slips w2 v) F h3
theorem cL_sure {p : Program} {l : Launch} {e : Env} {s : State} {m : MethodId} {below : List Frame} {meth : Method} {c : Code} {Q : State → Prop} {D : va_G} {cA : Nat → ClassId} {tK tB : Nat} {kS vS : Nat → Nat} {k9 n9 b L : Nat} {xs : Nat → Int32} {ad adm : Nat → Nat} {vT vH vA : Value} {u : SV} {v : SM} {i : Int32} {Rel : SV → SM → Prop} (hC : zC p s m #[Value.ref b] meth c code 4 RL zTS D (zTy cA) (fun q => s.heap.size ≤ q) (zE tK tB kS vS)) (hX : va_X b L xs s s.heap) (hbl : b < s.heap.size) (hs : zS_sure Rel) (F : LF ad adm s.heap.size) (hR : Rel u v) (hf : k9 + 1 ≤ room_1.cells ∧ n9 + 3 ≤ room_1.slots) (hi1 : vp_in (i + 1) L) (hi2 : vp_in (i + 2) L) (hi3 : vp_in (i + 3) L) (hi4 : vp_in (i + 4) L) (g : ∀ (ad' : Nat → Nat) (vT vH vA : Value) (u' : SV) (v' : SM), LF ad' adm s.heap.size → Rel u' v' → yG p l e room_1 s m #[Value.ref b] below meth c 4 D (fun q => s.heap.size ≤ q) Q (k9 + 1) (n9 + 3) (wV cA ad' vT vH vA u' ++ wM cA adm v') [(0, .ref b), (1, .ref (ad' 0)), (2, .ref (adm 0)), (3, .int i)] 1364 []) : yG p l e room_1 s m #[Value.ref b] below meth c 4 D (fun q => s.heap.size ≤ q) Q k9 n9 (wV cA ad vT vH vA u ++ wM cA adm v) [(0, .ref b), (1, .ref (ad 0)), (2, .ref (adm 0)), (3, .int i)] 843 [] := by
  obtain ⟨r, w1, w2, h1, h2, h3⟩ := hs ((xs (i + 1).toNatClampNeg)) ((xs (i + 2).toNatClampNeg)) ((xs (i + 3).toNatClampNeg)) ((xs (i + 4).toNatClampNeg)) u v hR
  refine y_aload_n hC dL_law_843 rfl 1 rfl ?_
  refine y_aload_n hC dL_law_844 rfl 0 rfl ?_
  refine y_iload_n hC dL_law_845 rfl 3 rfl ?_
  refine y_iconst hC dL_law_846 kI_1 ?_
  refine y_iadd hC dL_law_847 ?_
  refine y_xld hC hX hbl (Nat.not_le_of_lt hbl) hi1 dL_law_848 ?_
  refine y_aload_n hC dL_law_849 rfl 0 rfl ?_
  refine y_iload_n hC dL_law_850 rfl 3 rfl ?_
  refine y_iconst hC dL_law_851 kI_2 ?_
  refine y_iadd hC dL_law_852 ?_
  refine y_xld hC hX hbl (Nat.not_le_of_lt hbl) hi2 dL_law_853 ?_
  refine y_aload_n hC dL_law_854 rfl 0 rfl ?_
  refine y_iload_n hC dL_law_855 rfl 3 rfl ?_
  refine y_iconst hC dL_law_856 kI_3 ?_
  refine y_iadd hC dL_law_857 ?_
  refine y_xld hC hX hbl (Nat.not_le_of_lt hbl) hi3 dL_law_858 ?_
  refine y_aload_n hC dL_law_859 rfl 0 rfl ?_
  refine y_iload_n hC dL_law_860 rfl 3 rfl ?_
  refine y_iconst hC dL_law_861 kI_4 ?_
  refine y_iadd hC dL_law_862 ?_
  refine y_xld hC hX hbl (Nat.not_le_of_lt hbl) hi4 dL_law_863 ?_
  refine y_calllV (As := [.int (xs (i + 1).toNatClampNeg), .int (xs (i + 2).toNatClampNeg), .int (xs (i + 3).toNatClampNeg), .int (xs (i + 4).toNatClampNeg)]) hC (cV_sure (cA := cA) (ad := ad) (vT := vT) (vH := vH) (vA := vA) (tK := tK) (tB := tB) (kS := kS) (vS := vS) F.1 ((xs (i + 1).toNatClampNeg)) ((xs (i + 2).toNatClampNeg)) ((xs (i + 3).toNatClampNeg)) ((xs (i + 4).toNatClampNeg)) u h1) (cwL_97 (rm := zRm 4) hC.1.2.2.2.2 rfl rfl ⟨Nat.le_of_ble_eq_true rfl, Nat.le_of_ble_eq_true rfl⟩) (Nat.le_trans (Nat.le_add_right _ _) hf.1) (Nat.le_trans (Nat.le_add_right _ _) hf.2) dL_law_864 rfl rfl (Nat.le_of_ble_eq_true rfl) ⟨_, rfl, rfl⟩ (List.mem_append_left _ (List.mem_of_getElem? (heV_o cA ad vT vH vA u))) (fun _ h => List.mem_append_left _ h) (LF_v F) (zJ_l F) (fun _ => LF_D F) ?_
  refine y_aload_n hC dL_law_867 rfl 2 rfl ?_
  refine y_aload_n hC dL_law_868 rfl 0 rfl ?_
  refine y_iload_n hC dL_law_869 rfl 3 rfl ?_
  refine y_iconst hC dL_law_870 kI_1 ?_
  refine y_iadd hC dL_law_871 ?_
  refine y_xld hC hX hbl (Nat.not_le_of_lt hbl) hi1 dL_law_872 ?_
  refine y_aload_n hC dL_law_873 rfl 0 rfl ?_
  refine y_iload_n hC dL_law_874 rfl 3 rfl ?_
  refine y_iconst hC dL_law_875 kI_2 ?_
  refine y_iadd hC dL_law_876 ?_
  refine y_xld hC hX hbl (Nat.not_le_of_lt hbl) hi2 dL_law_877 ?_
  refine y_aload_n hC dL_law_878 rfl 0 rfl ?_
  refine y_iload_n hC dL_law_879 rfl 3 rfl ?_
  refine y_iconst hC dL_law_880 kI_3 ?_
  refine y_iadd hC dL_law_881 ?_
  refine y_xld hC hX hbl (Nat.not_le_of_lt hbl) hi3 dL_law_882 ?_
  refine y_aload_n hC dL_law_883 rfl 0 rfl ?_
  refine y_iload_n hC dL_law_884 rfl 3 rfl ?_
  refine y_iconst hC dL_law_885 kI_4 ?_
  refine y_iadd hC dL_law_886 ?_
  refine y_xld hC hX hbl (Nat.not_le_of_lt hbl) hi4 dL_law_887 ?_
  refine y_calllV (As := [.int (xs (i + 1).toNatClampNeg), .int (xs (i + 2).toNatClampNeg), .int (xs (i + 3).toNatClampNeg), .int (xs (i + 4).toNatClampNeg)]) hC (cM_sure (cA := cA) (ad := adm) F.2.1 ((xs (i + 1).toNatClampNeg)) ((xs (i + 2).toNatClampNeg)) ((xs (i + 3).toNatClampNeg)) ((xs (i + 4).toNatClampNeg)) v h2) (cwL_101 (rm := zRm 6) hC.1.2.2.2.2 rfl rfl ⟨Nat.le_of_ble_eq_true rfl, Nat.le_of_ble_eq_true rfl⟩) (Nat.le_trans (Nat.le_add_right _ _) hf.1) (Nat.le_trans (Nat.le_add_right _ _) hf.2) dL_law_888 rfl rfl (Nat.le_of_ble_eq_true rfl) ⟨_, rfl, rfl⟩ (List.mem_append_right _ (List.mem_of_getElem? (heM_o cA adm v))) (fun _ h => List.mem_append_right _ h) (LF_m F) (zJ_r F) (fun _ => LF_D F) ?_
  refine y_lcmp hC dL_law_891 ?_
  refine y_if_eq (tgt := 1364) (a := true) (b := false) (o := true) hC (if_pos (lg_cmp_self r)) dL_law_892 (by decide) (fun _ => ?_) (fun h => nomatch h)
  refine yG_of (k8 := k9 + 1) (n8 := n9 + 3) (Nat.le_add_right _ _) (Nat.le_add_right _ _) ?_
  exact g ad vT vH vA (V_put_look w1 u) (M_put_pile w2 v) F h3
theorem cL_changes {p : Program} {l : Launch} {e : Env} {s : State} {m : MethodId} {below : List Frame} {meth : Method} {c : Code} {Q : State → Prop} {D : va_G} {cA : Nat → ClassId} {tK tB : Nat} {kS vS : Nat → Nat} {k9 n9 b L : Nat} {xs : Nat → Int32} {ad adm : Nat → Nat} {vT vH vA : Value} {u : SV} {v : SM} {i : Int32} {Rel : SV → SM → Prop} (hC : zC p s m #[Value.ref b] meth c code 4 RL zTS D (zTy cA) (fun q => s.heap.size ≤ q) (zE tK tB kS vS)) (hX : va_X b L xs s s.heap) (hbl : b < s.heap.size) (hs : zS_changes Rel) (F : LF ad adm s.heap.size) (hR : Rel u v) (hf : k9 + 1 ≤ room_1.cells ∧ n9 + 3 ≤ room_1.slots) (hi1 : vp_in (i + 1) L) (hi2 : vp_in (i + 2) L) (hi3 : vp_in (i + 3) L) (hi4 : vp_in (i + 4) L) (g : ∀ (ad' : Nat → Nat) (vT vH vA : Value) (u' : SV) (v' : SM), LF ad' adm s.heap.size → Rel u' v' → yG p l e room_1 s m #[Value.ref b] below meth c 4 D (fun q => s.heap.size ≤ q) Q (k9 + 1) (n9 + 3) (wV cA ad' vT vH vA u' ++ wM cA adm v') [(0, .ref b), (1, .ref (ad' 0)), (2, .ref (adm 0)), (3, .int i)] 1364 []) : yG p l e room_1 s m #[Value.ref b] below meth c 4 D (fun q => s.heap.size ≤ q) Q k9 n9 (wV cA ad vT vH vA u ++ wM cA adm v) [(0, .ref b), (1, .ref (ad 0)), (2, .ref (adm 0)), (3, .int i)] 897 [] := by
  obtain ⟨r, w1, w2, h1, h2, h3⟩ := hs ((xs (i + 1).toNatClampNeg)) ((xs (i + 2).toNatClampNeg)) ((xs (i + 3).toNatClampNeg)) ((xs (i + 4).toNatClampNeg)) u v hR
  refine y_aload_n hC dL_law_897 rfl 1 rfl ?_
  refine y_aload_n hC dL_law_898 rfl 0 rfl ?_
  refine y_iload_n hC dL_law_899 rfl 3 rfl ?_
  refine y_iconst hC dL_law_900 kI_1 ?_
  refine y_iadd hC dL_law_901 ?_
  refine y_xld hC hX hbl (Nat.not_le_of_lt hbl) hi1 dL_law_902 ?_
  refine y_aload_n hC dL_law_903 rfl 0 rfl ?_
  refine y_iload_n hC dL_law_904 rfl 3 rfl ?_
  refine y_iconst hC dL_law_905 kI_2 ?_
  refine y_iadd hC dL_law_906 ?_
  refine y_xld hC hX hbl (Nat.not_le_of_lt hbl) hi2 dL_law_907 ?_
  refine y_aload_n hC dL_law_908 rfl 0 rfl ?_
  refine y_iload_n hC dL_law_909 rfl 3 rfl ?_
  refine y_iconst hC dL_law_910 kI_3 ?_
  refine y_iadd hC dL_law_911 ?_
  refine y_xld hC hX hbl (Nat.not_le_of_lt hbl) hi3 dL_law_912 ?_
  refine y_aload_n hC dL_law_913 rfl 0 rfl ?_
  refine y_iload_n hC dL_law_914 rfl 3 rfl ?_
  refine y_iconst hC dL_law_915 kI_4 ?_
  refine y_iadd hC dL_law_916 ?_
  refine y_xld hC hX hbl (Nat.not_le_of_lt hbl) hi4 dL_law_917 ?_
  refine y_calliV (As := [.int (xs (i + 1).toNatClampNeg), .int (xs (i + 2).toNatClampNeg), .int (xs (i + 3).toNatClampNeg), .int (xs (i + 4).toNatClampNeg)]) hC (cV_changes (cA := cA) (ad := ad) (vT := vT) (vH := vH) (vA := vA) (tK := tK) (tB := tB) (kS := kS) (vS := vS) F.1 ((xs (i + 1).toNatClampNeg)) ((xs (i + 2).toNatClampNeg)) ((xs (i + 3).toNatClampNeg)) ((xs (i + 4).toNatClampNeg)) u h1) (cwL_102 (rm := zRm 4) hC.1.2.2.2.2 rfl rfl ⟨Nat.le_of_ble_eq_true rfl, Nat.le_of_ble_eq_true rfl⟩) (Nat.le_trans (Nat.le_add_right _ _) hf.1) (Nat.le_trans (Nat.le_add_right _ _) hf.2) dL_law_918 rfl rfl (Nat.le_of_ble_eq_true rfl) ⟨_, rfl, rfl⟩ (List.mem_append_left _ (List.mem_of_getElem? (heV_o cA ad vT vH vA u))) (fun _ h => List.mem_append_left _ h) (LF_v F) (zJ_l F) (fun _ => LF_D F) ?_
  refine y_aload_n hC dL_law_921 rfl 2 rfl ?_
  refine y_aload_n hC dL_law_922 rfl 0 rfl ?_
  refine y_iload_n hC dL_law_923 rfl 3 rfl ?_
  refine y_iconst hC dL_law_924 kI_1 ?_
  refine y_iadd hC dL_law_925 ?_
  refine y_xld hC hX hbl (Nat.not_le_of_lt hbl) hi1 dL_law_926 ?_
  refine y_aload_n hC dL_law_927 rfl 0 rfl ?_
  refine y_iload_n hC dL_law_928 rfl 3 rfl ?_
  refine y_iconst hC dL_law_929 kI_2 ?_
  refine y_iadd hC dL_law_930 ?_
  refine y_xld hC hX hbl (Nat.not_le_of_lt hbl) hi2 dL_law_931 ?_
  refine y_aload_n hC dL_law_932 rfl 0 rfl ?_
  refine y_iload_n hC dL_law_933 rfl 3 rfl ?_
  refine y_iconst hC dL_law_934 kI_3 ?_
  refine y_iadd hC dL_law_935 ?_
  refine y_xld hC hX hbl (Nat.not_le_of_lt hbl) hi3 dL_law_936 ?_
  refine y_aload_n hC dL_law_937 rfl 0 rfl ?_
  refine y_iload_n hC dL_law_938 rfl 3 rfl ?_
  refine y_iconst hC dL_law_939 kI_4 ?_
  refine y_iadd hC dL_law_940 ?_
  refine y_xld hC hX hbl (Nat.not_le_of_lt hbl) hi4 dL_law_941 ?_
  refine y_calliV (As := [.int (xs (i + 1).toNatClampNeg), .int (xs (i + 2).toNatClampNeg), .int (xs (i + 3).toNatClampNeg), .int (xs (i + 4).toNatClampNeg)]) hC (cM_changes (cA := cA) (ad := adm) F.2.1 ((xs (i + 1).toNatClampNeg)) ((xs (i + 2).toNatClampNeg)) ((xs (i + 3).toNatClampNeg)) ((xs (i + 4).toNatClampNeg)) v h2) (cwL_105 (rm := zRm 8) hC.1.2.2.2.2 rfl rfl ⟨Nat.le_of_ble_eq_true rfl, Nat.le_of_ble_eq_true rfl⟩) (Nat.le_trans (Nat.le_add_right _ _) hf.1) (Nat.le_trans (Nat.le_add_right _ _) hf.2) dL_law_942 rfl rfl (Nat.le_of_ble_eq_true rfl) ⟨_, rfl, rfl⟩ (List.mem_append_right _ (List.mem_of_getElem? (heM_o cA adm v))) (fun _ h => List.mem_append_right _ h) (LF_m F) (zJ_r F) (fun _ => LF_D F) ?_
  refine y_icmp_eq (tgt := 1364) (a := true) (b := false) (o := true) hC (if_pos rfl) dL_law_945 (by decide) (fun _ => ?_) (fun h => nomatch h)
  refine yG_of (k8 := k9 + 1) (n8 := n9 + 3) (Nat.le_add_right _ _) (Nat.le_add_right _ _) ?_
  exact g ad vT vH vA (V_put_look w1 u) (M_put_pile w2 v) F h3
theorem cL_judge {p : Program} {l : Launch} {e : Env} {s : State} {m : MethodId} {below : List Frame} {meth : Method} {c : Code} {Q : State → Prop} {D : va_G} {cA : Nat → ClassId} {tK tB : Nat} {kS vS : Nat → Nat} {k9 n9 b L : Nat} {xs : Nat → Int32} {ad adm : Nat → Nat} {vT vH vA : Value} {u : SV} {v : SM} {i : Int32} {Rel : SV → SM → Prop} (hC : zC p s m #[Value.ref b] meth c code 4 RL zTS D (zTy cA) (fun q => s.heap.size ≤ q) (zE tK tB kS vS)) (hX : va_X b L xs s s.heap) (hbl : b < s.heap.size) (hs : zS_judge Rel) (F : LF ad adm s.heap.size) (hR : Rel u v) (hf : k9 + 1 ≤ room_1.cells ∧ n9 + 3 ≤ room_1.slots) (hi1 : vp_in (i + 1) L) (hi2 : vp_in (i + 2) L) (hi3 : vp_in (i + 3) L) (hi4 : vp_in (i + 4) L) (g : ∀ (ad' : Nat → Nat) (vT vH vA : Value) (u' : SV) (v' : SM), LF ad' adm s.heap.size → Rel u' v' → yG p l e room_1 s m #[Value.ref b] below meth c 4 D (fun q => s.heap.size ≤ q) Q (k9 + 1) (n9 + 3) (wV cA ad' vT vH vA u' ++ wM cA adm v') [(0, .ref b), (1, .ref (ad' 0)), (2, .ref (adm 0)), (3, .int i)] 1364 []) : yG p l e room_1 s m #[Value.ref b] below meth c 4 D (fun q => s.heap.size ≤ q) Q k9 n9 (wV cA ad vT vH vA u ++ wM cA adm v) [(0, .ref b), (1, .ref (ad 0)), (2, .ref (adm 0)), (3, .int i)] 950 [] := by
  obtain ⟨r, w1, w2, h1, h2, h3⟩ := hs ((xs (i + 1).toNatClampNeg)) ((xs (i + 2).toNatClampNeg)) ((xs (i + 3).toNatClampNeg)) ((xs (i + 4).toNatClampNeg)) u v hR
  refine y_aload_n hC dL_law_950 rfl 1 rfl ?_
  refine y_aload_n hC dL_law_951 rfl 0 rfl ?_
  refine y_iload_n hC dL_law_952 rfl 3 rfl ?_
  refine y_iconst hC dL_law_953 kI_1 ?_
  refine y_iadd hC dL_law_954 ?_
  refine y_xld hC hX hbl (Nat.not_le_of_lt hbl) hi1 dL_law_955 ?_
  refine y_aload_n hC dL_law_956 rfl 0 rfl ?_
  refine y_iload_n hC dL_law_957 rfl 3 rfl ?_
  refine y_iconst hC dL_law_958 kI_2 ?_
  refine y_iadd hC dL_law_959 ?_
  refine y_xld hC hX hbl (Nat.not_le_of_lt hbl) hi2 dL_law_960 ?_
  refine y_aload_n hC dL_law_961 rfl 0 rfl ?_
  refine y_iload_n hC dL_law_962 rfl 3 rfl ?_
  refine y_iconst hC dL_law_963 kI_3 ?_
  refine y_iadd hC dL_law_964 ?_
  refine y_xld hC hX hbl (Nat.not_le_of_lt hbl) hi3 dL_law_965 ?_
  refine y_aload_n hC dL_law_966 rfl 0 rfl ?_
  refine y_iload_n hC dL_law_967 rfl 3 rfl ?_
  refine y_iconst hC dL_law_968 kI_4 ?_
  refine y_iadd hC dL_law_969 ?_
  refine y_xld hC hX hbl (Nat.not_le_of_lt hbl) hi4 dL_law_970 ?_
  refine y_calliV (As := [.int (xs (i + 1).toNatClampNeg), .int (xs (i + 2).toNatClampNeg), .int (xs (i + 3).toNatClampNeg), .int (xs (i + 4).toNatClampNeg)]) hC (cV_judge (cA := cA) (ad := ad) (vT := vT) (vH := vH) (vA := vA) (tK := tK) (tB := tB) (kS := kS) (vS := vS) F.1 ((xs (i + 1).toNatClampNeg)) ((xs (i + 2).toNatClampNeg)) ((xs (i + 3).toNatClampNeg)) ((xs (i + 4).toNatClampNeg)) u h1) (cwL_106 (rm := zRm 4) hC.1.2.2.2.2 rfl rfl ⟨Nat.le_of_ble_eq_true rfl, Nat.le_of_ble_eq_true rfl⟩) (Nat.le_trans (Nat.le_add_right _ _) hf.1) (Nat.le_trans (Nat.le_add_right _ _) hf.2) dL_law_971 rfl rfl (Nat.le_of_ble_eq_true rfl) ⟨_, rfl, rfl⟩ (List.mem_append_left _ (List.mem_of_getElem? (heV_o cA ad vT vH vA u))) (fun _ h => List.mem_append_left _ h) (LF_v F) (zJ_l F) (fun _ => LF_D F) ?_
  refine y_aload_n hC dL_law_974 rfl 2 rfl ?_
  refine y_aload_n hC dL_law_975 rfl 0 rfl ?_
  refine y_iload_n hC dL_law_976 rfl 3 rfl ?_
  refine y_iconst hC dL_law_977 kI_1 ?_
  refine y_iadd hC dL_law_978 ?_
  refine y_xld hC hX hbl (Nat.not_le_of_lt hbl) hi1 dL_law_979 ?_
  refine y_aload_n hC dL_law_980 rfl 0 rfl ?_
  refine y_iload_n hC dL_law_981 rfl 3 rfl ?_
  refine y_iconst hC dL_law_982 kI_2 ?_
  refine y_iadd hC dL_law_983 ?_
  refine y_xld hC hX hbl (Nat.not_le_of_lt hbl) hi2 dL_law_984 ?_
  refine y_aload_n hC dL_law_985 rfl 0 rfl ?_
  refine y_iload_n hC dL_law_986 rfl 3 rfl ?_
  refine y_iconst hC dL_law_987 kI_3 ?_
  refine y_iadd hC dL_law_988 ?_
  refine y_xld hC hX hbl (Nat.not_le_of_lt hbl) hi3 dL_law_989 ?_
  refine y_aload_n hC dL_law_990 rfl 0 rfl ?_
  refine y_iload_n hC dL_law_991 rfl 3 rfl ?_
  refine y_iconst hC dL_law_992 kI_4 ?_
  refine y_iadd hC dL_law_993 ?_
  refine y_xld hC hX hbl (Nat.not_le_of_lt hbl) hi4 dL_law_994 ?_
  refine y_calliV (As := [.int (xs (i + 1).toNatClampNeg), .int (xs (i + 2).toNatClampNeg), .int (xs (i + 3).toNatClampNeg), .int (xs (i + 4).toNatClampNeg)]) hC (cM_judge (cA := cA) (ad := adm) F.2.1 ((xs (i + 1).toNatClampNeg)) ((xs (i + 2).toNatClampNeg)) ((xs (i + 3).toNatClampNeg)) ((xs (i + 4).toNatClampNeg)) v h2) (cwL_109 (rm := zRm 8) hC.1.2.2.2.2 rfl rfl ⟨Nat.le_of_ble_eq_true rfl, Nat.le_of_ble_eq_true rfl⟩) (Nat.le_trans (Nat.le_add_right _ _) hf.1) (Nat.le_trans (Nat.le_add_right _ _) hf.2) dL_law_995 rfl rfl (Nat.le_of_ble_eq_true rfl) ⟨_, rfl, rfl⟩ (List.mem_append_right _ (List.mem_of_getElem? (heM_o cA adm v))) (fun _ h => List.mem_append_right _ h) (LF_m F) (zJ_r F) (fun _ => LF_D F) ?_
  refine y_icmp_eq (tgt := 1364) (a := true) (b := false) (o := true) hC (if_pos rfl) dL_law_998 (by decide) (fun _ => ?_) (fun h => nomatch h)
  refine yG_of (k8 := k9 + 1) (n8 := n9 + 3) (Nat.le_add_right _ _) (Nat.le_add_right _ _) ?_
  exact g ad vT vH vA (V_put_look w1 u) (M_put_pile w2 v) F h3
theorem cL_image {p : Program} {l : Launch} {e : Env} {s : State} {m : MethodId} {below : List Frame} {meth : Method} {c : Code} {Q : State → Prop} {D : va_G} {cA : Nat → ClassId} {tK tB : Nat} {kS vS : Nat → Nat} {k9 n9 b L : Nat} {xs : Nat → Int32} {ad adm : Nat → Nat} {vT vH vA : Value} {u : SV} {v : SM} {i : Int32} {Rel : SV → SM → Prop} (hC : zC p s m #[Value.ref b] meth c code 4 RL zTS D (zTy cA) (fun q => s.heap.size ≤ q) (zE tK tB kS vS)) (hX : va_X b L xs s s.heap) (hbl : b < s.heap.size) (hs : zS_image Rel) (F : LF ad adm s.heap.size) (hR : Rel u v) (hf : k9 + 1 ≤ room_1.cells ∧ n9 + 3 ≤ room_1.slots)  (g : ∀ (ad' : Nat → Nat) (vT vH vA : Value) (u' : SV) (v' : SM), LF ad' adm s.heap.size → Rel u' v' → yG p l e room_1 s m #[Value.ref b] below meth c 4 D (fun q => s.heap.size ≤ q) Q (k9 + 1) (n9 + 3) (wV cA ad' vT vH vA u' ++ wM cA adm v') [(0, .ref b), (1, .ref (ad' 0)), (2, .ref (adm 0)), (3, .int i)] 1364 []) : yG p l e room_1 s m #[Value.ref b] below meth c 4 D (fun q => s.heap.size ≤ q) Q k9 n9 (wV cA ad vT vH vA u ++ wM cA adm v) [(0, .ref b), (1, .ref (ad 0)), (2, .ref (adm 0)), (3, .int i)] 1003 [] := by
  obtain ⟨r, w1, w2, h1, h2, h3⟩ := hs  u v hR
  refine y_aload_n hC dL_law_1003 rfl 1 rfl ?_
  refine y_calliV (As := []) hC (cV_image (cA := cA) (ad := ad) (vT := vT) (vH := vH) (vA := vA) (tK := tK) (tB := tB) (kS := kS) (vS := vS) F.1  u h1) (cwL_110 (rm := zRm 2) hC.1.2.2.2.2 rfl rfl ⟨Nat.le_of_ble_eq_true rfl, Nat.le_of_ble_eq_true rfl⟩) (Nat.le_trans (Nat.le_add_right _ _) hf.1) (Nat.le_trans (Nat.le_add_right _ _) hf.2) dL_law_1004 rfl rfl (Nat.le_of_ble_eq_true rfl) ⟨_, rfl, rfl⟩ (List.mem_append_left _ (List.mem_of_getElem? (heV_o cA ad vT vH vA u))) (fun _ h => List.mem_append_left _ h) (LF_v F) (zJ_l F) (fun _ => LF_D F) ?_
  refine y_aload_n hC dL_law_1007 rfl 2 rfl ?_
  refine y_calliV (As := []) hC (cM_image (cA := cA) (ad := adm) F.2.1  v h2) (cwL_113 (rm := zRm 0) hC.1.2.2.2.2 rfl rfl ⟨Nat.le_of_ble_eq_true rfl, Nat.le_of_ble_eq_true rfl⟩) (Nat.le_trans (Nat.le_add_right _ _) hf.1) (Nat.le_trans (Nat.le_add_right _ _) hf.2) dL_law_1008 rfl rfl (Nat.le_of_ble_eq_true rfl) ⟨_, rfl, rfl⟩ (List.mem_append_right _ (List.mem_of_getElem? (heM_o cA adm v))) (fun _ h => List.mem_append_right _ h) (LF_m F) (zJ_r F) (fun _ => LF_D F) ?_
  refine y_icmp_eq (tgt := 1364) (a := true) (b := false) (o := true) hC (if_pos rfl) dL_law_1011 (by decide) (fun _ => ?_) (fun h => nomatch h)
  refine yG_of (k8 := k9 + 1) (n8 := n9 + 3) (Nat.le_add_right _ _) (Nat.le_add_right _ _) ?_
  exact g ad vT vH vA (V_put_imageTaken_image w1 u) (M_putm_image w2 v) F h3
theorem cL_undo {p : Program} {l : Launch} {e : Env} {s : State} {m : MethodId} {below : List Frame} {meth : Method} {c : Code} {Q : State → Prop} {D : va_G} {cA : Nat → ClassId} {tK tB : Nat} {kS vS : Nat → Nat} {k9 n9 b L : Nat} {xs : Nat → Int32} {ad adm : Nat → Nat} {vT vH vA : Value} {u : SV} {v : SM} {i : Int32} {Rel : SV → SM → Prop} (hC : zC p s m #[Value.ref b] meth c code 4 RL zTS D (zTy cA) (fun q => s.heap.size ≤ q) (zE tK tB kS vS)) (hX : va_X b L xs s s.heap) (hbl : b < s.heap.size) (hs : zS_undo Rel) (F : LF ad adm s.heap.size) (hR : Rel u v) (hf : k9 + 1 ≤ room_1.cells ∧ n9 + 3 ≤ room_1.slots)  (g : ∀ (ad' : Nat → Nat) (vT vH vA : Value) (u' : SV) (v' : SM), LF ad' adm s.heap.size → Rel u' v' → yG p l e room_1 s m #[Value.ref b] below meth c 4 D (fun q => s.heap.size ≤ q) Q (k9 + 1) (n9 + 3) (wV cA ad' vT vH vA u' ++ wM cA adm v') [(0, .ref b), (1, .ref (ad' 0)), (2, .ref (adm 0)), (3, .int i)] 1364 []) : yG p l e room_1 s m #[Value.ref b] below meth c 4 D (fun q => s.heap.size ≤ q) Q k9 n9 (wV cA ad vT vH vA u ++ wM cA adm v) [(0, .ref b), (1, .ref (ad 0)), (2, .ref (adm 0)), (3, .int i)] 1016 [] := by
  obtain ⟨r, w1, w2, h1, h2, h3⟩ := hs  u v hR
  refine y_aload_n hC dL_law_1016 rfl 1 rfl ?_
  refine y_calliV (As := []) hC (cV_undo (cA := cA) (ad := ad) (vT := vT) (vH := vH) (vA := vA) (tK := tK) (tB := tB) (kS := kS) (vS := vS) F.1  u h1) (cwL_114 (rm := zRm 2) hC.1.2.2.2.2 rfl rfl ⟨Nat.le_of_ble_eq_true rfl, Nat.le_of_ble_eq_true rfl⟩) (Nat.le_trans (Nat.le_add_right _ _) hf.1) (Nat.le_trans (Nat.le_add_right _ _) hf.2) dL_law_1017 rfl rfl (Nat.le_of_ble_eq_true rfl) ⟨_, rfl, rfl⟩ (List.mem_append_left _ (List.mem_of_getElem? (heV_o cA ad vT vH vA u))) (fun _ h => List.mem_append_left _ h) (LF_v F) (zJ_l F) (fun _ => LF_D F) ?_
  refine y_aload_n hC dL_law_1020 rfl 2 rfl ?_
  refine y_calliV (As := []) hC (cM_undo (cA := cA) (ad := adm) F.2.1  v h2) (cwL_117 (rm := zRm 0) hC.1.2.2.2.2 rfl rfl ⟨Nat.le_of_ble_eq_true rfl, Nat.le_of_ble_eq_true rfl⟩) (Nat.le_trans (Nat.le_add_right _ _) hf.1) (Nat.le_trans (Nat.le_add_right _ _) hf.2) dL_law_1021 rfl rfl (Nat.le_of_ble_eq_true rfl) ⟨_, rfl, rfl⟩ (List.mem_append_right _ (List.mem_of_getElem? (heM_o cA adm v))) (fun _ h => List.mem_append_right _ h) (LF_m F) (zJ_r F) (fun _ => LF_D F) ?_
  refine y_icmp_eq (tgt := 1364) (a := true) (b := false) (o := true) hC (if_pos rfl) dL_law_1024 (by decide) (fun _ => ?_) (fun h => nomatch h)
  refine yG_of (k8 := k9 + 1) (n8 := n9 + 3) (Nat.le_add_right _ _) (Nat.le_add_right _ _) ?_
  exact g ad vT vH vA (V_put_stage w1 u) (M_put_mouth_jaw_letters_slips_moves_the_letter w2 v) F h3
theorem cL_act {p : Program} {l : Launch} {e : Env} {s : State} {m : MethodId} {below : List Frame} {meth : Method} {c : Code} {Q : State → Prop} {D : va_G} {cA : Nat → ClassId} {tK tB : Nat} {kS vS : Nat → Nat} {k9 n9 b L : Nat} {xs : Nat → Int32} {ad adm : Nat → Nat} {vT vH vA : Value} {u : SV} {v : SM} {i : Int32} {Rel : SV → SM → Prop} (hC : zC p s m #[Value.ref b] meth c code 4 RL zTS D (zTy cA) (fun q => s.heap.size ≤ q) (zE tK tB kS vS)) (hX : va_X b L xs s s.heap) (hbl : b < s.heap.size) (hs : zS_act Rel) (F : LF ad adm s.heap.size) (hR : Rel u v) (hf : k9 + 1 ≤ room_1.cells ∧ n9 + 3 ≤ room_1.slots) (hi1 : vp_in (i + 1) L) (hi2 : vp_in (i + 2) L) (hi3 : vp_in (i + 3) L) (g : ∀ (ad' : Nat → Nat) (vT vH vA : Value) (u' : SV) (v' : SM), LF ad' adm s.heap.size → Rel u' v' → yG p l e room_1 s m #[Value.ref b] below meth c 4 D (fun q => s.heap.size ≤ q) Q (k9 + 1) (n9 + 3) (wV cA ad' vT vH vA u' ++ wM cA adm v') [(0, .ref b), (1, .ref (ad' 0)), (2, .ref (adm 0)), (3, .int i)] 1364 []) : yG p l e room_1 s m #[Value.ref b] below meth c 4 D (fun q => s.heap.size ≤ q) Q k9 n9 (wV cA ad vT vH vA u ++ wM cA adm v) [(0, .ref b), (1, .ref (ad 0)), (2, .ref (adm 0)), (3, .int i)] 1029 [] := by
  obtain ⟨r, w1, w2, h1, h2, h3⟩ := hs ((xs (i + 1).toNatClampNeg)) ((xs (i + 2).toNatClampNeg)) ((xs (i + 3).toNatClampNeg)) u v hR
  refine y_aload_n hC dL_law_1029 rfl 1 rfl ?_
  refine y_aload_n hC dL_law_1030 rfl 0 rfl ?_
  refine y_iload_n hC dL_law_1031 rfl 3 rfl ?_
  refine y_iconst hC dL_law_1032 kI_1 ?_
  refine y_iadd hC dL_law_1033 ?_
  refine y_xld hC hX hbl (Nat.not_le_of_lt hbl) hi1 dL_law_1034 ?_
  refine y_aload_n hC dL_law_1035 rfl 0 rfl ?_
  refine y_iload_n hC dL_law_1036 rfl 3 rfl ?_
  refine y_iconst hC dL_law_1037 kI_2 ?_
  refine y_iadd hC dL_law_1038 ?_
  refine y_xld hC hX hbl (Nat.not_le_of_lt hbl) hi2 dL_law_1039 ?_
  refine y_aload_n hC dL_law_1040 rfl 0 rfl ?_
  refine y_iload_n hC dL_law_1041 rfl 3 rfl ?_
  refine y_iconst hC dL_law_1042 kI_3 ?_
  refine y_iadd hC dL_law_1043 ?_
  refine y_xld hC hX hbl (Nat.not_le_of_lt hbl) hi3 dL_law_1044 ?_
  refine y_calliE (ι := Value × Value × Value) (f := fun q => wV cA ad q.1 q.2.1 q.2.2 (V_put_acting w1 u) ++ wM cA adm v) (Pf := fun _ => True) (mc := 0) (ms := 0) (As := [.int (xs (i + 1).toNatClampNeg), .int (xs (i + 2).toNatClampNeg), .int (xs (i + 3).toNatClampNeg)]) (B := fun _ => zBe D cA ad (V_put_acting w1 u)) (Pre := fun _ => zPre D (zTy cA) (zE tK tB kS vS) (zAd ad 80) (wV cA ad vT vH vA u)) (Ac := fun _ => zAd ad 80) hC (fun _ => cV_act F.1 ((xs (i + 1).toNatClampNeg)) ((xs (i + 2).toNatClampNeg)) ((xs (i + 3).toNatClampNeg)) u h1) (fun _ => zPre_blind) (fun H U hP _ hU hK h1 h2 => ⟨hU ▸ zP_sub hP (fun _ h => List.mem_append_left _ h), hK, h1, h2⟩) (cwL_118 (rm := zRm 26) hC.1.2.2.2.2 rfl rfl ⟨Nat.le_of_ble_eq_true rfl, Nat.le_of_ble_eq_true rfl⟩) ⟨Nat.le_trans (Nat.le_add_right _ 1) hf.1, Nat.le_trans (Nat.le_add_right _ 3) hf.2⟩ dL_law_1045 rfl rfl (Nat.le_of_ble_eq_true rfl) ⟨_, rfl, rfl⟩ (List.mem_append_left _ (List.mem_of_getElem? (heV_o cA ad vT vH vA u))) (fun _ _ => LF_v F) (fun H H1 hP _ _ hB hk => by
    obtain ⟨a1, a2, a3, hB⟩ := hB
    exact ⟨(a1, a2, a3), trivial, zJ_l F H H1 hP hB hk, LF_D F⟩) (fun q _ => ?_)
  refine y_aload_n hC dL_law_1048 rfl 2 rfl ?_
  refine y_aload_n hC dL_law_1049 rfl 0 rfl ?_
  refine y_iload_n hC dL_law_1050 rfl 3 rfl ?_
  refine y_iconst hC dL_law_1051 kI_1 ?_
  refine y_iadd hC dL_law_1052 ?_
  refine y_xld hC hX hbl (Nat.not_le_of_lt hbl) hi1 dL_law_1053 ?_
  refine y_aload_n hC dL_law_1054 rfl 0 rfl ?_
  refine y_iload_n hC dL_law_1055 rfl 3 rfl ?_
  refine y_iconst hC dL_law_1056 kI_2 ?_
  refine y_iadd hC dL_law_1057 ?_
  refine y_xld hC hX hbl (Nat.not_le_of_lt hbl) hi2 dL_law_1058 ?_
  refine y_aload_n hC dL_law_1059 rfl 0 rfl ?_
  refine y_iload_n hC dL_law_1060 rfl 3 rfl ?_
  refine y_iconst hC dL_law_1061 kI_3 ?_
  refine y_iadd hC dL_law_1062 ?_
  refine y_xld hC hX hbl (Nat.not_le_of_lt hbl) hi3 dL_law_1063 ?_
  refine y_calliV (As := [.int (xs (i + 1).toNatClampNeg), .int (xs (i + 2).toNatClampNeg), .int (xs (i + 3).toNatClampNeg)]) hC (cM_act (cA := cA) (ad := adm) F.2.1 ((xs (i + 1).toNatClampNeg)) ((xs (i + 2).toNatClampNeg)) ((xs (i + 3).toNatClampNeg)) v h2) (cwL_121 (rm := zRm 8) hC.1.2.2.2.2 rfl rfl ⟨Nat.le_of_ble_eq_true rfl, Nat.le_of_ble_eq_true rfl⟩) (Nat.le_trans (Nat.le_add_right _ 1) hf.1) (Nat.le_trans (Nat.le_add_right _ 3) hf.2) dL_law_1064 rfl rfl (Nat.le_of_ble_eq_true rfl) ⟨_, rfl, rfl⟩ (List.mem_append_right _ (List.mem_of_getElem? (heM_o cA adm v))) (fun _ h => List.mem_append_right _ h) (LF_m F) (zJ_r F) (fun _ => LF_D F) ?_
  refine y_icmp_eq (tgt := 1364) (a := true) (b := false) (o := true) hC (if_pos rfl) dL_law_1067 (by decide) (fun _ => ?_) (fun h => nomatch h)
  refine yG_of (k8 := k9 + 1) (n8 := n9 + 3) (Nat.le_succ _) (Nat.add_le_add_left (Nat.zero_le _) _) ?_
  exact g ad q.1 q.2.1 q.2.2 (V_put_acting w1 u) (M_put_ran_bodies w2 v) F h3
theorem cL_trace {p : Program} {l : Launch} {e : Env} {s : State} {m : MethodId} {below : List Frame} {meth : Method} {c : Code} {Q : State → Prop} {D : va_G} {cA : Nat → ClassId} {tK tB : Nat} {kS vS : Nat → Nat} {k9 n9 b L : Nat} {xs : Nat → Int32} {ad adm : Nat → Nat} {vT vH vA : Value} {u : SV} {v : SM} {i : Int32} {Rel : SV → SM → Prop} (hC : zC p s m #[Value.ref b] meth c code 4 RL zTS D (zTy cA) (fun q => s.heap.size ≤ q) (zE tK tB kS vS)) (hX : va_X b L xs s s.heap) (hbl : b < s.heap.size) (hs : zS_trace Rel) (F : LF ad adm s.heap.size) (hR : Rel u v) (hf : k9 + 1 ≤ room_1.cells ∧ n9 + 3 ≤ room_1.slots) (hi1 : vp_in (i + 1) L) (g : ∀ (ad' : Nat → Nat) (vT vH vA : Value) (u' : SV) (v' : SM), LF ad' adm s.heap.size → Rel u' v' → yG p l e room_1 s m #[Value.ref b] below meth c 4 D (fun q => s.heap.size ≤ q) Q (k9 + 1) (n9 + 3) (wV cA ad' vT vH vA u' ++ wM cA adm v') [(0, .ref b), (1, .ref (ad' 0)), (2, .ref (adm 0)), (3, .int i)] 1364 []) : yG p l e room_1 s m #[Value.ref b] below meth c 4 D (fun q => s.heap.size ≤ q) Q k9 n9 (wV cA ad vT vH vA u ++ wM cA adm v) [(0, .ref b), (1, .ref (ad 0)), (2, .ref (adm 0)), (3, .int i)] 1072 [] := by
  obtain ⟨r, h1, h2, h3⟩ := hs ((xs (i + 1).toNatClampNeg)) u v hR
  refine y_aload_n hC dL_law_1072 rfl 1 rfl ?_
  refine y_aload_n hC dL_law_1073 rfl 0 rfl ?_
  refine y_iload_n hC dL_law_1074 rfl 3 rfl ?_
  refine y_iconst hC dL_law_1075 kI_1 ?_
  refine y_iadd hC dL_law_1076 ?_
  refine y_xld hC hX hbl (Nat.not_le_of_lt hbl) hi1 dL_law_1077 ?_
  refine y_calliV (As := [.int (xs (i + 1).toNatClampNeg)]) hC (cV_trace (cA := cA) (ad := ad) (vT := vT) (vH := vH) (vA := vA) (tK := tK) (tB := tB) (kS := kS) (vS := vS) F.1 ((xs (i + 1).toNatClampNeg)) u h1) (cwL_122 (rm := zRm 2) hC.1.2.2.2.2 rfl rfl ⟨Nat.le_of_ble_eq_true rfl, Nat.le_of_ble_eq_true rfl⟩) (Nat.le_trans (Nat.le_add_right _ _) hf.1) (Nat.le_trans (Nat.le_add_right _ _) hf.2) dL_law_1078 rfl rfl (Nat.le_of_ble_eq_true rfl) ⟨_, rfl, rfl⟩ (List.mem_append_left _ (List.mem_of_getElem? (heV_o cA ad vT vH vA u))) (fun _ h => List.mem_append_left _ h) (fun _ h => h.elim) zJ_ro (fun h => h) ?_
  refine y_aload_n hC dL_law_1081 rfl 2 rfl ?_
  refine y_aload_n hC dL_law_1082 rfl 0 rfl ?_
  refine y_iload_n hC dL_law_1083 rfl 3 rfl ?_
  refine y_iconst hC dL_law_1084 kI_1 ?_
  refine y_iadd hC dL_law_1085 ?_
  refine y_xld hC hX hbl (Nat.not_le_of_lt hbl) hi1 dL_law_1086 ?_
  refine y_calliV (As := [.int (xs (i + 1).toNatClampNeg)]) hC (cM_trace (cA := cA) (ad := adm) F.2.1 ((xs (i + 1).toNatClampNeg)) v h2) (cwL_125 (rm := zRm 1) hC.1.2.2.2.2 rfl rfl ⟨Nat.le_of_ble_eq_true rfl, Nat.le_of_ble_eq_true rfl⟩) (Nat.le_trans (Nat.le_add_right _ _) hf.1) (Nat.le_trans (Nat.le_add_right _ _) hf.2) dL_law_1087 rfl rfl (Nat.le_of_ble_eq_true rfl) ⟨_, rfl, rfl⟩ (List.mem_append_right _ (List.mem_of_getElem? (heM_o cA adm v))) (fun _ h => List.mem_append_right _ h) (fun _ h => h.elim) zJ_ro (fun h => h) ?_
  refine y_icmp_eq (tgt := 1364) (a := true) (b := false) (o := true) hC (if_pos rfl) dL_law_1090 (by decide) (fun _ => ?_) (fun h => nomatch h)
  refine yG_of (k8 := k9 + 1) (n8 := n9 + 3) (Nat.le_add_right _ _) (Nat.le_add_right _ _) ?_
  exact g ad vT vH vA u v F h3
theorem cL_taken {p : Program} {l : Launch} {e : Env} {s : State} {m : MethodId} {below : List Frame} {meth : Method} {c : Code} {Q : State → Prop} {D : va_G} {cA : Nat → ClassId} {tK tB : Nat} {kS vS : Nat → Nat} {k9 n9 b L : Nat} {xs : Nat → Int32} {ad adm : Nat → Nat} {vT vH vA : Value} {u : SV} {v : SM} {i : Int32} {Rel : SV → SM → Prop} (hC : zC p s m #[Value.ref b] meth c code 4 RL zTS D (zTy cA) (fun q => s.heap.size ≤ q) (zE tK tB kS vS)) (hX : va_X b L xs s s.heap) (hbl : b < s.heap.size) (hs : zS_taken Rel) (F : LF ad adm s.heap.size) (hR : Rel u v) (hf : k9 + 1 ≤ room_1.cells ∧ n9 + 3 ≤ room_1.slots) (hi1 : vp_in (i + 1) L) (hi2 : vp_in (i + 2) L) (g : ∀ (ad' : Nat → Nat) (vT vH vA : Value) (u' : SV) (v' : SM), LF ad' adm s.heap.size → Rel u' v' → yG p l e room_1 s m #[Value.ref b] below meth c 4 D (fun q => s.heap.size ≤ q) Q (k9 + 1) (n9 + 3) (wV cA ad' vT vH vA u' ++ wM cA adm v') [(0, .ref b), (1, .ref (ad' 0)), (2, .ref (adm 0)), (3, .int i)] 1364 []) : yG p l e room_1 s m #[Value.ref b] below meth c 4 D (fun q => s.heap.size ≤ q) Q k9 n9 (wV cA ad vT vH vA u ++ wM cA adm v) [(0, .ref b), (1, .ref (ad 0)), (2, .ref (adm 0)), (3, .int i)] 1095 [] := by
  obtain ⟨r, h1, h2, h3⟩ := hs ((xs (i + 1).toNatClampNeg)) ((xs (i + 2).toNatClampNeg)) u v hR
  refine y_aload_n hC dL_law_1095 rfl 1 rfl ?_
  refine y_aload_n hC dL_law_1096 rfl 0 rfl ?_
  refine y_iload_n hC dL_law_1097 rfl 3 rfl ?_
  refine y_iconst hC dL_law_1098 kI_1 ?_
  refine y_iadd hC dL_law_1099 ?_
  refine y_xld hC hX hbl (Nat.not_le_of_lt hbl) hi1 dL_law_1100 ?_
  refine y_aload_n hC dL_law_1101 rfl 0 rfl ?_
  refine y_iload_n hC dL_law_1102 rfl 3 rfl ?_
  refine y_iconst hC dL_law_1103 kI_2 ?_
  refine y_iadd hC dL_law_1104 ?_
  refine y_xld hC hX hbl (Nat.not_le_of_lt hbl) hi2 dL_law_1105 ?_
  refine y_calliV (As := [.int (xs (i + 1).toNatClampNeg), .int (xs (i + 2).toNatClampNeg)]) hC (cV_taken (cA := cA) (ad := ad) (vT := vT) (vH := vH) (vA := vA) (tK := tK) (tB := tB) (kS := kS) (vS := vS) F.1 ((xs (i + 1).toNatClampNeg)) ((xs (i + 2).toNatClampNeg)) u h1) (cwL_126 (rm := zRm 1) hC.1.2.2.2.2 rfl rfl ⟨Nat.le_of_ble_eq_true rfl, Nat.le_of_ble_eq_true rfl⟩) (Nat.le_trans (Nat.le_add_right _ _) hf.1) (Nat.le_trans (Nat.le_add_right _ _) hf.2) dL_law_1106 rfl rfl (Nat.le_of_ble_eq_true rfl) ⟨_, rfl, rfl⟩ (List.mem_append_left _ (List.mem_of_getElem? (heV_o cA ad vT vH vA u))) (fun _ h => List.mem_append_left _ h) (fun _ h => h.elim) zJ_ro (fun h => h) ?_
  refine y_aload_n hC dL_law_1109 rfl 2 rfl ?_
  refine y_aload_n hC dL_law_1110 rfl 0 rfl ?_
  refine y_iload_n hC dL_law_1111 rfl 3 rfl ?_
  refine y_iconst hC dL_law_1112 kI_1 ?_
  refine y_iadd hC dL_law_1113 ?_
  refine y_xld hC hX hbl (Nat.not_le_of_lt hbl) hi1 dL_law_1114 ?_
  refine y_aload_n hC dL_law_1115 rfl 0 rfl ?_
  refine y_iload_n hC dL_law_1116 rfl 3 rfl ?_
  refine y_iconst hC dL_law_1117 kI_2 ?_
  refine y_iadd hC dL_law_1118 ?_
  refine y_xld hC hX hbl (Nat.not_le_of_lt hbl) hi2 dL_law_1119 ?_
  refine y_calliV (As := [.int (xs (i + 1).toNatClampNeg), .int (xs (i + 2).toNatClampNeg)]) hC (cM_taken (cA := cA) (ad := adm) F.2.1 ((xs (i + 1).toNatClampNeg)) ((xs (i + 2).toNatClampNeg)) v h2) (cwL_129 (rm := zRm 2) hC.1.2.2.2.2 rfl rfl ⟨Nat.le_of_ble_eq_true rfl, Nat.le_of_ble_eq_true rfl⟩) (Nat.le_trans (Nat.le_add_right _ _) hf.1) (Nat.le_trans (Nat.le_add_right _ _) hf.2) dL_law_1120 rfl rfl (Nat.le_of_ble_eq_true rfl) ⟨_, rfl, rfl⟩ (List.mem_append_right _ (List.mem_of_getElem? (heM_o cA adm v))) (fun _ h => List.mem_append_right _ h) (fun _ h => h.elim) zJ_ro (fun h => h) ?_
  refine y_icmp_eq (tgt := 1364) (a := true) (b := false) (o := true) hC (if_pos rfl) dL_law_1123 (by decide) (fun _ => ?_) (fun h => nomatch h)
  refine yG_of (k8 := k9 + 1) (n8 := n9 + 3) (Nat.le_add_right _ _) (Nat.le_add_right _ _) ?_
  exact g ad vT vH vA u v F h3
theorem cL_count {p : Program} {l : Launch} {e : Env} {s : State} {m : MethodId} {below : List Frame} {meth : Method} {c : Code} {Q : State → Prop} {D : va_G} {cA : Nat → ClassId} {tK tB : Nat} {kS vS : Nat → Nat} {k9 n9 b L : Nat} {xs : Nat → Int32} {ad adm : Nat → Nat} {vT vH vA : Value} {u : SV} {v : SM} {i : Int32} {Rel : SV → SM → Prop} (hC : zC p s m #[Value.ref b] meth c code 4 RL zTS D (zTy cA) (fun q => s.heap.size ≤ q) (zE tK tB kS vS)) (hX : va_X b L xs s s.heap) (hbl : b < s.heap.size) (hs : zS_count Rel) (F : LF ad adm s.heap.size) (hR : Rel u v) (hf : k9 + 1 ≤ room_1.cells ∧ n9 + 3 ≤ room_1.slots) (hi1 : vp_in (i + 1) L) (g : ∀ (ad' : Nat → Nat) (vT vH vA : Value) (u' : SV) (v' : SM), LF ad' adm s.heap.size → Rel u' v' → yG p l e room_1 s m #[Value.ref b] below meth c 4 D (fun q => s.heap.size ≤ q) Q (k9 + 1) (n9 + 3) (wV cA ad' vT vH vA u' ++ wM cA adm v') [(0, .ref b), (1, .ref (ad' 0)), (2, .ref (adm 0)), (3, .int i)] 1364 []) : yG p l e room_1 s m #[Value.ref b] below meth c 4 D (fun q => s.heap.size ≤ q) Q k9 n9 (wV cA ad vT vH vA u ++ wM cA adm v) [(0, .ref b), (1, .ref (ad 0)), (2, .ref (adm 0)), (3, .int i)] 1128 [] := by
  obtain ⟨r, h1, h2, h3⟩ := hs ((xs (i + 1).toNatClampNeg)) u v hR
  refine y_aload_n hC dL_law_1128 rfl 1 rfl ?_
  refine y_aload_n hC dL_law_1129 rfl 0 rfl ?_
  refine y_iload_n hC dL_law_1130 rfl 3 rfl ?_
  refine y_iconst hC dL_law_1131 kI_1 ?_
  refine y_iadd hC dL_law_1132 ?_
  refine y_xld hC hX hbl (Nat.not_le_of_lt hbl) hi1 dL_law_1133 ?_
  refine y_calliV (As := [.int (xs (i + 1).toNatClampNeg)]) hC (cV_count (cA := cA) (ad := ad) (vT := vT) (vH := vH) (vA := vA) (tK := tK) (tB := tB) (kS := kS) (vS := vS) F.1 ((xs (i + 1).toNatClampNeg)) u h1) (cwL_130 (rm := zRm 0) hC.1.2.2.2.2 rfl rfl ⟨Nat.le_of_ble_eq_true rfl, Nat.le_of_ble_eq_true rfl⟩) (Nat.le_trans (Nat.le_add_right _ _) hf.1) (Nat.le_trans (Nat.le_add_right _ _) hf.2) dL_law_1134 rfl rfl (Nat.le_of_ble_eq_true rfl) ⟨_, rfl, rfl⟩ (List.mem_append_left _ (List.mem_of_getElem? (heV_o cA ad vT vH vA u))) (fun _ h => List.mem_append_left _ h) (fun _ h => h.elim) zJ_ro (fun h => h) ?_
  refine y_aload_n hC dL_law_1137 rfl 2 rfl ?_
  refine y_aload_n hC dL_law_1138 rfl 0 rfl ?_
  refine y_iload_n hC dL_law_1139 rfl 3 rfl ?_
  refine y_iconst hC dL_law_1140 kI_1 ?_
  refine y_iadd hC dL_law_1141 ?_
  refine y_xld hC hX hbl (Nat.not_le_of_lt hbl) hi1 dL_law_1142 ?_
  refine y_calliV (As := [.int (xs (i + 1).toNatClampNeg)]) hC (cM_count (cA := cA) (ad := adm) F.2.1 ((xs (i + 1).toNatClampNeg)) v h2) (cwL_133 (rm := zRm 0) hC.1.2.2.2.2 rfl rfl ⟨Nat.le_of_ble_eq_true rfl, Nat.le_of_ble_eq_true rfl⟩) (Nat.le_trans (Nat.le_add_right _ _) hf.1) (Nat.le_trans (Nat.le_add_right _ _) hf.2) dL_law_1143 rfl rfl (Nat.le_of_ble_eq_true rfl) ⟨_, rfl, rfl⟩ (List.mem_append_right _ (List.mem_of_getElem? (heM_o cA adm v))) (fun _ h => List.mem_append_right _ h) (fun _ h => h.elim) zJ_ro (fun h => h) ?_
  refine y_icmp_eq (tgt := 1364) (a := true) (b := false) (o := true) hC (if_pos rfl) dL_law_1146 (by decide) (fun _ => ?_) (fun h => nomatch h)
  refine yG_of (k8 := k9 + 1) (n8 := n9 + 3) (Nat.le_add_right _ _) (Nat.le_add_right _ _) ?_
  exact g ad vT vH vA u v F h3
theorem cL_tape {p : Program} {l : Launch} {e : Env} {s : State} {m : MethodId} {below : List Frame} {meth : Method} {c : Code} {Q : State → Prop} {D : va_G} {cA : Nat → ClassId} {tK tB : Nat} {kS vS : Nat → Nat} {k9 n9 b L : Nat} {xs : Nat → Int32} {ad adm : Nat → Nat} {vT vH vA : Value} {u : SV} {v : SM} {i : Int32} {Rel : SV → SM → Prop} (hC : zC p s m #[Value.ref b] meth c code 4 RL zTS D (zTy cA) (fun q => s.heap.size ≤ q) (zE tK tB kS vS)) (hX : va_X b L xs s s.heap) (hbl : b < s.heap.size) (hs : zS_tape Rel) (F : LF ad adm s.heap.size) (hR : Rel u v) (hf : k9 + 1 ≤ room_1.cells ∧ n9 + 3 ≤ room_1.slots) (hi1 : vp_in (i + 1) L) (hi2 : vp_in (i + 2) L) (hi3 : vp_in (i + 3) L) (g : ∀ (ad' : Nat → Nat) (vT vH vA : Value) (u' : SV) (v' : SM), LF ad' adm s.heap.size → Rel u' v' → yG p l e room_1 s m #[Value.ref b] below meth c 4 D (fun q => s.heap.size ≤ q) Q (k9 + 1) (n9 + 3) (wV cA ad' vT vH vA u' ++ wM cA adm v') [(0, .ref b), (1, .ref (ad' 0)), (2, .ref (adm 0)), (3, .int i)] 1364 []) : yG p l e room_1 s m #[Value.ref b] below meth c 4 D (fun q => s.heap.size ≤ q) Q k9 n9 (wV cA ad vT vH vA u ++ wM cA adm v) [(0, .ref b), (1, .ref (ad 0)), (2, .ref (adm 0)), (3, .int i)] 1151 [] := by
  obtain ⟨r, w1, w2, h1, h2, h3⟩ := hs ((xs (i + 1).toNatClampNeg)) ((xs (i + 2).toNatClampNeg)) ((xs (i + 3).toNatClampNeg)) u v hR
  refine y_aload_n hC dL_law_1151 rfl 1 rfl ?_
  refine y_aload_n hC dL_law_1152 rfl 0 rfl ?_
  refine y_iload_n hC dL_law_1153 rfl 3 rfl ?_
  refine y_iconst hC dL_law_1154 kI_1 ?_
  refine y_iadd hC dL_law_1155 ?_
  refine y_xld hC hX hbl (Nat.not_le_of_lt hbl) hi1 dL_law_1156 ?_
  refine y_aload_n hC dL_law_1157 rfl 0 rfl ?_
  refine y_iload_n hC dL_law_1158 rfl 3 rfl ?_
  refine y_iconst hC dL_law_1159 kI_2 ?_
  refine y_iadd hC dL_law_1160 ?_
  refine y_xld hC hX hbl (Nat.not_le_of_lt hbl) hi2 dL_law_1161 ?_
  refine y_aload_n hC dL_law_1162 rfl 0 rfl ?_
  refine y_iload_n hC dL_law_1163 rfl 3 rfl ?_
  refine y_iconst hC dL_law_1164 kI_3 ?_
  refine y_iadd hC dL_law_1165 ?_
  refine y_xld hC hX hbl (Nat.not_le_of_lt hbl) hi3 dL_law_1166 ?_
  refine y_calliV (As := [.int (xs (i + 1).toNatClampNeg), .int (xs (i + 2).toNatClampNeg), .int (xs (i + 3).toNatClampNeg)]) hC (cV_tape (cA := cA) (ad := ad) (vT := vT) (vH := vH) (vA := vA) (tK := tK) (tB := tB) (kS := kS) (vS := vS) F.1 ((xs (i + 1).toNatClampNeg)) ((xs (i + 2).toNatClampNeg)) ((xs (i + 3).toNatClampNeg)) u h1) (cwL_134 (rm := zRm 1) hC.1.2.2.2.2 rfl rfl ⟨Nat.le_of_ble_eq_true rfl, Nat.le_of_ble_eq_true rfl⟩) (Nat.le_trans (Nat.le_add_right _ _) hf.1) (Nat.le_trans (Nat.le_add_right _ _) hf.2) dL_law_1167 rfl rfl (Nat.le_of_ble_eq_true rfl) ⟨_, rfl, rfl⟩ (List.mem_append_left _ (List.mem_of_getElem? (heV_o cA ad vT vH vA u))) (fun _ h => List.mem_append_left _ h) (LF_v F) (zJ_l F) (fun _ => LF_D F) ?_
  refine y_aload_n hC dL_law_1170 rfl 2 rfl ?_
  refine y_aload_n hC dL_law_1171 rfl 0 rfl ?_
  refine y_iload_n hC dL_law_1172 rfl 3 rfl ?_
  refine y_iconst hC dL_law_1173 kI_1 ?_
  refine y_iadd hC dL_law_1174 ?_
  refine y_xld hC hX hbl (Nat.not_le_of_lt hbl) hi1 dL_law_1175 ?_
  refine y_aload_n hC dL_law_1176 rfl 0 rfl ?_
  refine y_iload_n hC dL_law_1177 rfl 3 rfl ?_
  refine y_iconst hC dL_law_1178 kI_2 ?_
  refine y_iadd hC dL_law_1179 ?_
  refine y_xld hC hX hbl (Nat.not_le_of_lt hbl) hi2 dL_law_1180 ?_
  refine y_aload_n hC dL_law_1181 rfl 0 rfl ?_
  refine y_iload_n hC dL_law_1182 rfl 3 rfl ?_
  refine y_iconst hC dL_law_1183 kI_3 ?_
  refine y_iadd hC dL_law_1184 ?_
  refine y_xld hC hX hbl (Nat.not_le_of_lt hbl) hi3 dL_law_1185 ?_
  refine y_calliV (As := [.int (xs (i + 1).toNatClampNeg), .int (xs (i + 2).toNatClampNeg), .int (xs (i + 3).toNatClampNeg)]) hC (cM_tape (cA := cA) (ad := adm) F.2.1 ((xs (i + 1).toNatClampNeg)) ((xs (i + 2).toNatClampNeg)) ((xs (i + 3).toNatClampNeg)) v h2) (cwL_137 (rm := zRm 2) hC.1.2.2.2.2 rfl rfl ⟨Nat.le_of_ble_eq_true rfl, Nat.le_of_ble_eq_true rfl⟩) (Nat.le_trans (Nat.le_add_right _ _) hf.1) (Nat.le_trans (Nat.le_add_right _ _) hf.2) dL_law_1186 rfl rfl (Nat.le_of_ble_eq_true rfl) ⟨_, rfl, rfl⟩ (List.mem_append_right _ (List.mem_of_getElem? (heM_o cA adm v))) (fun _ h => List.mem_append_right _ h) (LF_m F) (zJ_r F) (fun _ => LF_D F) ?_
  refine y_icmp_eq (tgt := 1364) (a := true) (b := false) (o := true) hC (if_pos rfl) dL_law_1189 (by decide) (fun _ => ?_) (fun h => nomatch h)
  refine yG_of (k8 := k9 + 1) (n8 := n9 + 3) (Nat.le_add_right _ _) (Nat.le_add_right _ _) ?_
  exact g ad vT vH vA (V_put_ts w1 u) (M_put_sort_length_item w2 v) F h3
theorem cL_item {p : Program} {l : Launch} {e : Env} {s : State} {m : MethodId} {below : List Frame} {meth : Method} {c : Code} {Q : State → Prop} {D : va_G} {cA : Nat → ClassId} {tK tB : Nat} {kS vS : Nat → Nat} {k9 n9 b L : Nat} {xs : Nat → Int32} {ad adm : Nat → Nat} {vT vH vA : Value} {u : SV} {v : SM} {i : Int32} {Rel : SV → SM → Prop} (hC : zC p s m #[Value.ref b] meth c code 4 RL zTS D (zTy cA) (fun q => s.heap.size ≤ q) (zE tK tB kS vS)) (hX : va_X b L xs s s.heap) (hbl : b < s.heap.size) (hs : zS_item Rel) (F : LF ad adm s.heap.size) (hR : Rel u v) (hf : k9 + 1 ≤ room_1.cells ∧ n9 + 3 ≤ room_1.slots) (hi1 : vp_in (i + 1) L) (hi2 : vp_in (i + 2) L) (hi3 : vp_in (i + 3) L) (hi4 : vp_in (i + 4) L) (g : ∀ (ad' : Nat → Nat) (vT vH vA : Value) (u' : SV) (v' : SM), LF ad' adm s.heap.size → Rel u' v' → yG p l e room_1 s m #[Value.ref b] below meth c 4 D (fun q => s.heap.size ≤ q) Q (k9 + 1) (n9 + 3) (wV cA ad' vT vH vA u' ++ wM cA adm v') [(0, .ref b), (1, .ref (ad' 0)), (2, .ref (adm 0)), (3, .int i)] 1364 []) : yG p l e room_1 s m #[Value.ref b] below meth c 4 D (fun q => s.heap.size ≤ q) Q k9 n9 (wV cA ad vT vH vA u ++ wM cA adm v) [(0, .ref b), (1, .ref (ad 0)), (2, .ref (adm 0)), (3, .int i)] 1194 [] := by
  obtain ⟨r, w1, w2, h1, h2, h3⟩ := hs ((xs (i + 1).toNatClampNeg)) ((xs (i + 2).toNatClampNeg)) ((((xs (i + 3).toNatClampNeg).toInt64 <<< ((32 : Int32).toInt64 &&& 63)) ||| ((xs (i + 4).toNatClampNeg).toInt64 &&& 4294967295))) u v hR
  refine y_aload_n hC dL_law_1194 rfl 1 rfl ?_
  refine y_aload_n hC dL_law_1195 rfl 0 rfl ?_
  refine y_iload_n hC dL_law_1196 rfl 3 rfl ?_
  refine y_iconst hC dL_law_1197 kI_1 ?_
  refine y_iadd hC dL_law_1198 ?_
  refine y_xld hC hX hbl (Nat.not_le_of_lt hbl) hi1 dL_law_1199 ?_
  refine y_aload_n hC dL_law_1200 rfl 0 rfl ?_
  refine y_iload_n hC dL_law_1201 rfl 3 rfl ?_
  refine y_iconst hC dL_law_1202 kI_2 ?_
  refine y_iadd hC dL_law_1203 ?_
  refine y_xld hC hX hbl (Nat.not_le_of_lt hbl) hi2 dL_law_1204 ?_
  refine y_aload_n hC dL_law_1205 rfl 0 rfl ?_
  refine y_iload_n hC dL_law_1206 rfl 3 rfl ?_
  refine y_iconst hC dL_law_1207 kI_3 ?_
  refine y_iadd hC dL_law_1208 ?_
  refine y_xld hC hX hbl (Nat.not_le_of_lt hbl) hi3 dL_law_1209 ?_
  refine y_i2l hC dL_law_1210 ?_
  refine y_bipush hC dL_law_1211 kB_32 ?_
  refine y_lshl hC dL_law_1213 ?_
  refine y_aload_n hC dL_law_1214 rfl 0 rfl ?_
  refine y_iload_n hC dL_law_1215 rfl 3 rfl ?_
  refine y_iconst hC dL_law_1216 kI_4 ?_
  refine y_iadd hC dL_law_1217 ?_
  refine y_xld hC hX hbl (Nat.not_le_of_lt hbl) hi4 dL_law_1218 ?_
  refine y_i2l hC dL_law_1219 ?_
  refine y_ldc2 hC mcL_18 dL_law_1220 ?_
  refine y_land hC dL_law_1223 ?_
  refine y_lor hC dL_law_1224 ?_
  refine y_calliV (As := [.int (xs (i + 1).toNatClampNeg), .int (xs (i + 2).toNatClampNeg), .long (((xs (i + 3).toNatClampNeg).toInt64 <<< ((32 : Int32).toInt64 &&& 63)) ||| ((xs (i + 4).toNatClampNeg).toInt64 &&& 4294967295))]) hC (cV_item (cA := cA) (ad := ad) (vT := vT) (vH := vH) (vA := vA) (tK := tK) (tB := tB) (kS := kS) (vS := vS) F.1 ((xs (i + 1).toNatClampNeg)) ((xs (i + 2).toNatClampNeg)) ((((xs (i + 3).toNatClampNeg).toInt64 <<< ((32 : Int32).toInt64 &&& 63)) ||| ((xs (i + 4).toNatClampNeg).toInt64 &&& 4294967295))) u h1) (cwL_138 (rm := zRm 1) hC.1.2.2.2.2 rfl rfl ⟨Nat.le_of_ble_eq_true rfl, Nat.le_of_ble_eq_true rfl⟩) (Nat.le_trans (Nat.le_add_right _ _) hf.1) (Nat.le_trans (Nat.le_add_right _ _) hf.2) dL_law_1225 rfl rfl (Nat.le_of_ble_eq_true rfl) ⟨_, rfl, rfl⟩ (List.mem_append_left _ (List.mem_of_getElem? (heV_o cA ad vT vH vA u))) (fun _ h => List.mem_append_left _ h) (LF_v F) (zJ_l F) (fun _ => LF_D F) ?_
  refine y_aload_n hC dL_law_1228 rfl 2 rfl ?_
  refine y_aload_n hC dL_law_1229 rfl 0 rfl ?_
  refine y_iload_n hC dL_law_1230 rfl 3 rfl ?_
  refine y_iconst hC dL_law_1231 kI_1 ?_
  refine y_iadd hC dL_law_1232 ?_
  refine y_xld hC hX hbl (Nat.not_le_of_lt hbl) hi1 dL_law_1233 ?_
  refine y_aload_n hC dL_law_1234 rfl 0 rfl ?_
  refine y_iload_n hC dL_law_1235 rfl 3 rfl ?_
  refine y_iconst hC dL_law_1236 kI_2 ?_
  refine y_iadd hC dL_law_1237 ?_
  refine y_xld hC hX hbl (Nat.not_le_of_lt hbl) hi2 dL_law_1238 ?_
  refine y_aload_n hC dL_law_1239 rfl 0 rfl ?_
  refine y_iload_n hC dL_law_1240 rfl 3 rfl ?_
  refine y_iconst hC dL_law_1241 kI_3 ?_
  refine y_iadd hC dL_law_1242 ?_
  refine y_xld hC hX hbl (Nat.not_le_of_lt hbl) hi3 dL_law_1243 ?_
  refine y_i2l hC dL_law_1244 ?_
  refine y_bipush hC dL_law_1245 kB_32 ?_
  refine y_lshl hC dL_law_1247 ?_
  refine y_aload_n hC dL_law_1248 rfl 0 rfl ?_
  refine y_iload_n hC dL_law_1249 rfl 3 rfl ?_
  refine y_iconst hC dL_law_1250 kI_4 ?_
  refine y_iadd hC dL_law_1251 ?_
  refine y_xld hC hX hbl (Nat.not_le_of_lt hbl) hi4 dL_law_1252 ?_
  refine y_i2l hC dL_law_1253 ?_
  refine y_ldc2 hC mcL_18 dL_law_1254 ?_
  refine y_land hC dL_law_1257 ?_
  refine y_lor hC dL_law_1258 ?_
  refine y_calliV (As := [.int (xs (i + 1).toNatClampNeg), .int (xs (i + 2).toNatClampNeg), .long (((xs (i + 3).toNatClampNeg).toInt64 <<< ((32 : Int32).toInt64 &&& 63)) ||| ((xs (i + 4).toNatClampNeg).toInt64 &&& 4294967295))]) hC (cM_item (cA := cA) (ad := adm) F.2.1 ((xs (i + 1).toNatClampNeg)) ((xs (i + 2).toNatClampNeg)) ((((xs (i + 3).toNatClampNeg).toInt64 <<< ((32 : Int32).toInt64 &&& 63)) ||| ((xs (i + 4).toNatClampNeg).toInt64 &&& 4294967295))) v h2) (cwL_142 (rm := zRm 2) hC.1.2.2.2.2 rfl rfl ⟨Nat.le_of_ble_eq_true rfl, Nat.le_of_ble_eq_true rfl⟩) (Nat.le_trans (Nat.le_add_right _ _) hf.1) (Nat.le_trans (Nat.le_add_right _ _) hf.2) dL_law_1259 rfl rfl (Nat.le_of_ble_eq_true rfl) ⟨_, rfl, rfl⟩ (List.mem_append_right _ (List.mem_of_getElem? (heM_o cA adm v))) (fun _ h => List.mem_append_right _ h) (LF_m F) (zJ_r F) (fun _ => LF_D F) ?_
  refine y_icmp_eq (tgt := 1364) (a := true) (b := false) (o := true) hC (if_pos rfl) dL_law_1262 (by decide) (fun _ => ?_) (fun h => nomatch h)
  refine yG_of (k8 := k9 + 1) (n8 := n9 + 3) (Nat.le_add_right _ _) (Nat.le_add_right _ _) ?_
  exact g ad vT vH vA (V_put_ts w1 u) (M_put_item w2 v) F h3
theorem cL_read {p : Program} {l : Launch} {e : Env} {s : State} {m : MethodId} {below : List Frame} {meth : Method} {c : Code} {Q : State → Prop} {D : va_G} {cA : Nat → ClassId} {tK tB : Nat} {kS vS : Nat → Nat} {k9 n9 b L : Nat} {xs : Nat → Int32} {ad adm : Nat → Nat} {vT vH vA : Value} {u : SV} {v : SM} {i : Int32} {Rel : SV → SM → Prop} (hC : zC p s m #[Value.ref b] meth c code 4 RL zTS D (zTy cA) (fun q => s.heap.size ≤ q) (zE tK tB kS vS)) (hX : va_X b L xs s s.heap) (hbl : b < s.heap.size) (hs : zS_read Rel) (F : LF ad adm s.heap.size) (hR : Rel u v) (hf : k9 + 1 ≤ room_1.cells ∧ n9 + 3 ≤ room_1.slots) (hi1 : vp_in (i + 1) L) (hi2 : vp_in (i + 2) L) (g : ∀ (ad' : Nat → Nat) (vT vH vA : Value) (u' : SV) (v' : SM), LF ad' adm s.heap.size → Rel u' v' → yG p l e room_1 s m #[Value.ref b] below meth c 4 D (fun q => s.heap.size ≤ q) Q (k9 + 1) (n9 + 3) (wV cA ad' vT vH vA u' ++ wM cA adm v') [(0, .ref b), (1, .ref (ad' 0)), (2, .ref (adm 0)), (3, .int i)] 1364 []) : yG p l e room_1 s m #[Value.ref b] below meth c 4 D (fun q => s.heap.size ≤ q) Q k9 n9 (wV cA ad vT vH vA u ++ wM cA adm v) [(0, .ref b), (1, .ref (ad 0)), (2, .ref (adm 0)), (3, .int i)] 1267 [] := by
  obtain ⟨r, h1, h2, h3⟩ := hs ((xs (i + 1).toNatClampNeg)) ((xs (i + 2).toNatClampNeg)) u v hR
  refine y_aload_n hC dL_law_1267 rfl 1 rfl ?_
  refine y_aload_n hC dL_law_1268 rfl 0 rfl ?_
  refine y_iload_n hC dL_law_1269 rfl 3 rfl ?_
  refine y_iconst hC dL_law_1270 kI_1 ?_
  refine y_iadd hC dL_law_1271 ?_
  refine y_xld hC hX hbl (Nat.not_le_of_lt hbl) hi1 dL_law_1272 ?_
  refine y_aload_n hC dL_law_1273 rfl 0 rfl ?_
  refine y_iload_n hC dL_law_1274 rfl 3 rfl ?_
  refine y_iconst hC dL_law_1275 kI_2 ?_
  refine y_iadd hC dL_law_1276 ?_
  refine y_xld hC hX hbl (Nat.not_le_of_lt hbl) hi2 dL_law_1277 ?_
  refine y_calllV (As := [.int (xs (i + 1).toNatClampNeg), .int (xs (i + 2).toNatClampNeg)]) hC (cV_read (cA := cA) (ad := ad) (vT := vT) (vH := vH) (vA := vA) (tK := tK) (tB := tB) (kS := kS) (vS := vS) F.1 ((xs (i + 1).toNatClampNeg)) ((xs (i + 2).toNatClampNeg)) u h1) (cwL_143 (rm := zRm 1) hC.1.2.2.2.2 rfl rfl ⟨Nat.le_of_ble_eq_true rfl, Nat.le_of_ble_eq_true rfl⟩) (Nat.le_trans (Nat.le_add_right _ _) hf.1) (Nat.le_trans (Nat.le_add_right _ _) hf.2) dL_law_1278 rfl rfl (Nat.le_of_ble_eq_true rfl) ⟨_, rfl, rfl⟩ (List.mem_append_left _ (List.mem_of_getElem? (heV_o cA ad vT vH vA u))) (fun _ h => List.mem_append_left _ h) (fun _ h => h.elim) zJ_ro (fun h => h) ?_
  refine y_aload_n hC dL_law_1281 rfl 2 rfl ?_
  refine y_aload_n hC dL_law_1282 rfl 0 rfl ?_
  refine y_iload_n hC dL_law_1283 rfl 3 rfl ?_
  refine y_iconst hC dL_law_1284 kI_1 ?_
  refine y_iadd hC dL_law_1285 ?_
  refine y_xld hC hX hbl (Nat.not_le_of_lt hbl) hi1 dL_law_1286 ?_
  refine y_aload_n hC dL_law_1287 rfl 0 rfl ?_
  refine y_iload_n hC dL_law_1288 rfl 3 rfl ?_
  refine y_iconst hC dL_law_1289 kI_2 ?_
  refine y_iadd hC dL_law_1290 ?_
  refine y_xld hC hX hbl (Nat.not_le_of_lt hbl) hi2 dL_law_1291 ?_
  refine y_calllV (As := [.int (xs (i + 1).toNatClampNeg), .int (xs (i + 2).toNatClampNeg)]) hC (cM_read (cA := cA) (ad := adm) F.2.1 ((xs (i + 1).toNatClampNeg)) ((xs (i + 2).toNatClampNeg)) v h2) (cwL_147 (rm := zRm 2) hC.1.2.2.2.2 rfl rfl ⟨Nat.le_of_ble_eq_true rfl, Nat.le_of_ble_eq_true rfl⟩) (Nat.le_trans (Nat.le_add_right _ _) hf.1) (Nat.le_trans (Nat.le_add_right _ _) hf.2) dL_law_1292 rfl rfl (Nat.le_of_ble_eq_true rfl) ⟨_, rfl, rfl⟩ (List.mem_append_right _ (List.mem_of_getElem? (heM_o cA adm v))) (fun _ h => List.mem_append_right _ h) (fun _ h => h.elim) zJ_ro (fun h => h) ?_
  refine y_lcmp hC dL_law_1295 ?_
  refine y_if_eq (tgt := 1364) (a := true) (b := false) (o := true) hC (if_pos (lg_cmp_self r)) dL_law_1296 (by decide) (fun _ => ?_) (fun h => nomatch h)
  refine yG_of (k8 := k9 + 1) (n8 := n9 + 3) (Nat.le_add_right _ _) (Nat.le_add_right _ _) ?_
  exact g ad vT vH vA u v F h3
theorem cL_shift {p : Program} {l : Launch} {e : Env} {s : State} {m : MethodId} {below : List Frame} {meth : Method} {c : Code} {Q : State → Prop} {D : va_G} {cA : Nat → ClassId} {tK tB : Nat} {kS vS : Nat → Nat} {k9 n9 b L : Nat} {xs : Nat → Int32} {ad adm : Nat → Nat} {vT vH vA : Value} {u : SV} {v : SM} {i : Int32} {Rel : SV → SM → Prop} (hC : zC p s m #[Value.ref b] meth c code 4 RL zTS D (zTy cA) (fun q => s.heap.size ≤ q) (zE tK tB kS vS)) (hX : va_X b L xs s s.heap) (hbl : b < s.heap.size) (hs : zS_shift Rel) (F : LF ad adm s.heap.size) (hR : Rel u v) (hf : k9 + 1 ≤ room_1.cells ∧ n9 + 3 ≤ room_1.slots) (hi1 : vp_in (i + 1) L) (hi2 : vp_in (i + 2) L) (hi3 : vp_in (i + 3) L) (hi4 : vp_in (i + 4) L) (hi5 : vp_in (i + 5) L) (g : ∀ (ad' : Nat → Nat) (vT vH vA : Value) (u' : SV) (v' : SM), LF ad' adm s.heap.size → Rel u' v' → yG p l e room_1 s m #[Value.ref b] below meth c 4 D (fun q => s.heap.size ≤ q) Q (k9 + 1) (n9 + 3) (wV cA ad' vT vH vA u' ++ wM cA adm v') [(0, .ref b), (1, .ref (ad' 0)), (2, .ref (adm 0)), (3, .int i)] 1364 []) : yG p l e room_1 s m #[Value.ref b] below meth c 4 D (fun q => s.heap.size ≤ q) Q k9 n9 (wV cA ad vT vH vA u ++ wM cA adm v) [(0, .ref b), (1, .ref (ad 0)), (2, .ref (adm 0)), (3, .int i)] 1301 [] := by
  obtain ⟨r, w1, w2, h1, h2, h3⟩ := hs ((xs (i + 1).toNatClampNeg)) ((xs (i + 2).toNatClampNeg)) ((xs (i + 3).toNatClampNeg)) ((xs (i + 4).toNatClampNeg)) ((xs (i + 5).toNatClampNeg)) u v hR
  refine y_aload_n hC dL_law_1301 rfl 1 rfl ?_
  refine y_aload_n hC dL_law_1302 rfl 0 rfl ?_
  refine y_iload_n hC dL_law_1303 rfl 3 rfl ?_
  refine y_iconst hC dL_law_1304 kI_1 ?_
  refine y_iadd hC dL_law_1305 ?_
  refine y_xld hC hX hbl (Nat.not_le_of_lt hbl) hi1 dL_law_1306 ?_
  refine y_aload_n hC dL_law_1307 rfl 0 rfl ?_
  refine y_iload_n hC dL_law_1308 rfl 3 rfl ?_
  refine y_iconst hC dL_law_1309 kI_2 ?_
  refine y_iadd hC dL_law_1310 ?_
  refine y_xld hC hX hbl (Nat.not_le_of_lt hbl) hi2 dL_law_1311 ?_
  refine y_aload_n hC dL_law_1312 rfl 0 rfl ?_
  refine y_iload_n hC dL_law_1313 rfl 3 rfl ?_
  refine y_iconst hC dL_law_1314 kI_3 ?_
  refine y_iadd hC dL_law_1315 ?_
  refine y_xld hC hX hbl (Nat.not_le_of_lt hbl) hi3 dL_law_1316 ?_
  refine y_aload_n hC dL_law_1317 rfl 0 rfl ?_
  refine y_iload_n hC dL_law_1318 rfl 3 rfl ?_
  refine y_iconst hC dL_law_1319 kI_4 ?_
  refine y_iadd hC dL_law_1320 ?_
  refine y_xld hC hX hbl (Nat.not_le_of_lt hbl) hi4 dL_law_1321 ?_
  refine y_aload_n hC dL_law_1322 rfl 0 rfl ?_
  refine y_iload_n hC dL_law_1323 rfl 3 rfl ?_
  refine y_iconst hC dL_law_1324 kI_5 ?_
  refine y_iadd hC dL_law_1325 ?_
  refine y_xld hC hX hbl (Nat.not_le_of_lt hbl) hi5 dL_law_1326 ?_
  refine y_calliV (As := [.int (xs (i + 1).toNatClampNeg), .int (xs (i + 2).toNatClampNeg), .int (xs (i + 3).toNatClampNeg), .int (xs (i + 4).toNatClampNeg), .int (xs (i + 5).toNatClampNeg)]) hC (cV_shift (cA := cA) (ad := ad) (vT := vT) (vH := vH) (vA := vA) (tK := tK) (tB := tB) (kS := kS) (vS := vS) F.1 ((xs (i + 1).toNatClampNeg)) ((xs (i + 2).toNatClampNeg)) ((xs (i + 3).toNatClampNeg)) ((xs (i + 4).toNatClampNeg)) ((xs (i + 5).toNatClampNeg)) u h1) (cwL_148 (rm := zRm 1) hC.1.2.2.2.2 rfl rfl ⟨Nat.le_of_ble_eq_true rfl, Nat.le_of_ble_eq_true rfl⟩) (Nat.le_trans (Nat.le_add_right _ _) hf.1) (Nat.le_trans (Nat.le_add_right _ _) hf.2) dL_law_1327 rfl rfl (Nat.le_of_ble_eq_true rfl) ⟨_, rfl, rfl⟩ (List.mem_append_left _ (List.mem_of_getElem? (heV_o cA ad vT vH vA u))) (fun _ h => List.mem_append_left _ h) (LF_v F) (zJ_l F) (fun _ => LF_D F) ?_
  refine y_aload_n hC dL_law_1330 rfl 2 rfl ?_
  refine y_aload_n hC dL_law_1331 rfl 0 rfl ?_
  refine y_iload_n hC dL_law_1332 rfl 3 rfl ?_
  refine y_iconst hC dL_law_1333 kI_1 ?_
  refine y_iadd hC dL_law_1334 ?_
  refine y_xld hC hX hbl (Nat.not_le_of_lt hbl) hi1 dL_law_1335 ?_
  refine y_aload_n hC dL_law_1336 rfl 0 rfl ?_
  refine y_iload_n hC dL_law_1337 rfl 3 rfl ?_
  refine y_iconst hC dL_law_1338 kI_2 ?_
  refine y_iadd hC dL_law_1339 ?_
  refine y_xld hC hX hbl (Nat.not_le_of_lt hbl) hi2 dL_law_1340 ?_
  refine y_aload_n hC dL_law_1341 rfl 0 rfl ?_
  refine y_iload_n hC dL_law_1342 rfl 3 rfl ?_
  refine y_iconst hC dL_law_1343 kI_3 ?_
  refine y_iadd hC dL_law_1344 ?_
  refine y_xld hC hX hbl (Nat.not_le_of_lt hbl) hi3 dL_law_1345 ?_
  refine y_aload_n hC dL_law_1346 rfl 0 rfl ?_
  refine y_iload_n hC dL_law_1347 rfl 3 rfl ?_
  refine y_iconst hC dL_law_1348 kI_4 ?_
  refine y_iadd hC dL_law_1349 ?_
  refine y_xld hC hX hbl (Nat.not_le_of_lt hbl) hi4 dL_law_1350 ?_
  refine y_aload_n hC dL_law_1351 rfl 0 rfl ?_
  refine y_iload_n hC dL_law_1352 rfl 3 rfl ?_
  refine y_iconst hC dL_law_1353 kI_5 ?_
  refine y_iadd hC dL_law_1354 ?_
  refine y_xld hC hX hbl (Nat.not_le_of_lt hbl) hi5 dL_law_1355 ?_
  refine y_calliV (As := [.int (xs (i + 1).toNatClampNeg), .int (xs (i + 2).toNatClampNeg), .int (xs (i + 3).toNatClampNeg), .int (xs (i + 4).toNatClampNeg), .int (xs (i + 5).toNatClampNeg)]) hC (cM_shift (cA := cA) (ad := adm) F.2.1 ((xs (i + 1).toNatClampNeg)) ((xs (i + 2).toNatClampNeg)) ((xs (i + 3).toNatClampNeg)) ((xs (i + 4).toNatClampNeg)) ((xs (i + 5).toNatClampNeg)) v h2) (cwL_152 (rm := zRm 2) hC.1.2.2.2.2 rfl rfl ⟨Nat.le_of_ble_eq_true rfl, Nat.le_of_ble_eq_true rfl⟩) (Nat.le_trans (Nat.le_add_right _ _) hf.1) (Nat.le_trans (Nat.le_add_right _ _) hf.2) dL_law_1356 rfl rfl (Nat.le_of_ble_eq_true rfl) ⟨_, rfl, rfl⟩ (List.mem_append_right _ (List.mem_of_getElem? (heM_o cA adm v))) (fun _ h => List.mem_append_right _ h) (LF_m F) (zJ_r F) (fun _ => LF_D F) ?_
  refine y_icmp_eq (tgt := 1364) (a := true) (b := false) (o := true) hC (if_pos rfl) dL_law_1359 (by decide) (fun _ => ?_) (fun h => nomatch h)
  refine yG_of (k8 := k9 + 1) (n8 := n9 + 3) (Nat.le_add_right _ _) (Nat.le_add_right _ _) ?_
  exact g ad vT vH vA (V_put_ts w1 u) (M_put_item_aside w2 v) F h3
