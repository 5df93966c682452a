/-! 09.P37: all calls over both, and the claim's start -/
theorem r2_mouth : zS_mouth Rel2 := fun x1 u v R => (pS_mouth x1 u v R.1).elim fun r h => h.elim fun w1 h => h.elim fun w2 h => ⟨r, w1, w2, h.1, h.2.1, h.2.2, R.2⟩
theorem r2_jaw : zS_jaw Rel2 := fun x1 x2 u v R => (pS_jaw x1 x2 u v R.1).elim fun r h => h.elim fun w1 h => h.elim fun w2 h => ⟨r, w1, w2, h.1, h.2.1, h.2.2, R.2⟩
theorem r2_seat : zS_seat Rel2 := fun x1 x2 u v R => (pS_seat x1 x2 u v R.1).elim fun r h => h.elim fun w1 h => h.elim fun w2 h => ⟨r, w1, w2, h.1, h.2.1, h.2.2, R.2⟩
theorem r2_of : zS_of Rel2 := fun x1 x2 u v R => (pS_of x1 x2 u v R.1).elim fun r h => ⟨r, h.1, h.2.1, R⟩
theorem r2_say : zS_say Rel2 := fun x1 u v R => (pS_say x1 u v R.1).elim fun r h => h.elim fun w1 h => h.elim fun w2 h => ⟨r, w1, w2, h.1, h.2.1, h.2.2, R.2⟩
theorem r2_feed : zS_feed Rel2 := fun x1 x2 u v R => (pS_feed x1 x2 u v R.1).elim fun r h => h.elim fun w1 h => h.elim fun w2 h => ⟨r, w1, w2, h.1, h.2.1, h.2.2, R.2⟩
theorem r2_told : zS_told Rel2 := fun x1 x2 u v R => (pS_told x1 x2 u v R.1).elim fun r h => ⟨r, h.1, h.2.1, R⟩
theorem r2_voice : zS_voice Rel2 := fun x1 x2 u v R => (pS_voice x1 x2 u v R.1).elim fun r h => h.elim fun w1 h => h.elim fun w2 h => ⟨r, w1, w2, h.1, h.2.1, h.2.2, R.2⟩
theorem r2_held : zS_held Rel2 := fun x1 x2 x3 x4 u v R => (pS_held x1 x2 x3 x4 u v R.1).elim fun r h => h.elim fun w1 h => h.elim fun w2 h => ⟨r, w1, w2, h.1, h.2.1, h.2.2, R.2⟩
theorem r2_heard : zS_heard Rel2 := fun x1 x2 x3 x4 u v R => (pS_heard x1 x2 x3 x4 u v R.1).elim fun r h => h.elim fun w1 h => h.elim fun w2 h => ⟨r, w1, w2, h.1, h.2.1, h.2.2, R.2⟩
theorem r2_houseful : zS_houseful Rel2 := fun x1 x2 u v R => (pS_houseful x1 x2 u v R.1).elim fun r h => h.elim fun w1 h => h.elim fun w2 h => ⟨r, w1, w2, h.1, h.2.1, h.2.2, R.2⟩
theorem r2_drawn : zS_drawn Rel2 := fun x1 x2 x3 u v R => (pS_drawn x1 x2 x3 u v R.1).elim fun r h => h.elim fun w1 h => h.elim fun w2 h => ⟨r, w1, w2, h.1, h.2.1, h.2.2, R.2⟩
theorem r2_latest : zS_latest Rel2 := fun x1 x2 u v R => (pS_latest x1 x2 u v R.1).elim fun r h => h.elim fun w1 h => h.elim fun w2 h => ⟨r, w1, w2, h.1, h.2.1, h.2.2, R.2⟩
theorem r2_wrong : zS_wrong Rel2 := fun x1 x2 u v R => (pS_wrong x1 x2 u v R.1).elim fun r h => h.elim fun w1 h => h.elim fun w2 h => ⟨r, w1, w2, h.1, h.2.1, h.2.2, R.2⟩
theorem r2_swap : zS_swap Rel2 := fun x1 x2 x3 u v R => (pS_swap x1 x2 x3 u v R.1).elim fun r h => h.elim fun w1 h => h.elim fun w2 h => ⟨r, w1, w2, h.1, h.2.1, h.2.2, R.2⟩
theorem r2_changed : zS_changed Rel2 := fun x1 x2 u v R => (pS_changed x1 x2 u v R.1).elim fun r h => h.elim fun w1 h => h.elim fun w2 h => ⟨r, w1, w2, h.1, h.2.1, h.2.2, R.2⟩
theorem r2_boxes : zS_boxes Rel2 := fun x1 x2 u v R => (pS_boxes x1 x2 u v R.1).elim fun r h => ⟨r, h.1, h.2.1, R⟩
theorem r2_slips : zS_slips Rel2 := fun x1 u v R => (pS_slips x1 u v R.1).elim fun r h => h.elim fun w1 h => h.elim fun w2 h => ⟨r, w1, w2, h.1, h.2.1, h.2.2, R.2⟩
theorem r2_sure : zS_sure Rel2 := fun x1 x2 x3 x4 u v R => (pS_sure x1 x2 x3 x4 u v R.1).elim fun r h => h.elim fun w1 h => h.elim fun w2 h => ⟨r, w1, w2, h.1, h.2.1, h.2.2, R.2⟩
theorem r2_changes : zS_changes Rel2 := fun x1 x2 x3 x4 u v R => (pS_changes x1 x2 x3 x4 u v R.1).elim fun r h => h.elim fun w1 h => h.elim fun w2 h => ⟨r, w1, w2, h.1, h.2.1, h.2.2, R.2⟩
theorem r2_judge : zS_judge Rel2 := fun x1 x2 x3 x4 u v R => (pS_judge x1 x2 x3 x4 u v R.1).elim fun r h => h.elim fun w1 h => h.elim fun w2 h => ⟨r, w1, w2, h.1, h.2.1, h.2.2, R.2⟩
theorem r2_image : zS_image Rel2 := fun u v R => (pS_image u v R.1).elim fun r h => h.elim fun w1 h => h.elim fun w2 h => ⟨r, w1, w2, h.1, h.2.1, h.2.2, R.2⟩
theorem r2_undo : zS_undo Rel2 := fun u v R => (pS_undo  u v R.1).elim fun r h => h.elim fun w1 h => h.elim fun w2 h => ⟨r, w1, w2, h.1, h.2.1, h.2.2, R.2⟩
theorem r2_act : zS_act Rel2 := fun x1 x2 x3 u v R => (pS_act x1 x2 x3 u v R.1).elim fun r h => h.elim fun w1 h => h.elim fun w2 h => ⟨r, w1, w2, h.1, h.2.1, h.2.2, R.2⟩
theorem r2_trace : zS_trace Rel2 := fun x1 u v R => (pS_trace x1 u v R.1).elim fun r h => ⟨r, h.1, h.2.1, R⟩
theorem r2_taken : zS_taken Rel2 := fun x1 x2 u v R => (pS_taken x1 x2 u v R.1).elim fun r h => ⟨r, h.1, h.2.1, R⟩
theorem r2_count : zS_count Rel2 := fun x1 u v R => (pS_count x1 u v R.1).elim fun r h => ⟨r, h.1, h.2.1, R⟩
theorem r2_tape : zS_tape Rel2 := fun x1 x2 x3 u v R => (pS_tape x1 x2 x3 u v R.1).elim fun r h => h.elim fun w1 h => h.elim fun w2 h => ⟨r, w1, w2, h.1, h.2.1, h.2.2, R.2⟩
theorem r2_item : zS_item Rel2 := fun x1 x2 x3 u v R => (pS_item x1 x2 x3 u v R.1).elim fun r h => h.elim fun w1 h => h.elim fun w2 h => ⟨r, w1, w2, h.1, h.2.1, h.2.2, R.2⟩
theorem r2_read : zS_read Rel2 := fun x1 x2 u v R => (pS_read x1 x2 u v R.1).elim fun r h => ⟨r, h.1, h.2.1, R⟩
theorem r2_shift : zS_shift Rel2 := fun x1 x2 x3 x4 x5 u v R => (pS_shift x1 x2 x3 x4 x5 u v R.1).elim fun r h => h.elim fun w1 h => h.elim fun w2 h => ⟨r, w1, w2, h.1, h.2.1, h.2.2, R.2⟩
theorem Rel2_0 : Rel2 V_u0 M_u0 := ⟨Rel_0, fun f hf => absurd hf (Nat.not_lt_zero f)⟩
theorem sim_2 : zSim Rel2 := ⟨r2_mouth, r2_jaw, r2_seat, r2_of, r2_say, r2_feed, pS_house, r2_told, r2_voice, r2_held, r2_heard, r2_houseful, r2_drawn, r2_latest, r2_wrong, r2_swap, r2_changed, r2_boxes, r2_slips, r2_sure, r2_changes, r2_judge, r2_image, r2_undo, r2_act, r2_trace, r2_taken, r2_count, r2_tape, r2_item, r2_read, r2_shift⟩
