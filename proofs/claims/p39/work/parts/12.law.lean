theorem tp_12law_0 : (yX9_time.cls ≠ "java/lang/invoke/MethodHandle" ∧ yX9_time.cls ≠ "java/lang/invoke/VarHandle" ∧ (parseMethodDescriptor yX9_time.desc).map (fun d => d.parameters.length) = some 1) ∧ (yX10_time.cls ≠ "java/lang/invoke/MethodHandle" ∧ yX10_time.cls ≠ "java/lang/invoke/VarHandle" ∧ (parseMethodDescriptor yX10_time.desc).map (fun d => d.parameters.length) = some 1) ∧ (yX9_rate.cls ≠ "java/lang/invoke/MethodHandle" ∧ yX9_rate.cls ≠ "java/lang/invoke/VarHandle" ∧ (parseMethodDescriptor yX9_rate.desc).map (fun d => d.parameters.length) = some 2) ∧ (yX10_rate.cls ≠ "java/lang/invoke/MethodHandle" ∧ yX10_rate.cls ≠ "java/lang/invoke/VarHandle" ∧ (parseMethodDescriptor yX10_rate.desc).map (fun d => d.parameters.length) = some 2) ∧ (yX9_lots.cls ≠ "java/lang/invoke/MethodHandle" ∧ yX9_lots.cls ≠ "java/lang/invoke/VarHandle" ∧ (parseMethodDescriptor yX9_lots.desc).map (fun d => d.parameters.length) = some 1) ∧ (yX10_lots.cls ≠ "java/lang/invoke/MethodHandle" ∧ yX10_lots.cls ≠ "java/lang/invoke/VarHandle" ∧ (parseMethodDescriptor yX10_lots.desc).map (fun d => d.parameters.length) = some 1) ∧ (yX9_closing.cls ≠ "java/lang/invoke/MethodHandle" ∧ yX9_closing.cls ≠ "java/lang/invoke/VarHandle" ∧ (parseMethodDescriptor yX9_closing.desc).map (fun d => d.parameters.length) = some 1) ∧ (yX10_closing.cls ≠ "java/lang/invoke/MethodHandle" ∧ yX10_closing.cls ≠ "java/lang/invoke/VarHandle" ∧ (parseMethodDescriptor yX10_closing.desc).map (fun d => d.parameters.length) = some 1) ∧ (yX9_bid.cls ≠ "java/lang/invoke/MethodHandle" ∧ yX9_bid.cls ≠ "java/lang/invoke/VarHandle" ∧ (parseMethodDescriptor yX9_bid.desc).map (fun d => d.parameters.length) = some 9) ∧ (yX10_bid.cls ≠ "java/lang/invoke/MethodHandle" ∧ yX10_bid.cls ≠ "java/lang/invoke/VarHandle" ∧ (parseMethodDescriptor yX10_bid.desc).map (fun d => d.parameters.length) = some 9) := by decide +kernel
theorem tp_12law_10 : (yX9_withdraw.cls ≠ "java/lang/invoke/MethodHandle" ∧ yX9_withdraw.cls ≠ "java/lang/invoke/VarHandle" ∧ (parseMethodDescriptor yX9_withdraw.desc).map (fun d => d.parameters.length) = some 2) ∧ (yX10_withdraw.cls ≠ "java/lang/invoke/MethodHandle" ∧ yX10_withdraw.cls ≠ "java/lang/invoke/VarHandle" ∧ (parseMethodDescriptor yX10_withdraw.desc).map (fun d => d.parameters.length) = some 2) ∧ (yX9_set.cls ≠ "java/lang/invoke/MethodHandle" ∧ yX9_set.cls ≠ "java/lang/invoke/VarHandle" ∧ (parseMethodDescriptor yX9_set.desc).map (fun d => d.parameters.length) = some 2) ∧ (yX10_set.cls ≠ "java/lang/invoke/MethodHandle" ∧ yX10_set.cls ≠ "java/lang/invoke/VarHandle" ∧ (parseMethodDescriptor yX10_set.desc).map (fun d => d.parameters.length) = some 2) ∧ (yX9_price.cls ≠ "java/lang/invoke/MethodHandle" ∧ yX9_price.cls ≠ "java/lang/invoke/VarHandle" ∧ (parseMethodDescriptor yX9_price.desc).map (fun d => d.parameters.length) = some 2) ∧ (yX10_price.cls ≠ "java/lang/invoke/MethodHandle" ∧ yX10_price.cls ≠ "java/lang/invoke/VarHandle" ∧ (parseMethodDescriptor yX10_price.desc).map (fun d => d.parameters.length) = some 2) ∧ (yX9_note.cls ≠ "java/lang/invoke/MethodHandle" ∧ yX9_note.cls ≠ "java/lang/invoke/VarHandle" ∧ (parseMethodDescriptor yX9_note.desc).map (fun d => d.parameters.length) = some 4) ∧ (yX10_note.cls ≠ "java/lang/invoke/MethodHandle" ∧ yX10_note.cls ≠ "java/lang/invoke/VarHandle" ∧ (parseMethodDescriptor yX10_note.desc).map (fun d => d.parameters.length) = some 4) ∧ (yX9_bar.cls ≠ "java/lang/invoke/MethodHandle" ∧ yX9_bar.cls ≠ "java/lang/invoke/VarHandle" ∧ (parseMethodDescriptor yX9_bar.desc).map (fun d => d.parameters.length) = some 3) ∧ (yX10_bar.cls ≠ "java/lang/invoke/MethodHandle" ∧ yX10_bar.cls ≠ "java/lang/invoke/VarHandle" ∧ (parseMethodDescriptor yX10_bar.desc).map (fun d => d.parameters.length) = some 3) := by decide +kernel
theorem tp_12law_20 : (yX9_quality.cls ≠ "java/lang/invoke/MethodHandle" ∧ yX9_quality.cls ≠ "java/lang/invoke/VarHandle" ∧ (parseMethodDescriptor yX9_quality.desc).map (fun d => d.parameters.length) = some 3) ∧ (yX10_quality.cls ≠ "java/lang/invoke/MethodHandle" ∧ yX10_quality.cls ≠ "java/lang/invoke/VarHandle" ∧ (parseMethodDescriptor yX10_quality.desc).map (fun d => d.parameters.length) = some 3) ∧ (yX9_feed.cls ≠ "java/lang/invoke/MethodHandle" ∧ yX9_feed.cls ≠ "java/lang/invoke/VarHandle" ∧ (parseMethodDescriptor yX9_feed.desc).map (fun d => d.parameters.length) = some 2) ∧ (yX10_feed.cls ≠ "java/lang/invoke/MethodHandle" ∧ yX10_feed.cls ≠ "java/lang/invoke/VarHandle" ∧ (parseMethodDescriptor yX10_feed.desc).map (fun d => d.parameters.length) = some 2) ∧ (yX9_formula.cls ≠ "java/lang/invoke/MethodHandle" ∧ yX9_formula.cls ≠ "java/lang/invoke/VarHandle" ∧ (parseMethodDescriptor yX9_formula.desc).map (fun d => d.parameters.length) = some 0) ∧ (yX10_formula.cls ≠ "java/lang/invoke/MethodHandle" ∧ yX10_formula.cls ≠ "java/lang/invoke/VarHandle" ∧ (parseMethodDescriptor yX10_formula.desc).map (fun d => d.parameters.length) = some 0) ∧ (yX9_points.cls ≠ "java/lang/invoke/MethodHandle" ∧ yX9_points.cls ≠ "java/lang/invoke/VarHandle" ∧ (parseMethodDescriptor yX9_points.desc).map (fun d => d.parameters.length) = some 3) ∧ (yX10_points.cls ≠ "java/lang/invoke/MethodHandle" ∧ yX10_points.cls ≠ "java/lang/invoke/VarHandle" ∧ (parseMethodDescriptor yX10_points.desc).map (fun d => d.parameters.length) = some 3) ∧ (yX9_order.cls ≠ "java/lang/invoke/MethodHandle" ∧ yX9_order.cls ≠ "java/lang/invoke/VarHandle" ∧ (parseMethodDescriptor yX9_order.desc).map (fun d => d.parameters.length) = some 2) ∧ (yX10_order.cls ≠ "java/lang/invoke/MethodHandle" ∧ yX10_order.cls ≠ "java/lang/invoke/VarHandle" ∧ (parseMethodDescriptor yX10_order.desc).map (fun d => d.parameters.length) = some 2) := by decide +kernel
theorem tp_12law_30 : (yX9_gain.cls ≠ "java/lang/invoke/MethodHandle" ∧ yX9_gain.cls ≠ "java/lang/invoke/VarHandle" ∧ (parseMethodDescriptor yX9_gain.desc).map (fun d => d.parameters.length) = some 4) ∧ (yX10_gain.cls ≠ "java/lang/invoke/MethodHandle" ∧ yX10_gain.cls ≠ "java/lang/invoke/VarHandle" ∧ (parseMethodDescriptor yX10_gain.desc).map (fun d => d.parameters.length) = some 4) ∧ (yX9_turned.cls ≠ "java/lang/invoke/MethodHandle" ∧ yX9_turned.cls ≠ "java/lang/invoke/VarHandle" ∧ (parseMethodDescriptor yX9_turned.desc).map (fun d => d.parameters.length) = some 3) ∧ (yX10_turned.cls ≠ "java/lang/invoke/MethodHandle" ∧ yX10_turned.cls ≠ "java/lang/invoke/VarHandle" ∧ (parseMethodDescriptor yX10_turned.desc).map (fun d => d.parameters.length) = some 3) ∧ (yX9_low.cls ≠ "java/lang/invoke/MethodHandle" ∧ yX9_low.cls ≠ "java/lang/invoke/VarHandle" ∧ (parseMethodDescriptor yX9_low.desc).map (fun d => d.parameters.length) = some 2) ∧ (yX10_low.cls ≠ "java/lang/invoke/MethodHandle" ∧ yX10_low.cls ≠ "java/lang/invoke/VarHandle" ∧ (parseMethodDescriptor yX10_low.desc).map (fun d => d.parameters.length) = some 2) ∧ (yX9_ask.cls ≠ "java/lang/invoke/MethodHandle" ∧ yX9_ask.cls ≠ "java/lang/invoke/VarHandle" ∧ (parseMethodDescriptor yX9_ask.desc).map (fun d => d.parameters.length) = some 3) ∧ (yX10_ask.cls ≠ "java/lang/invoke/MethodHandle" ∧ yX10_ask.cls ≠ "java/lang/invoke/VarHandle" ∧ (parseMethodDescriptor yX10_ask.desc).map (fun d => d.parameters.length) = some 3) ∧ (yX9_answer.cls ≠ "java/lang/invoke/MethodHandle" ∧ yX9_answer.cls ≠ "java/lang/invoke/VarHandle" ∧ (parseMethodDescriptor yX9_answer.desc).map (fun d => d.parameters.length) = some 2) ∧ (yX10_answer.cls ≠ "java/lang/invoke/MethodHandle" ∧ yX10_answer.cls ≠ "java/lang/invoke/VarHandle" ∧ (parseMethodDescriptor yX10_answer.desc).map (fun d => d.parameters.length) = some 2) := by decide +kernel
theorem tp_12law_40 : (yX9_out.cls ≠ "java/lang/invoke/MethodHandle" ∧ yX9_out.cls ≠ "java/lang/invoke/VarHandle" ∧ (parseMethodDescriptor yX9_out.desc).map (fun d => d.parameters.length) = some 3) ∧ (yX10_out.cls ≠ "java/lang/invoke/MethodHandle" ∧ yX10_out.cls ≠ "java/lang/invoke/VarHandle" ∧ (parseMethodDescriptor yX10_out.desc).map (fun d => d.parameters.length) = some 3) ∧ (yX9_most.cls ≠ "java/lang/invoke/MethodHandle" ∧ yX9_most.cls ≠ "java/lang/invoke/VarHandle" ∧ (parseMethodDescriptor yX9_most.desc).map (fun d => d.parameters.length) = some 2) ∧ (yX10_most.cls ≠ "java/lang/invoke/MethodHandle" ∧ yX10_most.cls ≠ "java/lang/invoke/VarHandle" ∧ (parseMethodDescriptor yX10_most.desc).map (fun d => d.parameters.length) = some 2) ∧ (yX9_rebate.cls ≠ "java/lang/invoke/MethodHandle" ∧ yX9_rebate.cls ≠ "java/lang/invoke/VarHandle" ∧ (parseMethodDescriptor yX9_rebate.desc).map (fun d => d.parameters.length) = some 3) ∧ (yX10_rebate.cls ≠ "java/lang/invoke/MethodHandle" ∧ yX10_rebate.cls ≠ "java/lang/invoke/VarHandle" ∧ (parseMethodDescriptor yX10_rebate.desc).map (fun d => d.parameters.length) = some 3) ∧ (yX9_whole.cls ≠ "java/lang/invoke/MethodHandle" ∧ yX9_whole.cls ≠ "java/lang/invoke/VarHandle" ∧ (parseMethodDescriptor yX9_whole.desc).map (fun d => d.parameters.length) = some 1) ∧ (yX10_whole.cls ≠ "java/lang/invoke/MethodHandle" ∧ yX10_whole.cls ≠ "java/lang/invoke/VarHandle" ∧ (parseMethodDescriptor yX10_whole.desc).map (fun d => d.parameters.length) = some 1) ∧ (yX9_winner.cls ≠ "java/lang/invoke/MethodHandle" ∧ yX9_winner.cls ≠ "java/lang/invoke/VarHandle" ∧ (parseMethodDescriptor yX9_winner.desc).map (fun d => d.parameters.length) = some 1) ∧ (yX10_winner.cls ≠ "java/lang/invoke/MethodHandle" ∧ yX10_winner.cls ≠ "java/lang/invoke/VarHandle" ∧ (parseMethodDescriptor yX10_winner.desc).map (fun d => d.parameters.length) = some 1) := by decide +kernel
theorem tp_12law_50 : (yX9_award.cls ≠ "java/lang/invoke/MethodHandle" ∧ yX9_award.cls ≠ "java/lang/invoke/VarHandle" ∧ (parseMethodDescriptor yX9_award.desc).map (fun d => d.parameters.length) = some 1) ∧ (yX10_award.cls ≠ "java/lang/invoke/MethodHandle" ∧ yX10_award.cls ≠ "java/lang/invoke/VarHandle" ∧ (parseMethodDescriptor yX10_award.desc).map (fun d => d.parameters.length) = some 1) ∧ (yX9_awarded.cls ≠ "java/lang/invoke/MethodHandle" ∧ yX9_awarded.cls ≠ "java/lang/invoke/VarHandle" ∧ (parseMethodDescriptor yX9_awarded.desc).map (fun d => d.parameters.length) = some 1) ∧ (yX10_awarded.cls ≠ "java/lang/invoke/MethodHandle" ∧ yX10_awarded.cls ≠ "java/lang/invoke/VarHandle" ∧ (parseMethodDescriptor yX10_awarded.desc).map (fun d => d.parameters.length) = some 1) ∧ (yX9_challenge.cls ≠ "java/lang/invoke/MethodHandle" ∧ yX9_challenge.cls ≠ "java/lang/invoke/VarHandle" ∧ (parseMethodDescriptor yX9_challenge.desc).map (fun d => d.parameters.length) = some 2) ∧ (yX10_challenge.cls ≠ "java/lang/invoke/MethodHandle" ∧ yX10_challenge.cls ≠ "java/lang/invoke/VarHandle" ∧ (parseMethodDescriptor yX10_challenge.desc).map (fun d => d.parameters.length) = some 2) ∧ (yX9_judge.cls ≠ "java/lang/invoke/MethodHandle" ∧ yX9_judge.cls ≠ "java/lang/invoke/VarHandle" ∧ (parseMethodDescriptor yX9_judge.desc).map (fun d => d.parameters.length) = some 2) ∧ (yX10_judge.cls ≠ "java/lang/invoke/MethodHandle" ∧ yX10_judge.cls ≠ "java/lang/invoke/VarHandle" ∧ (parseMethodDescriptor yX10_judge.desc).map (fun d => d.parameters.length) = some 2) ∧ (yX9_sign.cls ≠ "java/lang/invoke/MethodHandle" ∧ yX9_sign.cls ≠ "java/lang/invoke/VarHandle" ∧ (parseMethodDescriptor yX9_sign.desc).map (fun d => d.parameters.length) = some 0) ∧ (yX10_sign.cls ≠ "java/lang/invoke/MethodHandle" ∧ yX10_sign.cls ≠ "java/lang/invoke/VarHandle" ∧ (parseMethodDescriptor yX10_sign.desc).map (fun d => d.parameters.length) = some 0) := by decide +kernel
theorem tp_12law_60 : (yX9_change.cls ≠ "java/lang/invoke/MethodHandle" ∧ yX9_change.cls ≠ "java/lang/invoke/VarHandle" ∧ (parseMethodDescriptor yX9_change.desc).map (fun d => d.parameters.length) = some 2) ∧ (yX10_change.cls ≠ "java/lang/invoke/MethodHandle" ∧ yX10_change.cls ≠ "java/lang/invoke/VarHandle" ∧ (parseMethodDescriptor yX10_change.desc).map (fun d => d.parameters.length) = some 2) ∧ (yX9_likeness.cls ≠ "java/lang/invoke/MethodHandle" ∧ yX9_likeness.cls ≠ "java/lang/invoke/VarHandle" ∧ (parseMethodDescriptor yX9_likeness.desc).map (fun d => d.parameters.length) = some 3) ∧ (yX10_likeness.cls ≠ "java/lang/invoke/MethodHandle" ∧ yX10_likeness.cls ≠ "java/lang/invoke/VarHandle" ∧ (parseMethodDescriptor yX10_likeness.desc).map (fun d => d.parameters.length) = some 3) ∧ (yX9_chance.cls ≠ "java/lang/invoke/MethodHandle" ∧ yX9_chance.cls ≠ "java/lang/invoke/VarHandle" ∧ (parseMethodDescriptor yX9_chance.desc).map (fun d => d.parameters.length) = some 3) ∧ (yX10_chance.cls ≠ "java/lang/invoke/MethodHandle" ∧ yX10_chance.cls ≠ "java/lang/invoke/VarHandle" ∧ (parseMethodDescriptor yX10_chance.desc).map (fun d => d.parameters.length) = some 3) ∧ (yX9_ring.cls ≠ "java/lang/invoke/MethodHandle" ∧ yX9_ring.cls ≠ "java/lang/invoke/VarHandle" ∧ (parseMethodDescriptor yX9_ring.desc).map (fun d => d.parameters.length) = some 2) ∧ (yX10_ring.cls ≠ "java/lang/invoke/MethodHandle" ∧ yX10_ring.cls ≠ "java/lang/invoke/VarHandle" ∧ (parseMethodDescriptor yX10_ring.desc).map (fun d => d.parameters.length) = some 2) ∧ (yX9_join.cls ≠ "java/lang/invoke/MethodHandle" ∧ yX9_join.cls ≠ "java/lang/invoke/VarHandle" ∧ (parseMethodDescriptor yX9_join.desc).map (fun d => d.parameters.length) = some 2) ∧ (yX10_join.cls ≠ "java/lang/invoke/MethodHandle" ∧ yX10_join.cls ≠ "java/lang/invoke/VarHandle" ∧ (parseMethodDescriptor yX10_join.desc).map (fun d => d.parameters.length) = some 2) := by decide +kernel
theorem tp_12law_70 : (yX9_call.cls ≠ "java/lang/invoke/MethodHandle" ∧ yX9_call.cls ≠ "java/lang/invoke/VarHandle" ∧ (parseMethodDescriptor yX9_call.desc).map (fun d => d.parameters.length) = some 1) ∧ (yX10_call.cls ≠ "java/lang/invoke/MethodHandle" ∧ yX10_call.cls ≠ "java/lang/invoke/VarHandle" ∧ (parseMethodDescriptor yX10_call.desc).map (fun d => d.parameters.length) = some 1) ∧ (yX9_decline.cls ≠ "java/lang/invoke/MethodHandle" ∧ yX9_decline.cls ≠ "java/lang/invoke/VarHandle" ∧ (parseMethodDescriptor yX9_decline.desc).map (fun d => d.parameters.length) = some 0) ∧ (yX10_decline.cls ≠ "java/lang/invoke/MethodHandle" ∧ yX10_decline.cls ≠ "java/lang/invoke/VarHandle" ∧ (parseMethodDescriptor yX10_decline.desc).map (fun d => d.parameters.length) = some 0) ∧ (yX9_room.cls ≠ "java/lang/invoke/MethodHandle" ∧ yX9_room.cls ≠ "java/lang/invoke/VarHandle" ∧ (parseMethodDescriptor yX9_room.desc).map (fun d => d.parameters.length) = some 1) ∧ (yX10_room.cls ≠ "java/lang/invoke/MethodHandle" ∧ yX10_room.cls ≠ "java/lang/invoke/VarHandle" ∧ (parseMethodDescriptor yX10_room.desc).map (fun d => d.parameters.length) = some 1) ∧ (yX9_count.cls ≠ "java/lang/invoke/MethodHandle" ∧ yX9_count.cls ≠ "java/lang/invoke/VarHandle" ∧ (parseMethodDescriptor yX9_count.desc).map (fun d => d.parameters.length) = some 1) ∧ (yX10_count.cls ≠ "java/lang/invoke/MethodHandle" ∧ yX10_count.cls ≠ "java/lang/invoke/VarHandle" ∧ (parseMethodDescriptor yX10_count.desc).map (fun d => d.parameters.length) = some 1) := by decide +kernel
theorem ml_L_13 : Cond.methodLink RL 13 yX9_time ∈ lw_g := gm T_2_140.2.1 rfl
theorem kv_X9_time : lkV yX9_time cX9_time 2 (some .int) 1 := ⟨gm T_2_140.2.2.1 rfl, gm T_2_140.2.2.2.1 rfl, gm T_1_0.2.1 rfl, gm T_2_140.2.2.2.2.1 rfl, tp_12law_0.1⟩
theorem ml_L_17 : Cond.methodLink RL 17 yX10_time ∈ lw_g := gm T_5_210.1 rfl
theorem kv_X10_time : lkV yX10_time cX10_time 2 (some .int) 1 := ⟨gm T_5_210.2.1 rfl, gm T_5_210.2.2.1 rfl, gm T_1_10.2.1 rfl, gm T_5_210.2.2.2.1 rfl, tp_12law_0.2.1⟩
theorem ml_L_18 : Cond.methodLink RL 18 yX9_rate ∈ lw_g := gm T_2_150.1 rfl
theorem kv_X9_rate : lkV yX9_rate cX9_rate 5 (some .int) 2 := ⟨gm T_2_150.2.1 rfl, gm T_2_150.2.2.1 rfl, gm T_1_0.2.1 rfl, gm T_2_150.2.2.2.1 rfl, tp_12law_0.2.2.1⟩
theorem ml_L_22 : Cond.methodLink RL 22 yX10_rate ∈ lw_g := gm T_5_210.2.2.2.2.2.2.2.2.2.1 rfl
theorem kv_X10_rate : lkV yX10_rate cX10_rate 4 (some .int) 2 := ⟨gm T_5_220.1 rfl, gm T_5_220.2.1 rfl, gm T_1_10.2.1 rfl, gm T_5_220.2.2.1 rfl, tp_12law_0.2.2.2.1⟩
theorem ml_L_23 : Cond.methodLink RL 23 yX9_lots ∈ lw_g := gm T_2_160.2.2.1 rfl
theorem kv_X9_lots : lkV yX9_lots cX9_lots 4 (some .int) 1 := ⟨gm T_2_160.2.2.2.1 rfl, gm T_2_160.2.2.2.2.1 rfl, gm T_1_0.2.1 rfl, gm T_2_160.2.2.2.2.2.1 rfl, tp_12law_0.2.2.2.2.1⟩
theorem ml_L_26 : Cond.methodLink RL 26 yX10_lots ∈ lw_g := gm T_5_230.2.1 rfl
theorem kv_X10_lots : lkV yX10_lots cX10_lots 4 (some .int) 1 := ⟨gm T_5_230.2.2.1 rfl, gm T_5_230.2.2.2.1 rfl, gm T_1_10.2.1 rfl, gm T_5_230.2.2.2.2.1 rfl, tp_12law_0.2.2.2.2.2.1⟩
theorem ml_L_27 : Cond.methodLink RL 27 yX9_closing ∈ lw_g := gm T_2_170.2.2.2.2.1 rfl
theorem kv_X9_closing : lkV yX9_closing cX9_closing 3 (some .int) 1 := ⟨gm T_2_170.2.2.2.2.2.1 rfl, gm T_2_170.2.2.2.2.2.2.1 rfl, gm T_1_0.2.1 rfl, gm T_2_170.2.2.2.2.2.2.2.1 rfl, tp_12law_0.2.2.2.2.2.2.1⟩
theorem ml_L_30 : Cond.methodLink RL 30 yX10_closing ∈ lw_g := gm T_5_230.2.2.2.2.2.1 rfl
theorem kv_X10_closing : lkV yX10_closing cX10_closing 2 (some .int) 1 := ⟨gm T_5_230.2.2.2.2.2.2.1 rfl, gm T_5_230.2.2.2.2.2.2.2.1 rfl, gm T_1_10.2.1 rfl, gm T_5_230.2.2.2.2.2.2.2.2.1 rfl, tp_12law_0.2.2.2.2.2.2.2.1⟩
theorem ml_L_31 : Cond.methodLink RL 31 yX9_bid ∈ lw_g := gm T_2_170.2.2.2.2.2.2.2.2.1 rfl
theorem kv_X9_bid : lkV yX9_bid cX9_bid 14 (some .int) 9 := ⟨gm T_2_170.2.2.2.2.2.2.2.2.2.1 rfl, gm T_2_180.1 rfl, gm T_1_0.2.1 rfl, gm T_2_180.2.1 rfl, tp_12law_0.2.2.2.2.2.2.2.2.1⟩
theorem ml_L_35 : Cond.methodLink RL 35 yX10_bid ∈ lw_g := gm T_5_230.2.2.2.2.2.2.2.2.2.1 rfl
theorem kv_X10_bid : lkV yX10_bid cX10_bid 13 (some .int) 9 := ⟨gm T_6_0.1 rfl, gm T_6_0.2.1 rfl, gm T_1_10.2.1 rfl, gm T_6_0.2.2.1 rfl, tp_12law_0.2.2.2.2.2.2.2.2.2⟩
theorem ml_L_36 : Cond.methodLink RL 36 yX9_withdraw ∈ lw_g := gm T_2_210.2.2.1 rfl
theorem kv_X9_withdraw : lkV yX9_withdraw cX9_withdraw 4 (some .int) 2 := ⟨gm T_2_210.2.2.2.1 rfl, gm T_2_210.2.2.2.2.1 rfl, gm T_1_0.2.1 rfl, gm T_2_210.2.2.2.2.2.1 rfl, tp_12law_10.1⟩
theorem ml_L_39 : Cond.methodLink RL 39 yX10_withdraw ∈ lw_g := gm T_6_10.2.2.2.2.2.1 rfl
theorem kv_X10_withdraw : lkV yX10_withdraw cX10_withdraw 4 (some .int) 2 := ⟨gm T_6_10.2.2.2.2.2.2.1 rfl, gm T_6_10.2.2.2.2.2.2.2.1 rfl, gm T_1_10.2.1 rfl, gm T_6_10.2.2.2.2.2.2.2.2.1 rfl, tp_12law_10.2.1⟩
theorem ml_L_40 : Cond.methodLink RL 40 yX9_set ∈ lw_g := gm T_2_210.2.2.2.2.2.2.1 rfl
theorem kv_X9_set : lkV yX9_set cX9_set 5 (some .int) 2 := ⟨gm T_2_210.2.2.2.2.2.2.2.1 rfl, gm T_2_210.2.2.2.2.2.2.2.2.1 rfl, gm T_1_0.2.1 rfl, gm T_2_210.2.2.2.2.2.2.2.2.2.1 rfl, tp_12law_10.2.2.1⟩
theorem ml_L_43 : Cond.methodLink RL 43 yX10_set ∈ lw_g := gm T_6_20.2.2.2.1 rfl
theorem kv_X10_set : lkV yX10_set cX10_set 4 (some .int) 2 := ⟨gm T_6_20.2.2.2.2.1 rfl, gm T_6_20.2.2.2.2.2.1 rfl, gm T_1_10.2.1 rfl, gm T_6_20.2.2.2.2.2.2.1 rfl, tp_12law_10.2.2.2.1⟩
theorem ml_L_44 : Cond.methodLink RL 44 yX9_price ∈ lw_g := gm T_2_220.1 rfl
theorem kv_X9_price : lkV yX9_price cX9_price 4 (some .int) 2 := ⟨gm T_2_220.2.1 rfl, gm T_2_220.2.2.1 rfl, gm T_1_0.2.1 rfl, gm T_2_220.2.2.2.1 rfl, tp_12law_10.2.2.2.2.1⟩
theorem ml_L_47 : Cond.methodLink RL 47 yX10_price ∈ lw_g := gm T_6_20.2.2.2.2.2.2.2.1 rfl
theorem kv_X10_price : lkV yX10_price cX10_price 4 (some .int) 2 := ⟨gm T_6_20.2.2.2.2.2.2.2.2.1 rfl, gm T_6_20.2.2.2.2.2.2.2.2.2.1 rfl, gm T_1_10.2.1 rfl, gm T_6_30.1 rfl, tp_12law_10.2.2.2.2.2.1⟩
theorem ml_L_48 : Cond.methodLink RL 48 yX9_note ∈ lw_g := gm T_3_0.2.1 rfl
theorem kv_X9_note : lkV yX9_note cX9_note 7 (some .int) 4 := ⟨gm T_3_0.2.2.1 rfl, gm T_3_0.2.2.2.1 rfl, gm T_1_0.2.1 rfl, gm T_3_0.2.2.2.2.1 rfl, tp_12law_10.2.2.2.2.2.2.1⟩
theorem ml_L_52 : Cond.methodLink RL 52 yX10_note ∈ lw_g := gm T_6_40.2.1 rfl
theorem kv_X10_note : lkV yX10_note cX10_note 8 (some .int) 4 := ⟨gm T_6_40.2.2.1 rfl, gm T_6_40.2.2.2.1 rfl, gm T_1_10.2.1 rfl, gm T_6_40.2.2.2.2.1 rfl, tp_12law_10.2.2.2.2.2.2.2.1⟩
theorem ml_L_53 : Cond.methodLink RL 53 yX9_bar ∈ lw_g := gm T_3_20.2.2.2.2.1 rfl
theorem kv_X9_bar : lkV yX9_bar cX9_bar 4 (some .int) 3 := ⟨gm T_3_20.2.2.2.2.2.1 rfl, gm T_3_20.2.2.2.2.2.2.1 rfl, gm T_1_0.2.1 rfl, gm T_3_20.2.2.2.2.2.2.2.1 rfl, tp_12law_10.2.2.2.2.2.2.2.2.1⟩
theorem ml_L_57 : Cond.methodLink RL 57 yX10_bar ∈ lw_g := gm T_6_60.1 rfl
theorem kv_X10_bar : lkV yX10_bar cX10_bar 5 (some .int) 3 := ⟨gm T_6_60.2.1 rfl, gm T_6_60.2.2.1 rfl, gm T_1_10.2.1 rfl, gm T_6_60.2.2.2.1 rfl, tp_12law_10.2.2.2.2.2.2.2.2.2⟩
theorem ml_L_58 : Cond.methodLink RL 58 yX9_quality ∈ lw_g := gm T_3_30.2.2.1 rfl
theorem kv_X9_quality : lkV yX9_quality cX9_quality 4 (some .int) 3 := ⟨gm T_3_30.2.2.2.1 rfl, gm T_3_30.2.2.2.2.1 rfl, gm T_1_0.2.1 rfl, gm T_3_30.2.2.2.2.2.1 rfl, tp_12law_20.1⟩
theorem ml_L_62 : Cond.methodLink RL 62 yX10_quality ∈ lw_g := gm T_6_60.2.2.2.2.1 rfl
theorem kv_X10_quality : lkV yX10_quality cX10_quality 5 (some .int) 3 := ⟨gm T_6_60.2.2.2.2.2.1 rfl, gm T_6_60.2.2.2.2.2.2.1 rfl, gm T_1_10.2.1 rfl, gm T_6_60.2.2.2.2.2.2.2.1 rfl, tp_12law_20.2.1⟩
theorem ct_L_63 : Cond.constantLong RL 63 (4294967295) ∈ lw_g := gm T_7_70.2.1 rfl
theorem ml_L_65 : Cond.methodLink RL 65 yX9_feed ∈ lw_g := gm T_3_70.2.2.2.2.2.2.2.2.2.1 rfl
theorem kv_X9_feed : lkV yX9_feed cX9_feed 5 (some .int) 2 := ⟨gm T_3_80.1 rfl, gm T_3_80.2.1 rfl, gm T_1_0.2.1 rfl, gm T_3_80.2.2.1 rfl, tp_12law_20.2.2.1⟩
theorem ml_L_69 : Cond.methodLink RL 69 yX10_feed ∈ lw_g := gm T_6_70.2.2.2.2.2.2.2.2.2.1 rfl
theorem kv_X10_feed : lkV yX10_feed cX10_feed 5 (some .int) 2 := ⟨gm T_6_80.1 rfl, gm T_6_80.2.1 rfl, gm T_1_10.2.1 rfl, gm T_6_80.2.2.1 rfl, tp_12law_20.2.2.2.1⟩
theorem ml_L_70 : Cond.methodLink RL 70 yX9_formula ∈ lw_g := gm T_3_80.2.2.2.2.2.2.2.2.1 rfl
theorem kv_X9_formula : lkV yX9_formula cX9_formula 1 (some .int) 0 := ⟨gm T_3_80.2.2.2.2.2.2.2.2.2.1 rfl, gm T_3_90.1 rfl, gm T_1_0.2.1 rfl, gm T_3_90.2.1 rfl, tp_12law_20.2.2.2.2.1⟩
theorem ml_L_74 : Cond.methodLink RL 74 yX10_formula ∈ lw_g := gm T_6_80.2.2.2.2.1 rfl
theorem kv_X10_formula : lkV yX10_formula cX10_formula 3 (some .int) 0 := ⟨gm T_6_80.2.2.2.2.2.1 rfl, gm T_6_80.2.2.2.2.2.2.1 rfl, gm T_1_10.2.1 rfl, gm T_6_80.2.2.2.2.2.2.2.1 rfl, tp_12law_20.2.2.2.2.2.1⟩
theorem ml_L_75 : Cond.methodLink RL 75 yX9_points ∈ lw_g := gm T_3_140.2.1 rfl
theorem kv_X9_points : lkV yX9_points cX9_points 4 (some .long) 3 := ⟨gm T_3_140.2.2.1 rfl, gm T_3_140.2.2.2.1 rfl, gm T_1_0.2.1 rfl, gm T_3_140.2.2.2.2.1 rfl, tp_12law_20.2.2.2.2.2.2.1⟩
theorem ml_L_79 : Cond.methodLink RL 79 yX10_points ∈ lw_g := gm T_6_130.2.2.2.1 rfl
theorem kv_X10_points : lkV yX10_points cX10_points 4 (some .long) 3 := ⟨gm T_6_130.2.2.2.2.1 rfl, gm T_6_130.2.2.2.2.2.1 rfl, gm T_1_10.2.1 rfl, gm T_6_130.2.2.2.2.2.2.1 rfl, tp_12law_20.2.2.2.2.2.2.2.1⟩
theorem ml_L_80 : Cond.methodLink RL 80 yX9_order ∈ lw_g := gm T_3_160.2.2.2.2.2.2.2.1 rfl
theorem kv_X9_order : lkV yX9_order cX9_order 3 (some .int) 2 := ⟨gm T_3_160.2.2.2.2.2.2.2.2.1 rfl, gm T_3_160.2.2.2.2.2.2.2.2.2.1 rfl, gm T_1_0.2.1 rfl, gm T_3_170.1 rfl, tp_12law_20.2.2.2.2.2.2.2.2.1⟩
theorem ml_L_83 : Cond.methodLink RL 83 yX10_order ∈ lw_g := gm T_6_150.1 rfl
theorem kv_X10_order : lkV yX10_order cX10_order 3 (some .int) 2 := ⟨gm T_6_150.2.1 rfl, gm T_6_150.2.2.1 rfl, gm T_1_10.2.1 rfl, gm T_6_150.2.2.2.1 rfl, tp_12law_20.2.2.2.2.2.2.2.2.2⟩
theorem ml_L_84 : Cond.methodLink RL 84 yX9_gain ∈ lw_g := gm T_3_180.2.2.2.2.2.2.2.1 rfl
theorem kv_X9_gain : lkV yX9_gain cX9_gain 6 (some .long) 4 := ⟨gm T_3_180.2.2.2.2.2.2.2.2.1 rfl, gm T_3_180.2.2.2.2.2.2.2.2.2.1 rfl, gm T_1_0.2.1 rfl, gm T_3_190.1 rfl, tp_12law_30.1⟩
theorem ml_L_88 : Cond.methodLink RL 88 yX10_gain ∈ lw_g := gm T_6_160.2.2.1 rfl
theorem kv_X10_gain : lkV yX10_gain cX10_gain 16 (some .long) 4 := ⟨gm T_6_160.2.2.2.1 rfl, gm T_6_160.2.2.2.2.1 rfl, gm T_1_10.2.1 rfl, gm T_6_160.2.2.2.2.2.1 rfl, tp_12law_30.2.1⟩
theorem ml_L_89 : Cond.methodLink RL 89 yX9_turned ∈ lw_g := gm T_3_190.2.2.2.2.2.1 rfl
theorem kv_X9_turned : lkV yX9_turned cX9_turned 5 (some .int) 3 := ⟨gm T_3_190.2.2.2.2.2.2.1 rfl, gm T_3_190.2.2.2.2.2.2.2.1 rfl, gm T_1_0.2.1 rfl, gm T_3_190.2.2.2.2.2.2.2.2.1 rfl, tp_12law_30.2.2.1⟩
theorem ml_L_92 : Cond.methodLink RL 92 yX10_turned ∈ lw_g := gm T_6_160.2.2.2.2.2.2.1 rfl
theorem kv_X10_turned : lkV yX10_turned cX10_turned 8 (some .int) 3 := ⟨gm T_6_160.2.2.2.2.2.2.2.1 rfl, gm T_6_160.2.2.2.2.2.2.2.2.1 rfl, gm T_1_10.2.1 rfl, gm T_6_160.2.2.2.2.2.2.2.2.2.1 rfl, tp_12law_30.2.2.2.1⟩
theorem ml_L_93 : Cond.methodLink RL 93 yX9_low ∈ lw_g := gm T_3_200.2.2.2.2.2.2.2.2.1 rfl
theorem kv_X9_low : lkV yX9_low cX9_low 3 (some .int) 2 := ⟨gm T_3_200.2.2.2.2.2.2.2.2.2.1 rfl, gm T_3_210.1 rfl, gm T_1_0.2.1 rfl, gm T_3_210.2.1 rfl, tp_12law_30.2.2.2.2.1⟩
theorem ml_L_96 : Cond.methodLink RL 96 yX10_low ∈ lw_g := gm T_6_170.1 rfl
theorem kv_X10_low : lkV yX10_low cX10_low 4 (some .int) 2 := ⟨gm T_6_170.2.1 rfl, gm T_6_170.2.2.1 rfl, gm T_1_10.2.1 rfl, gm T_6_170.2.2.2.1 rfl, tp_12law_30.2.2.2.2.2.1⟩
theorem ml_L_97 : Cond.methodLink RL 97 yX9_ask ∈ lw_g := gm T_3_220.1 rfl
theorem kv_X9_ask : lkV yX9_ask cX9_ask 6 (some .int) 3 := ⟨gm T_3_220.2.1 rfl, gm T_3_220.2.2.1 rfl, gm T_1_0.2.1 rfl, gm T_3_220.2.2.2.1 rfl, tp_12law_30.2.2.2.2.2.2.1⟩
theorem ml_L_100 : Cond.methodLink RL 100 yX10_ask ∈ lw_g := gm T_6_170.2.2.2.2.2.2.2.2.1 rfl
theorem kv_X10_ask : lkV yX10_ask cX10_ask 6 (some .int) 3 := ⟨gm T_6_170.2.2.2.2.2.2.2.2.2.1 rfl, gm T_6_180.1 rfl, gm T_1_10.2.1 rfl, gm T_6_180.2.1 rfl, tp_12law_30.2.2.2.2.2.2.2.1⟩
theorem ml_L_101 : Cond.methodLink RL 101 yX9_answer ∈ lw_g := gm T_3_220.2.2.2.2.1 rfl
theorem kv_X9_answer : lkV yX9_answer cX9_answer 4 (some .int) 2 := ⟨gm T_3_220.2.2.2.2.2.1 rfl, gm T_3_220.2.2.2.2.2.2.1 rfl, gm T_1_0.2.1 rfl, gm T_3_220.2.2.2.2.2.2.2.1 rfl, tp_12law_30.2.2.2.2.2.2.2.2.1⟩
theorem ml_L_104 : Cond.methodLink RL 104 yX10_answer ∈ lw_g := gm T_6_180.2.2.1 rfl
theorem kv_X10_answer : lkV yX10_answer cX10_answer 5 (some .int) 2 := ⟨gm T_6_180.2.2.2.1 rfl, gm T_6_180.2.2.2.2.1 rfl, gm T_1_10.2.1 rfl, gm T_6_180.2.2.2.2.2.1 rfl, tp_12law_30.2.2.2.2.2.2.2.2.2⟩
theorem ml_L_105 : Cond.methodLink RL 105 yX9_out ∈ lw_g := gm T_3_220.2.2.2.2.2.2.2.2.1 rfl
theorem kv_X9_out : lkV yX9_out cX9_out 6 (some .int) 3 := ⟨gm T_3_220.2.2.2.2.2.2.2.2.2.1 rfl, gm T_3_230.1 rfl, gm T_1_0.2.1 rfl, gm T_3_230.2.1 rfl, tp_12law_40.1⟩
theorem ml_L_108 : Cond.methodLink RL 108 yX10_out ∈ lw_g := gm T_6_180.2.2.2.2.2.2.1 rfl
theorem kv_X10_out : lkV yX10_out cX10_out 6 (some .int) 3 := ⟨gm T_6_180.2.2.2.2.2.2.2.1 rfl, gm T_6_180.2.2.2.2.2.2.2.2.1 rfl, gm T_1_10.2.1 rfl, gm T_6_180.2.2.2.2.2.2.2.2.2.1 rfl, tp_12law_40.2.1⟩
theorem ml_L_109 : Cond.methodLink RL 109 yX9_most ∈ lw_g := gm T_3_230.2.2.2.2.2.2.2.1 rfl
theorem kv_X9_most : lkV yX9_most cX9_most 5 (some .int) 2 := ⟨gm T_3_230.2.2.2.2.2.2.2.2.1 rfl, gm T_3_230.2.2.2.2.2.2.2.2.2.1 rfl, gm T_1_0.2.1 rfl, gm T_4_0.1 rfl, tp_12law_40.2.2.1⟩
theorem ml_L_112 : Cond.methodLink RL 112 yX10_most ∈ lw_g := gm T_6_190.1 rfl
theorem kv_X10_most : lkV yX10_most cX10_most 4 (some .int) 2 := ⟨gm T_6_190.2.1 rfl, gm T_6_190.2.2.1 rfl, gm T_1_10.2.1 rfl, gm T_6_190.2.2.2.1 rfl, tp_12law_40.2.2.2.1⟩
theorem ml_L_113 : Cond.methodLink RL 113 yX9_rebate ∈ lw_g := gm T_4_0.2.1 rfl
theorem kv_X9_rebate : lkV yX9_rebate cX9_rebate 4 (some .int) 3 := ⟨gm T_4_0.2.2.1 rfl, gm T_4_0.2.2.2.1 rfl, gm T_1_0.2.1 rfl, gm T_4_0.2.2.2.2.1 rfl, tp_12law_40.2.2.2.2.1⟩
theorem ml_L_116 : Cond.methodLink RL 116 yX10_rebate ∈ lw_g := gm T_6_190.2.2.2.2.1 rfl
theorem kv_X10_rebate : lkV yX10_rebate cX10_rebate 5 (some .int) 3 := ⟨gm T_6_190.2.2.2.2.2.1 rfl, gm T_6_190.2.2.2.2.2.2.1 rfl, gm T_1_10.2.1 rfl, gm T_6_190.2.2.2.2.2.2.2.1 rfl, tp_12law_40.2.2.2.2.2.1⟩
theorem ml_L_117 : Cond.methodLink RL 117 yX9_whole ∈ lw_g := gm T_4_0.2.2.2.2.2.2.2.2.2.1 rfl
theorem kv_X9_whole : lkV yX9_whole cX9_whole 2 (some .int) 1 := ⟨gm T_4_10.1 rfl, gm T_4_10.2.1 rfl, gm T_1_0.2.1 rfl, gm T_4_10.2.2.1 rfl, tp_12law_40.2.2.2.2.2.2.1⟩
theorem ml_L_120 : Cond.methodLink RL 120 yX10_whole ∈ lw_g := gm T_6_190.2.2.2.2.2.2.2.2.1 rfl
theorem kv_X10_whole : lkV yX10_whole cX10_whole 2 (some .int) 1 := ⟨gm T_6_190.2.2.2.2.2.2.2.2.2.1 rfl, gm T_6_200.1 rfl, gm T_1_10.2.1 rfl, gm T_6_200.2.1 rfl, tp_12law_40.2.2.2.2.2.2.2.1⟩
theorem ml_L_121 : Cond.methodLink RL 121 yX9_winner ∈ lw_g := gm T_4_60.2.2.2.1 rfl
theorem kv_X9_winner : lkV yX9_winner cX9_winner 2 (some .int) 1 := ⟨gm T_4_60.2.2.2.2.1 rfl, gm T_4_60.2.2.2.2.2.1 rfl, gm T_1_0.2.1 rfl, gm T_4_60.2.2.2.2.2.2.1 rfl, tp_12law_40.2.2.2.2.2.2.2.2.1⟩
theorem ml_L_124 : Cond.methodLink RL 124 yX10_winner ∈ lw_g := gm T_6_210.2.2.2.2.2.2.2.2.2.1 rfl
theorem kv_X10_winner : lkV yX10_winner cX10_winner 2 (some .int) 1 := ⟨gm T_6_220.1 rfl, gm T_6_220.2.1 rfl, gm T_1_10.2.1 rfl, gm T_6_220.2.2.1 rfl, tp_12law_40.2.2.2.2.2.2.2.2.2⟩
theorem ml_L_125 : Cond.methodLink RL 125 yX9_award ∈ lw_g := gm T_4_60.2.2.2.2.2.2.2.1 rfl
theorem kv_X9_award : lkV yX9_award cX9_award 4 (some .int) 1 := ⟨gm T_4_60.2.2.2.2.2.2.2.2.1 rfl, gm T_4_60.2.2.2.2.2.2.2.2.2.1 rfl, gm T_1_0.2.1 rfl, gm T_4_70.1 rfl, tp_12law_50.1⟩
theorem ml_L_128 : Cond.methodLink RL 128 yX10_award ∈ lw_g := gm T_6_220.2.2.2.1 rfl
theorem kv_X10_award : lkV yX10_award cX10_award 3 (some .int) 1 := ⟨gm T_6_220.2.2.2.2.1 rfl, gm T_6_220.2.2.2.2.2.1 rfl, gm T_1_10.2.1 rfl, gm T_6_220.2.2.2.2.2.2.1 rfl, tp_12law_50.2.1⟩
theorem ml_L_129 : Cond.methodLink RL 129 yX9_awarded ∈ lw_g := gm T_4_70.2.2.2.2.2.2.2.2.2.1 rfl
theorem kv_X9_awarded : lkV yX9_awarded cX9_awarded 2 (some .int) 1 := ⟨gm T_4_80.1 rfl, gm T_4_80.2.1 rfl, gm T_1_0.2.1 rfl, gm T_4_80.2.2.1 rfl, tp_12law_50.2.2.1⟩
theorem ml_L_132 : Cond.methodLink RL 132 yX10_awarded ∈ lw_g := gm T_6_220.2.2.2.2.2.2.2.1 rfl
theorem kv_X10_awarded : lkV yX10_awarded cX10_awarded 2 (some .int) 1 := ⟨gm T_6_220.2.2.2.2.2.2.2.2.1 rfl, gm T_6_220.2.2.2.2.2.2.2.2.2.1 rfl, gm T_1_10.2.1 rfl, gm T_6_230.1 rfl, tp_12law_50.2.2.2.1⟩
theorem ml_L_133 : Cond.methodLink RL 133 yX9_challenge ∈ lw_g := gm T_4_80.2.2.2.1 rfl
theorem kv_X9_challenge : lkV yX9_challenge cX9_challenge 3 (some .int) 2 := ⟨gm T_4_80.2.2.2.2.1 rfl, gm T_4_80.2.2.2.2.2.1 rfl, gm T_1_0.2.1 rfl, gm T_4_80.2.2.2.2.2.2.1 rfl, tp_12law_50.2.2.2.2.1⟩
theorem ml_L_136 : Cond.methodLink RL 136 yX10_challenge ∈ lw_g := gm T_6_230.2.1 rfl
theorem kv_X10_challenge : lkV yX10_challenge cX10_challenge 3 (some .int) 2 := ⟨gm T_6_230.2.2.1 rfl, gm T_6_230.2.2.2.1 rfl, gm T_1_10.2.1 rfl, gm T_6_230.2.2.2.2.1 rfl, tp_12law_50.2.2.2.2.2.1⟩
theorem ml_L_137 : Cond.methodLink RL 137 yX9_judge ∈ lw_g := gm T_4_90.2.2.2.2.2.1 rfl
theorem kv_X9_judge : lkV yX9_judge cX9_judge 3 (some .int) 2 := ⟨gm T_4_90.2.2.2.2.2.2.1 rfl, gm T_4_90.2.2.2.2.2.2.2.1 rfl, gm T_1_0.2.1 rfl, gm T_4_90.2.2.2.2.2.2.2.2.1 rfl, tp_12law_50.2.2.2.2.2.2.1⟩
theorem ml_L_141 : Cond.methodLink RL 141 yX10_judge ∈ lw_g := gm T_6_230.2.2.2.2.2.1 rfl
theorem kv_X10_judge : lkV yX10_judge cX10_judge 3 (some .int) 2 := ⟨gm T_6_230.2.2.2.2.2.2.1 rfl, gm T_6_230.2.2.2.2.2.2.2.1 rfl, gm T_1_10.2.1 rfl, gm T_6_230.2.2.2.2.2.2.2.2.1 rfl, tp_12law_50.2.2.2.2.2.2.2.1⟩
theorem ml_L_142 : Cond.methodLink RL 142 yX9_sign ∈ lw_g := gm T_4_120.1 rfl
theorem kv_X9_sign : lkV yX9_sign cX9_sign 1 (some .int) 0 := ⟨gm T_4_120.2.1 rfl, gm T_4_120.2.2.1 rfl, gm T_1_0.2.1 rfl, gm T_4_120.2.2.2.1 rfl, tp_12law_50.2.2.2.2.2.2.2.2.1⟩
theorem ml_L_145 : Cond.methodLink RL 145 yX10_sign ∈ lw_g := gm T_7_0.2.2.2.1 rfl
theorem kv_X10_sign : lkV yX10_sign cX10_sign 1 (some .int) 0 := ⟨gm T_7_0.2.2.2.2.1 rfl, gm T_7_0.2.2.2.2.2.1 rfl, gm T_1_10.2.1 rfl, gm T_7_0.2.2.2.2.2.2.1 rfl, tp_12law_50.2.2.2.2.2.2.2.2.2⟩
theorem ml_L_146 : Cond.methodLink RL 146 yX9_change ∈ lw_g := gm T_4_120.2.2.2.2.2.2.2.2.2.1 rfl
theorem kv_X9_change : lkV yX9_change cX9_change 4 (some .int) 2 := ⟨gm T_4_130.1 rfl, gm T_4_130.2.1 rfl, gm T_1_0.2.1 rfl, gm T_4_130.2.2.1 rfl, tp_12law_60.1⟩
theorem ml_L_149 : Cond.methodLink RL 149 yX10_change ∈ lw_g := gm T_7_10.2.1 rfl
theorem kv_X10_change : lkV yX10_change cX10_change 3 (some .int) 2 := ⟨gm T_7_10.2.2.1 rfl, gm T_7_10.2.2.2.1 rfl, gm T_1_10.2.1 rfl, gm T_7_10.2.2.2.2.1 rfl, tp_12law_60.2.1⟩
theorem ml_L_150 : Cond.methodLink RL 150 yX9_likeness ∈ lw_g := gm T_4_130.2.2.2.2.2.2.2.2.1 rfl
theorem kv_X9_likeness : lkV yX9_likeness cX9_likeness 4 (some .long) 3 := ⟨gm T_4_130.2.2.2.2.2.2.2.2.2.1 rfl, gm T_4_140.1 rfl, gm T_1_0.2.1 rfl, gm T_4_140.2.1 rfl, tp_12law_60.2.2.1⟩
theorem ml_L_153 : Cond.methodLink RL 153 yX10_likeness ∈ lw_g := gm T_7_10.2.2.2.2.2.1 rfl
theorem kv_X10_likeness : lkV yX10_likeness cX10_likeness 5 (some .long) 3 := ⟨gm T_7_10.2.2.2.2.2.2.1 rfl, gm T_7_10.2.2.2.2.2.2.2.1 rfl, gm T_1_10.2.1 rfl, gm T_7_10.2.2.2.2.2.2.2.2.1 rfl, tp_12law_60.2.2.2.1⟩
theorem ml_L_154 : Cond.methodLink RL 154 yX9_chance ∈ lw_g := gm T_4_150.1 rfl
theorem kv_X9_chance : lkV yX9_chance cX9_chance 4 (some .int) 3 := ⟨gm T_4_150.2.1 rfl, gm T_4_150.2.2.1 rfl, gm T_1_0.2.1 rfl, gm T_4_150.2.2.2.1 rfl, tp_12law_60.2.2.2.2.1⟩
theorem ml_L_157 : Cond.methodLink RL 157 yX10_chance ∈ lw_g := gm T_7_30.1 rfl
theorem kv_X10_chance : lkV yX10_chance cX10_chance 5 (some .int) 3 := ⟨gm T_7_30.2.1 rfl, gm T_7_30.2.2.1 rfl, gm T_1_10.2.1 rfl, gm T_7_30.2.2.2.1 rfl, tp_12law_60.2.2.2.2.2.1⟩
theorem ml_L_158 : Cond.methodLink RL 158 yX9_ring ∈ lw_g := gm T_4_150.2.2.2.2.2.2.2.2.1 rfl
theorem kv_X9_ring : lkV yX9_ring cX9_ring 3 (some .int) 2 := ⟨gm T_4_150.2.2.2.2.2.2.2.2.2.1 rfl, gm T_4_160.1 rfl, gm T_1_0.2.1 rfl, gm T_4_160.2.1 rfl, tp_12law_60.2.2.2.2.2.2.1⟩
theorem ml_L_161 : Cond.methodLink RL 161 yX10_ring ∈ lw_g := gm T_7_30.2.2.2.2.2.2.2.2.1 rfl
theorem kv_X10_ring : lkV yX10_ring cX10_ring 7 (some .int) 2 := ⟨gm T_7_30.2.2.2.2.2.2.2.2.2.1 rfl, gm T_7_40.1 rfl, gm T_1_10.2.1 rfl, gm T_7_40.2.1 rfl, tp_12law_60.2.2.2.2.2.2.2.1⟩
theorem ml_L_162 : Cond.methodLink RL 162 yX9_join ∈ lw_g := gm T_4_170.2.2.2.2.2.2.2.2.1 rfl
theorem kv_X9_join : lkV yX9_join cX9_join 4 (some .int) 2 := ⟨gm T_4_170.2.2.2.2.2.2.2.2.2.1 rfl, gm T_4_180.1 rfl, gm T_1_0.2.1 rfl, gm T_4_180.2.1 rfl, tp_12law_60.2.2.2.2.2.2.2.2.1⟩
theorem ml_L_165 : Cond.methodLink RL 165 yX10_join ∈ lw_g := gm T_7_40.2.2.2.2.2.2.2.1 rfl
theorem kv_X10_join : lkV yX10_join cX10_join 3 (some .int) 2 := ⟨gm T_7_40.2.2.2.2.2.2.2.2.1 rfl, gm T_7_40.2.2.2.2.2.2.2.2.2.1 rfl, gm T_1_10.2.1 rfl, gm T_7_50.1 rfl, tp_12law_60.2.2.2.2.2.2.2.2.2⟩
theorem ml_L_166 : Cond.methodLink RL 166 yX9_call ∈ lw_g := gm T_4_190.1 rfl
theorem kv_X9_call : lkV yX9_call cX9_call 3 (some .int) 1 := ⟨gm T_4_190.2.1 rfl, gm T_4_190.2.2.1 rfl, gm T_1_0.2.1 rfl, gm T_4_190.2.2.2.1 rfl, tp_12law_70.1⟩
theorem ml_L_169 : Cond.methodLink RL 169 yX10_call ∈ lw_g := gm T_7_50.2.2.2.2.2.1 rfl
theorem kv_X10_call : lkV yX10_call cX10_call 4 (some .int) 1 := ⟨gm T_7_50.2.2.2.2.2.2.1 rfl, gm T_7_50.2.2.2.2.2.2.2.1 rfl, gm T_1_10.2.1 rfl, gm T_7_50.2.2.2.2.2.2.2.2.1 rfl, tp_12law_70.2.1⟩
theorem ml_L_170 : Cond.methodLink RL 170 yX9_decline ∈ lw_g := gm T_4_200.2.2.2.2.2.2.1 rfl
theorem kv_X9_decline : lkV yX9_decline cX9_decline 1 (some .int) 0 := ⟨gm T_4_200.2.2.2.2.2.2.2.1 rfl, gm T_4_200.2.2.2.2.2.2.2.2.1 rfl, gm T_1_0.2.1 rfl, gm T_4_200.2.2.2.2.2.2.2.2.2.1 rfl, tp_12law_70.2.2.1⟩
theorem ml_L_173 : Cond.methodLink RL 173 yX10_decline ∈ lw_g := gm T_7_50.2.2.2.2.2.2.2.2.2.1 rfl
theorem kv_X10_decline : lkV yX10_decline cX10_decline 4 (some .int) 0 := ⟨gm T_7_60.1 rfl, gm T_7_60.2.1 rfl, gm T_1_10.2.1 rfl, gm T_7_60.2.2.1 rfl, tp_12law_70.2.2.2.1⟩
theorem ml_L_174 : Cond.methodLink RL 174 yX9_room ∈ lw_g := gm T_4_210.2.2.2.2.1 rfl
theorem kv_X9_room : lkV yX9_room cX9_room 3 (some .int) 1 := ⟨gm T_4_210.2.2.2.2.2.1 rfl, gm T_4_210.2.2.2.2.2.2.1 rfl, gm T_1_0.2.1 rfl, gm T_4_210.2.2.2.2.2.2.2.1 rfl, tp_12law_70.2.2.2.2.1⟩
theorem ml_L_177 : Cond.methodLink RL 177 yX10_room ∈ lw_g := gm T_7_60.2.2.2.1 rfl
theorem kv_X10_room : lkV yX10_room cX10_room 3 (some .int) 1 := ⟨gm T_7_60.2.2.2.2.1 rfl, gm T_7_60.2.2.2.2.2.1 rfl, gm T_1_10.2.1 rfl, gm T_7_60.2.2.2.2.2.2.1 rfl, tp_12law_70.2.2.2.2.2.1⟩
theorem ml_L_178 : Cond.methodLink RL 178 yX9_count ∈ lw_g := gm T_4_210.2.2.2.2.2.2.2.2.1 rfl
theorem kv_X9_count : lkV yX9_count cX9_count 2 (some .int) 1 := ⟨gm T_4_210.2.2.2.2.2.2.2.2.2.1 rfl, gm T_4_220.1 rfl, gm T_1_0.2.1 rfl, gm T_4_220.2.1 rfl, tp_12law_70.2.2.2.2.2.2.1⟩
theorem ml_L_181 : Cond.methodLink RL 181 yX10_count ∈ lw_g := gm T_7_60.2.2.2.2.2.2.2.1 rfl
theorem kv_X10_count : lkV yX10_count cX10_count 4 (some .int) 1 := ⟨gm T_7_60.2.2.2.2.2.2.2.2.1 rfl, gm T_7_60.2.2.2.2.2.2.2.2.2.1 rfl, gm T_1_10.2.1 rfl, gm T_7_70.1 rfl, tp_12law_70.2.2.2.2.2.2.2⟩
theorem tab_out {w : Int32} (z : ¬ (w.toInt < 0 ∨ 38 < w.toInt)) (y0 : ¬ w = (0 : Int32)) (y1 : ¬ w = (1 : Int32)) (y2 : ¬ w = (2 : Int32)) (y3 : ¬ w = (3 : Int32)) (y4 : ¬ w = (4 : Int32)) (y5 : ¬ w = (5 : Int32)) (y6 : ¬ w = (6 : Int32)) (y7 : ¬ w = (7 : Int32)) (y8 : ¬ w = (8 : Int32)) (y9 : ¬ w = (9 : Int32)) (y10 : ¬ w = (10 : Int32)) (y11 : ¬ w = (11 : Int32)) (y12 : ¬ w = (12 : Int32)) (y13 : ¬ w = (13 : Int32)) (y14 : ¬ w = (14 : Int32)) (y15 : ¬ w = (15 : Int32)) (y16 : ¬ w = (16 : Int32)) (y17 : ¬ w = (17 : Int32)) (y18 : ¬ w = (18 : Int32)) (y19 : ¬ w = (19 : Int32)) (y20 : ¬ w = (20 : Int32)) (y21 : ¬ w = (21 : Int32)) (y22 : ¬ w = (22 : Int32)) (y23 : ¬ w = (23 : Int32)) (y24 : ¬ w = (24 : Int32)) (y25 : ¬ w = (25 : Int32)) (y26 : ¬ w = (26 : Int32)) (y27 : ¬ w = (27 : Int32)) (y28 : ¬ w = (28 : Int32)) (y29 : ¬ w = (29 : Int32)) (y30 : ¬ w = (30 : Int32)) (y31 : ¬ w = (31 : Int32)) (y32 : ¬ w = (32 : Int32)) (y33 : ¬ w = (33 : Int32)) (y34 : ¬ w = (34 : Int32)) (y35 : ¬ w = (35 : Int32)) (y36 : ¬ w = (36 : Int32)) (y37 : ¬ w = (37 : Int32)) (y38 : ¬ w = (38 : Int32)) : False := by
  have h : ∀ j : Nat, j < 39 → w ≠ nI j := by
    intro j hj
    match j, hj with
    | 0, _ => exact y0
    | 1, _ => exact y1
    | 2, _ => exact y2
    | 3, _ => exact y3
    | 4, _ => exact y4
    | 5, _ => exact y5
    | 6, _ => exact y6
    | 7, _ => exact y7
    | 8, _ => exact y8
    | 9, _ => exact y9
    | 10, _ => exact y10
    | 11, _ => exact y11
    | 12, _ => exact y12
    | 13, _ => exact y13
    | 14, _ => exact y14
    | 15, _ => exact y15
    | 16, _ => exact y16
    | 17, _ => exact y17
    | 18, _ => exact y18
    | 19, _ => exact y19
    | 20, _ => exact y20
    | 21, _ => exact y21
    | 22, _ => exact y22
    | 23, _ => exact y23
    | 24, _ => exact y24
    | 25, _ => exact y25
    | 26, _ => exact y26
    | 27, _ => exact y27
    | 28, _ => exact y28
    | 29, _ => exact y29
    | 30, _ => exact y30
    | 31, _ => exact y31
    | 32, _ => exact y32
    | 33, _ => exact y33
    | 34, _ => exact y34
    | 35, _ => exact y35
    | 36, _ => exact y36
    | 37, _ => exact y37
    | 38, _ => exact y38
    | n + 39, hj => exact absurd hj (by omega)
  have h1 : 0 ≤ w.toInt ∧ w.toInt ≤ 38 := by omega
  obtain ⟨j, hj, e⟩ := vp_in_of (x := w) (n := 39) (vp_in_iff.mpr ⟨h1.1, by omega⟩) (by decide)
  exact h j hj e
def LawSteps (N : Nat) (Rel : Nat → SS → SS → Prop) : Prop :=
  (∀ (k : Nat) (u v : SS) (z1 : Int32), 10 * (k + 1) ≤ N → Rel k u v → ∃ (r : Int32) (u' : SS) (r2 : Int32) (v' : SS), f_X9_time z1 u = some (r, u') ∧ f_X10_time z1 v = some (r2, v') ∧ Rel (k + 1) u' v' ∧ True) ∧
  (∀ (k : Nat) (u v : SS) (z1 : Int32) (z2 : Int32), 10 * (k + 1) ≤ N → Rel k u v → ∃ (r : Int32) (u' : SS) (r2 : Int32) (v' : SS), f_X9_rate z1 z2 u = some (r, u') ∧ f_X10_rate z1 z2 v = some (r2, v') ∧ Rel (k + 1) u' v' ∧ True) ∧
  (∀ (k : Nat) (u v : SS) (z1 : Int32), 10 * (k + 1) ≤ N → Rel k u v → ∃ (r : Int32) (u' : SS) (r2 : Int32) (v' : SS), f_X9_lots z1 u = some (r, u') ∧ f_X10_lots z1 v = some (r2, v') ∧ Rel (k + 1) u' v' ∧ True) ∧
  (∀ (k : Nat) (u v : SS) (z1 : Int32), 10 * (k + 1) ≤ N → Rel k u v → ∃ (r : Int32) (u' : SS) (r2 : Int32) (v' : SS), f_X9_closing z1 u = some (r, u') ∧ f_X10_closing z1 v = some (r2, v') ∧ Rel (k + 1) u' v' ∧ True) ∧
  (∀ (k : Nat) (u v : SS) (z1 : Int32) (z2 : Int32) (z3 : Int32) (z4 : Int32) (z5 : Int32) (z6 : Int32) (z7 : Int32) (z8 : Int32) (z9 : Int32), 10 * (k + 1) ≤ N → Rel k u v → ∃ (r : Int32) (u' : SS) (r2 : Int32) (v' : SS), f_X9_bid z1 z2 z3 z4 z5 z6 z7 z8 z9 u = some (r, u') ∧ f_X10_bid z1 z2 z3 z4 z5 z6 z7 z8 z9 v = some (r2, v') ∧ Rel (k + 1) u' v' ∧ True) ∧
  (∀ (k : Nat) (u v : SS) (z1 : Int32) (z2 : Int32), 10 * (k + 1) ≤ N → Rel k u v → ∃ (r : Int32) (u' : SS) (r2 : Int32) (v' : SS), f_X9_withdraw z1 z2 u = some (r, u') ∧ f_X10_withdraw z1 z2 v = some (r2, v') ∧ Rel (k + 1) u' v' ∧ True) ∧
  (∀ (k : Nat) (u v : SS) (z1 : Int32) (z2 : Int32), 10 * (k + 1) ≤ N → Rel k u v → ∃ (r : Int32) (u' : SS) (r2 : Int32) (v' : SS), f_X9_set z1 z2 u = some (r, u') ∧ f_X10_set z1 z2 v = some (r2, v') ∧ Rel (k + 1) u' v' ∧ True) ∧
  (∀ (k : Nat) (u v : SS) (z1 : Int32) (z2 : Int32), 10 * (k + 1) ≤ N → Rel k u v → ∃ (r : Int32) (u' : SS) (r2 : Int32) (v' : SS), f_X9_price z1 z2 u = some (r, u') ∧ f_X10_price z1 z2 v = some (r2, v') ∧ Rel (k + 1) u' v' ∧ True) ∧
  (∀ (k : Nat) (u v : SS) (z1 : Int32) (z2 : Int32) (z3 : Int32) (z4 : Int32), 10 * (k + 1) ≤ N → Rel k u v → ∃ (r : Int32) (u' : SS) (r2 : Int32) (v' : SS), f_X9_note z1 z2 z3 z4 u = some (r, u') ∧ f_X10_note z1 z2 z3 z4 v = some (r2, v') ∧ Rel (k + 1) u' v' ∧ True) ∧
  (∀ (k : Nat) (u v : SS) (z1 : Int32) (z2 : Int32) (z3 : Int32), 10 * (k + 1) ≤ N → Rel k u v → (z3 = 0 ∨ z3 = 1) → ∃ (r : Int32) (u' : SS) (r2 : Int32) (v' : SS), f_X9_bar z1 z2 z3 u = some (r, u') ∧ f_X10_bar z1 z2 z3 v = some (r2, v') ∧ Rel (k + 1) u' v' ∧ True) ∧
  (∀ (k : Nat) (u v : SS) (z1 : Int32) (z2 : Int32) (z3 : Int32), 10 * (k + 1) ≤ N → Rel k u v → ∃ (r : Int32) (u' : SS) (r2 : Int32) (v' : SS), f_X9_quality z1 z2 z3 u = some (r, u') ∧ f_X10_quality z1 z2 z3 v = some (r2, v') ∧ Rel (k + 1) u' v' ∧ True) ∧
  (∀ (k : Nat) (u v : SS) (z1 : Int32) (z2 : Int64), 10 * (k + 1) ≤ N → Rel k u v → ∃ (r : Int32) (u' : SS) (r2 : Int32) (v' : SS), f_X9_feed z1 z2 u = some (r, u') ∧ f_X10_feed z1 z2 v = some (r2, v') ∧ Rel (k + 1) u' v' ∧ True) ∧
  (∀ (k : Nat) (u v : SS), 10 * (k + 1) ≤ N → Rel k u v → ∃ (r : Int32) (u' : SS) (r2 : Int32) (v' : SS), f_X9_formula  u = some (r, u') ∧ f_X10_formula  v = some (r2, v') ∧ Rel (k + 1) u' v' ∧ True) ∧
  (∀ (k : Nat) (u v : SS) (z1 : Int32) (z2 : Int32) (z3 : Int32), 10 * (k + 1) ≤ N → Rel k u v → ∃ (r : Int64) (u' : SS) (r2 : Int64) (v' : SS), f_X9_points z1 z2 z3 u = some (r, u') ∧ f_X10_points z1 z2 z3 v = some (r2, v') ∧ Rel (k + 1) u' v' ∧ True) ∧
  (∀ (k : Nat) (u v : SS) (z1 : Int32) (z2 : Int32), 10 * (k + 1) ≤ N → Rel k u v → ∃ (r : Int32) (u' : SS) (r2 : Int32) (v' : SS), f_X9_order z1 z2 u = some (r, u') ∧ f_X10_order z1 z2 v = some (r2, v') ∧ Rel (k + 1) u' v' ∧ True) ∧
  (∀ (k : Nat) (u v : SS) (z1 : Int32) (z2 : Int32) (z3 : Int32) (z4 : Int32), 10 * (k + 1) ≤ N → Rel k u v → ∃ (r : Int64) (u' : SS) (r2 : Int64) (v' : SS), f_X9_gain z1 z2 z3 z4 u = some (r, u') ∧ f_X10_gain z1 z2 z3 z4 v = some (r2, v') ∧ Rel (k + 1) u' v' ∧ True) ∧
  (∀ (k : Nat) (u v : SS) (z1 : Int32) (z2 : Int32) (z3 : Int32), 10 * (k + 1) ≤ N → Rel k u v → ∃ (r : Int32) (u' : SS) (r2 : Int32) (v' : SS), f_X9_turned z1 z2 z3 u = some (r, u') ∧ f_X10_turned z1 z2 z3 v = some (r2, v') ∧ Rel (k + 1) u' v' ∧ True) ∧
  (∀ (k : Nat) (u v : SS) (z1 : Int32) (z2 : Int32), 10 * (k + 1) ≤ N → Rel k u v → ∃ (r : Int32) (u' : SS) (r2 : Int32) (v' : SS), f_X9_low z1 z2 u = some (r, u') ∧ f_X10_low z1 z2 v = some (r2, v') ∧ Rel (k + 1) u' v' ∧ True) ∧
  (∀ (k : Nat) (u v : SS) (z1 : Int32) (z2 : Int32) (z3 : Int32), 10 * (k + 1) ≤ N → Rel k u v → ∃ (r : Int32) (u' : SS) (r2 : Int32) (v' : SS), f_X9_ask z1 z2 z3 u = some (r, u') ∧ f_X10_ask z1 z2 z3 v = some (r2, v') ∧ Rel (k + 1) u' v' ∧ True) ∧
  (∀ (k : Nat) (u v : SS) (z1 : Int32) (z2 : Int32), 10 * (k + 1) ≤ N → Rel k u v → ∃ (r : Int32) (u' : SS) (r2 : Int32) (v' : SS), f_X9_answer z1 z2 u = some (r, u') ∧ f_X10_answer z1 z2 v = some (r2, v') ∧ Rel (k + 1) u' v' ∧ True) ∧
  (∀ (k : Nat) (u v : SS) (z1 : Int32) (z2 : Int32) (z3 : Int32), 10 * (k + 1) ≤ N → Rel k u v → (z3 = 0 ∨ z3 = 1) → ∃ (r : Int32) (u' : SS) (r2 : Int32) (v' : SS), f_X9_out z1 z2 z3 u = some (r, u') ∧ f_X10_out z1 z2 z3 v = some (r2, v') ∧ Rel (k + 1) u' v' ∧ True) ∧
  (∀ (k : Nat) (u v : SS) (z1 : Int32) (z2 : Int32), 10 * (k + 1) ≤ N → Rel k u v → ∃ (r : Int32) (u' : SS) (r2 : Int32) (v' : SS), f_X9_most z1 z2 u = some (r, u') ∧ f_X10_most z1 z2 v = some (r2, v') ∧ Rel (k + 1) u' v' ∧ True) ∧
  (∀ (k : Nat) (u v : SS) (z1 : Int32) (z2 : Int32) (z3 : Int32), 10 * (k + 1) ≤ N → Rel k u v → ∃ (r : Int32) (u' : SS) (r2 : Int32) (v' : SS), f_X9_rebate z1 z2 z3 u = some (r, u') ∧ f_X10_rebate z1 z2 z3 v = some (r2, v') ∧ Rel (k + 1) u' v' ∧ True) ∧
  (∀ (k : Nat) (u v : SS) (z1 : Int32), 10 * (k + 1) ≤ N → Rel k u v → ∃ (r : Int32) (u' : SS) (r2 : Int32) (v' : SS), f_X9_whole z1 u = some (r, u') ∧ f_X10_whole z1 v = some (r2, v') ∧ Rel (k + 1) u' v' ∧ True) ∧
  (∀ (k : Nat) (u v : SS) (z1 : Int32), 10 * (k + 1) ≤ N → Rel k u v → ∃ (r : Int32) (u' : SS) (r2 : Int32) (v' : SS), f_X9_winner z1 u = some (r, u') ∧ f_X10_winner z1 v = some (r2, v') ∧ Rel (k + 1) u' v' ∧ True) ∧
  (∀ (k : Nat) (u v : SS) (z1 : Int32), 10 * (k + 1) ≤ N → Rel k u v → ∃ (r : Int32) (u' : SS) (r2 : Int32) (v' : SS), f_X9_award z1 u = some (r, u') ∧ f_X10_award z1 v = some (r2, v') ∧ Rel (k + 1) u' v' ∧ True) ∧
  (∀ (k : Nat) (u v : SS) (z1 : Int32), 10 * (k + 1) ≤ N → Rel k u v → ∃ (r : Int32) (u' : SS) (r2 : Int32) (v' : SS), f_X9_awarded z1 u = some (r, u') ∧ f_X10_awarded z1 v = some (r2, v') ∧ Rel (k + 1) u' v' ∧ True) ∧
  (∀ (k : Nat) (u v : SS) (z1 : Int32) (z2 : Int32), 10 * (k + 1) ≤ N → Rel k u v → ∃ (r : Int32) (u' : SS) (r2 : Int32) (v' : SS), f_X9_challenge z1 z2 u = some (r, u') ∧ f_X10_challenge z1 z2 v = some (r2, v') ∧ Rel (k + 1) u' v' ∧ True) ∧
  (∀ (k : Nat) (u v : SS) (z1 : Int32) (z2 : Int32), 10 * (k + 1) ≤ N → Rel k u v → (z2 = 0 ∨ z2 = 1) → ∃ (r : Int32) (u' : SS) (r2 : Int32) (v' : SS), f_X9_judge z1 z2 u = some (r, u') ∧ f_X10_judge z1 z2 v = some (r2, v') ∧ Rel (k + 1) u' v' ∧ True) ∧
  (∀ (k : Nat) (u v : SS), 10 * (k + 1) ≤ N → Rel k u v → ∃ (r : Int32) (u' : SS) (r2 : Int32) (v' : SS), f_X9_sign  u = some (r, u') ∧ f_X10_sign  v = some (r2, v') ∧ Rel (k + 1) u' v' ∧ True) ∧
  (∀ (k : Nat) (u v : SS) (z1 : Int32) (z2 : Int32), 10 * (k + 1) ≤ N → Rel k u v → ∃ (r : Int32) (u' : SS) (r2 : Int32) (v' : SS), f_X9_change z1 z2 u = some (r, u') ∧ f_X10_change z1 z2 v = some (r2, v') ∧ Rel (k + 1) u' v' ∧ True) ∧
  (∀ (k : Nat) (u v : SS) (z1 : Int32) (z2 : Int32) (z3 : Int32), 10 * (k + 1) ≤ N → Rel k u v → ∃ (r : Int64) (u' : SS) (r2 : Int64) (v' : SS), f_X9_likeness z1 z2 z3 u = some (r, u') ∧ f_X10_likeness z1 z2 z3 v = some (r2, v') ∧ Rel (k + 1) u' v' ∧ True) ∧
  (∀ (k : Nat) (u v : SS) (z1 : Int32) (z2 : Int32) (z3 : Int32), 10 * (k + 1) ≤ N → Rel k u v → ∃ (r : Int32) (u' : SS) (r2 : Int32) (v' : SS), f_X9_chance z1 z2 z3 u = some (r, u') ∧ f_X10_chance z1 z2 z3 v = some (r2, v') ∧ Rel (k + 1) u' v' ∧ True) ∧
  (∀ (k : Nat) (u v : SS) (z1 : Int32) (z2 : Int32), 10 * (k + 1) ≤ N → Rel k u v → ∃ (r : Int32) (u' : SS) (r2 : Int32) (v' : SS), f_X9_ring z1 z2 u = some (r, u') ∧ f_X10_ring z1 z2 v = some (r2, v') ∧ Rel (k + 1) u' v' ∧ True) ∧
  (∀ (k : Nat) (u v : SS) (z1 : Int32) (z2 : Int32), 10 * (k + 1) ≤ N → Rel k u v → ∃ (r : Int32) (u' : SS) (r2 : Int32) (v' : SS), f_X9_join z1 z2 u = some (r, u') ∧ f_X10_join z1 z2 v = some (r2, v') ∧ Rel (k + 1) u' v' ∧ True) ∧
  (∀ (k : Nat) (u v : SS) (z1 : Int32), 10 * (k + 1) ≤ N → Rel k u v → ∃ (r : Int32) (u' : SS) (r2 : Int32) (v' : SS), f_X9_call z1 u = some (r, u') ∧ f_X10_call z1 v = some (r2, v') ∧ Rel (k + 1) u' v' ∧ True) ∧
  (∀ (k : Nat) (u v : SS), 10 * (k + 1) ≤ N → Rel k u v → ∃ (r : Int32) (u' : SS) (r2 : Int32) (v' : SS), f_X9_decline  u = some (r, u') ∧ f_X10_decline  v = some (r2, v') ∧ Rel (k + 1) u' v' ∧ True) ∧
  (∀ (k : Nat) (u v : SS) (z1 : Int32), 10 * (k + 1) ≤ N → Rel k u v → ∃ (r : Int32) (u' : SS) (r2 : Int32) (v' : SS), f_X9_room z1 u = some (r, u') ∧ f_X10_room z1 v = some (r2, v') ∧ Rel (k + 1) u' v' ∧ r = r2) ∧
  (∀ (k : Nat) (u v : SS) (z1 : Int32), 10 * (k + 1) ≤ N → Rel k u v → ∃ (r : Int32) (u' : SS) (r2 : Int32) (v' : SS), f_X9_count z1 u = some (r, u') ∧ f_X10_count z1 v = some (r2, v') ∧ Rel (k + 1) u' v' ∧ True) ∧
  (∀ (k : Nat) (u v : SS), 10 * (k + 1) ≤ N → Rel k u v → Rel (k + 1) u v)
set_option maxHeartbeats 40000000 in
set_option maxRecDepth 100000 in
theorem law_loop {p : Program} {l : Launch} {e : Env} {s : State} {m : MethodId} {below : List Frame} {meth : Method} {c : Code} {b L : Nat} {xs : Nat → Int32} {evB evM : EV} {D : va_G} {kc ks : Nat} {Rel : Nat → SS → SS → Prop} (hL : L ≤ 5120) (C0 : lw_At p s m meth c b L xs) (hst : LawSteps 5120 Rel) (hCB : LC wdB evB D s) (hCM : LC wdM evM D s) (hap : ∀ i j, i < 51 → j < 39 → evB.2.1 i ≠ evM.2.1 j) (hkc : kc ≤ room_1.cells) (hks : ks ≤ room_1.slots) :
    ∀ (n k : Nat) (x3 : Int32) (u v : SS) (H : Heap) (locs : List Loc) (ls : Array Slot), 10 * k ≤ L → L < 10 * (k + n) → x3 = nI (10 * k) → va_P D vwCl (wB evB u) H → va_P D vwCl (wM evM v) H → va_S (Al s) s.heap H locs → Rel k u v → lv_has ls 4 [(0, .ref b), (1, .ref (evB.2.1 0)), (2, .ref (evM.2.1 0)), (3, .int x3)] → W p l e room_1 s m #[Value.ref b] below meth c H locs kc ks (lw_Z below #[Value.ref b] s) (F0 m 18 ls []) := by
  obtain ⟨hx, hb, hr, hml, hown, hts0, hX, hbl, hlocks, hgv⟩ := C0
  have hts : ∀ w ∈ lw_g, w.before #[Value.ref b] s = true := fun w h => hts0 w (List.mem_filter.mp h).1
  have hbA : ¬ Al s b := Nat.not_le.mpr hbl
  have hL20 : L < 2 ^ 20 := by omega
  have hapB : ∀ {v : SS} (k : Nat) (q : Nat × va_E), (wM evM v)[k]? = some q → ∀ j, j < 51 → q.1 ≠ evB.2.1 j := fun {v} k q h j hj e => by
    obtain ⟨i, hi, e2⟩ := adM evM v k q h
    exact hap j i hj hi (e.symm.trans e2)
  have hapM : ∀ {u : SS} (k : Nat) (q : Nat × va_E), (wB evB u)[k]? = some q → ∀ j, j < 39 → q.1 ≠ evM.2.1 j := fun {u} k q h j hj e => by
    obtain ⟨i, hi, e2⟩ := adB evB u k q h
    exact hap i j hi hj (e2.symm.trans e)
  intro n
  induction n with
  | zero =>
    intro k x3 u v H locs ls h1 h2
    exact absurd h2 (by omega)
  | succ n ih =>
    intro k x3 u v H locs ls hk hn ex3 hPB hPM hS hRel hl
    refine lv_iload_n hx hb dL_law_18 rfl (lv_at hl 3 rfl) ?_
    refine lv_aload_n hx hb dL_law_19 rfl (lv_at hl 0 rfl) ?_
    refine va_slen hx hb hX hbl hbA hS dL_law_20 ?_
    refine lv_bipush (v := (10 : Int32)) hx hb dL_law_21 (by decide) ?_
    refine lv_isub hx hb dL_law_23 ?_
    refine lv_icmp_gt (tgt := 1623) hx hb dL_law_24 (by decide) (fun z => ?_) (fun z => ?_)
    · refine lv_iconst (v := 1) hx hb dL_law_1623 (by decide) ?_
      refine va_forget (fun q hq => hS.2.2 q hq) ?_
      refine W.widen (k := 600000) (n := 7302250) hkc hks ?_
      exact lw_ret hx hb hr hlocks dL_law_1624
    · have hgo := law_go ex3 hk hL20 z
      have hnext : ∀ (u v : SS) (H : Heap) (locs : List Loc) (ls : Array Slot), va_P D vwCl (wB evB u) H → va_P D vwCl (wM evM v) H → va_S (Al s) s.heap H locs → Rel (k + 1) u v → lv_has ls 4 [(0, .ref b), (1, .ref (evB.2.1 0)), (2, .ref (evM.2.1 0)), (3, .int x3)] → W p l e room_1 s m #[Value.ref b] below meth c H locs kc ks (lw_Z below #[Value.ref b] s) (F0 m 1617 ls []) := by
        intro u v H locs ls hPB hPM hS hRel hl
        obtain ⟨x4, ex4⟩ : ∃ y : Int32, y = x3 + 10 := ⟨_, rfl⟩
        refine lv_iinc (v := x4) (lv' := [(3, .int x4), (0, .ref b), (1, .ref (evB.2.1 0)), (2, .ref (evM.2.1 0))]) hx hb dL_law_1617 hl (k := 3) rfl (by rw [ex4]; rfl) (by decide) rfl (fun ls hl => ?_)
        refine lv_goto (tgt := 18) hx hb dL_law_1620 (by decide) ?_
        exact ih (k + 1) x4 u v H locs ls hgo (by omega) (by rw [ex4, ex3]; exact nI_add (10 * k) 10) hPB hPM hS hRel (lv_sub hl [1, 2, 3, 0] rfl)
      refine lv_aload_n hx hb dL_law_27 rfl (lv_at hl 0 rfl) ?_
      refine lv_iload_n hx hb dL_law_28 rfl (lv_at hl 3 rfl) ?_
      refine va_sld hx hb hX hbl hbA hS (law_ix0 ex3 hgo hL20) dL_law_29 ?_
      refine lv_bipush (v := (63 : Int32)) hx hb dL_law_30 (by decide) ?_
      refine lv_iand hx hb dL_law_32 ?_
      refine lv_topi (fun w0 ew0 => ?_)
      obtain ⟨a1, ea1⟩ : ∃ a : Int32, a = xs (x3 + (1 : Int32)).toNatClampNeg := ⟨_, rfl⟩
      obtain ⟨a2, ea2⟩ : ∃ a : Int32, a = xs (x3 + (2 : Int32)).toNatClampNeg := ⟨_, rfl⟩
      obtain ⟨a3, ea3⟩ : ∃ a : Int32, a = xs (x3 + (3 : Int32)).toNatClampNeg := ⟨_, rfl⟩
      obtain ⟨a4, ea4⟩ : ∃ a : Int32, a = xs (x3 + (4 : Int32)).toNatClampNeg := ⟨_, rfl⟩
      obtain ⟨a5, ea5⟩ : ∃ a : Int32, a = xs (x3 + (5 : Int32)).toNatClampNeg := ⟨_, rfl⟩
      obtain ⟨a6, ea6⟩ : ∃ a : Int32, a = xs (x3 + (6 : Int32)).toNatClampNeg := ⟨_, rfl⟩
      obtain ⟨a7, ea7⟩ : ∃ a : Int32, a = xs (x3 + (7 : Int32)).toNatClampNeg := ⟨_, rfl⟩
      obtain ⟨a8, ea8⟩ : ∃ a : Int32, a = xs (x3 + (8 : Int32)).toNatClampNeg := ⟨_, rfl⟩
      obtain ⟨a9, ea9⟩ : ∃ a : Int32, a = xs (x3 + (9 : Int32)).toNatClampNeg := ⟨_, rfl⟩
      by_cases z0 : w0.toInt < 0 ∨ 38 < w0.toInt
      · refine lv_tableOut (tgt := 1617) hx hb dL_law_33 z0 (by decide) ?_
        exact hnext u v H locs ls hPB hPM hS (hst.2.2.2.2.2.2.2.2.2.2.2.2.2.2.2.2.2.2.2.2.2.2.2.2.2.2.2.2.2.2.2.2.2.2.2.2.2.2.2 k u v (by omega) hRel) hl
      by_cases y0 : w0 = (0 : Int32)
      · refine lv_tableIn (tgt := 204) (off := 171) hx hb dL_law_33 (by rw [y0]; decide) (by rw [y0]; decide) (by rw [y0]; decide) (by decide) ?_
        obtain ⟨r, u', r2, v', h1, h2, hRel, he⟩ := hst.1 k u v a1 (by omega) hRel
        refine lv_aload_n hx hb dL_law_204 rfl (lv_at hl 1 rfl) ?_
        refine lv_aload_n hx hb dL_law_205 rfl (lv_at hl 0 rfl) ?_
        refine lv_iload_n hx hb dL_law_206 rfl (lv_at hl 3 rfl) ?_
        refine lv_iconst (v := (1 : Int32)) hx hb dL_law_207 (by decide) ?_
        refine lv_iadd hx hb dL_law_208 ?_
        refine va_sld hx hb hX hbl hbA hS (law_ix (j := 1) ex3 hgo hL20 (by decide)) dL_law_209 ?_
        refine tope ea1 ?_
        refine law_I (u' := u') hCB hS hPM hapB (law_run (As := [.int a1]) (rest := []) okB hCB hx hb hml hown hts hPB hS (c_X9_time l evB a1 u h1 H.size) kv_X9_time ml_L_13 (rvB0 evB u) hl.1 rfl rfl (Nat.le_of_ble_eq_true rfl) ⟨Nat.le_of_ble_eq_true rfl, Nat.le_of_ble_eq_true rfl⟩ dL_law_210 ⟨hkc, hks⟩) (fun H locs hPB hPM hS => ?_)
        refine lv_pop hx hb dL_law_213 rfl ?_
        refine lv_aload_n hx hb dL_law_214 rfl (lv_at hl 2 rfl) ?_
        refine lv_aload_n hx hb dL_law_215 rfl (lv_at hl 0 rfl) ?_
        refine lv_iload_n hx hb dL_law_216 rfl (lv_at hl 3 rfl) ?_
        refine lv_iconst (v := (1 : Int32)) hx hb dL_law_217 (by decide) ?_
        refine lv_iadd hx hb dL_law_218 ?_
        refine va_sld hx hb hX hbl hbA hS (law_ix (j := 1) ex3 hgo hL20 (by decide)) dL_law_219 ?_
        refine tope ea1 ?_
        refine law_I (u' := v') hCM hS hPB hapM (law_run (As := [.int a1]) (rest := []) okM hCM hx hb hml hown hts hPM hS (c_X10_time l evM a1 v h2 H.size) kv_X10_time ml_L_17 (rvM0 evM v) hl.1 rfl rfl (Nat.le_of_ble_eq_true rfl) ⟨Nat.le_of_ble_eq_true rfl, Nat.le_of_ble_eq_true rfl⟩ dL_law_220 ⟨hkc, hks⟩) (fun H locs hPM hPB hS => ?_)
        refine lv_pop hx hb dL_law_223 rfl ?_
        refine lv_goto (tgt := 1617) hx hb dL_law_224 (by decide) ?_
        exact hnext _ _ _ _ ls hPB hPM hS hRel hl
      by_cases y1 : w0 = (1 : Int32)
      · refine lv_tableIn (tgt := 227) (off := 194) hx hb dL_law_33 (by rw [y1]; decide) (by rw [y1]; decide) (by rw [y1]; decide) (by decide) ?_
        obtain ⟨r, u', r2, v', h1, h2, hRel, he⟩ := hst.2.1 k u v a1 a2 (by omega) hRel
        refine lv_aload_n hx hb dL_law_227 rfl (lv_at hl 1 rfl) ?_
        refine lv_aload_n hx hb dL_law_228 rfl (lv_at hl 0 rfl) ?_
        refine lv_iload_n hx hb dL_law_229 rfl (lv_at hl 3 rfl) ?_
        refine lv_iconst (v := (1 : Int32)) hx hb dL_law_230 (by decide) ?_
        refine lv_iadd hx hb dL_law_231 ?_
        refine va_sld hx hb hX hbl hbA hS (law_ix (j := 1) ex3 hgo hL20 (by decide)) dL_law_232 ?_
        refine tope ea1 ?_
        refine lv_aload_n hx hb dL_law_233 rfl (lv_at hl 0 rfl) ?_
        refine lv_iload_n hx hb dL_law_234 rfl (lv_at hl 3 rfl) ?_
        refine lv_iconst (v := (2 : Int32)) hx hb dL_law_235 (by decide) ?_
        refine lv_iadd hx hb dL_law_236 ?_
        refine va_sld hx hb hX hbl hbA hS (law_ix (j := 2) ex3 hgo hL20 (by decide)) dL_law_237 ?_
        refine tope ea2 ?_
        refine law_I (u' := u') hCB hS hPM hapB (law_run (As := [.int a1, .int a2]) (rest := []) okB hCB hx hb hml hown hts hPB hS (c_X9_rate l evB a1 a2 u h1 H.size) kv_X9_rate ml_L_18 (rvB0 evB u) hl.1 rfl rfl (Nat.le_of_ble_eq_true rfl) ⟨Nat.le_of_ble_eq_true rfl, Nat.le_of_ble_eq_true rfl⟩ dL_law_238 ⟨hkc, hks⟩) (fun H locs hPB hPM hS => ?_)
        refine lv_pop hx hb dL_law_241 rfl ?_
        refine lv_aload_n hx hb dL_law_242 rfl (lv_at hl 2 rfl) ?_
        refine lv_aload_n hx hb dL_law_243 rfl (lv_at hl 0 rfl) ?_
        refine lv_iload_n hx hb dL_law_244 rfl (lv_at hl 3 rfl) ?_
        refine lv_iconst (v := (1 : Int32)) hx hb dL_law_245 (by decide) ?_
        refine lv_iadd hx hb dL_law_246 ?_
        refine va_sld hx hb hX hbl hbA hS (law_ix (j := 1) ex3 hgo hL20 (by decide)) dL_law_247 ?_
        refine tope ea1 ?_
        refine lv_aload_n hx hb dL_law_248 rfl (lv_at hl 0 rfl) ?_
        refine lv_iload_n hx hb dL_law_249 rfl (lv_at hl 3 rfl) ?_
        refine lv_iconst (v := (2 : Int32)) hx hb dL_law_250 (by decide) ?_
        refine lv_iadd hx hb dL_law_251 ?_
        refine va_sld hx hb hX hbl hbA hS (law_ix (j := 2) ex3 hgo hL20 (by decide)) dL_law_252 ?_
        refine tope ea2 ?_
        refine law_I (u' := v') hCM hS hPB hapM (law_run (As := [.int a1, .int a2]) (rest := []) okM hCM hx hb hml hown hts hPM hS (c_X10_rate l evM a1 a2 v h2 H.size) kv_X10_rate ml_L_22 (rvM0 evM v) hl.1 rfl rfl (Nat.le_of_ble_eq_true rfl) ⟨Nat.le_of_ble_eq_true rfl, Nat.le_of_ble_eq_true rfl⟩ dL_law_253 ⟨hkc, hks⟩) (fun H locs hPM hPB hS => ?_)
        refine lv_pop hx hb dL_law_256 rfl ?_
        refine lv_goto (tgt := 1617) hx hb dL_law_257 (by decide) ?_
        exact hnext _ _ _ _ ls hPB hPM hS hRel hl
      by_cases y2 : w0 = (2 : Int32)
      · refine lv_tableIn (tgt := 260) (off := 227) hx hb dL_law_33 (by rw [y2]; decide) (by rw [y2]; decide) (by rw [y2]; decide) (by decide) ?_
        obtain ⟨r, u', r2, v', h1, h2, hRel, he⟩ := hst.2.2.1 k u v a1 (by omega) hRel
        refine lv_aload_n hx hb dL_law_260 rfl (lv_at hl 1 rfl) ?_
        refine lv_aload_n hx hb dL_law_261 rfl (lv_at hl 0 rfl) ?_
        refine lv_iload_n hx hb dL_law_262 rfl (lv_at hl 3 rfl) ?_
        refine lv_iconst (v := (1 : Int32)) hx hb dL_law_263 (by decide) ?_
        refine lv_iadd hx hb dL_law_264 ?_
        refine va_sld hx hb hX hbl hbA hS (law_ix (j := 1) ex3 hgo hL20 (by decide)) dL_law_265 ?_
        refine tope ea1 ?_
        refine law_I (u' := u') hCB hS hPM hapB (law_run (As := [.int a1]) (rest := []) okB hCB hx hb hml hown hts hPB hS (c_X9_lots l evB a1 u h1 H.size) kv_X9_lots ml_L_23 (rvB0 evB u) hl.1 rfl rfl (Nat.le_of_ble_eq_true rfl) ⟨Nat.le_of_ble_eq_true rfl, Nat.le_of_ble_eq_true rfl⟩ dL_law_266 ⟨hkc, hks⟩) (fun H locs hPB hPM hS => ?_)
        refine lv_pop hx hb dL_law_269 rfl ?_
        refine lv_aload_n hx hb dL_law_270 rfl (lv_at hl 2 rfl) ?_
        refine lv_aload_n hx hb dL_law_271 rfl (lv_at hl 0 rfl) ?_
        refine lv_iload_n hx hb dL_law_272 rfl (lv_at hl 3 rfl) ?_
        refine lv_iconst (v := (1 : Int32)) hx hb dL_law_273 (by decide) ?_
        refine lv_iadd hx hb dL_law_274 ?_
        refine va_sld hx hb hX hbl hbA hS (law_ix (j := 1) ex3 hgo hL20 (by decide)) dL_law_275 ?_
        refine tope ea1 ?_
        refine law_I (u' := v') hCM hS hPB hapM (law_run (As := [.int a1]) (rest := []) okM hCM hx hb hml hown hts hPM hS (c_X10_lots l evM a1 v h2 H.size) kv_X10_lots ml_L_26 (rvM0 evM v) hl.1 rfl rfl (Nat.le_of_ble_eq_true rfl) ⟨Nat.le_of_ble_eq_true rfl, Nat.le_of_ble_eq_true rfl⟩ dL_law_276 ⟨hkc, hks⟩) (fun H locs hPM hPB hS => ?_)
        refine lv_pop hx hb dL_law_279 rfl ?_
        refine lv_goto (tgt := 1617) hx hb dL_law_280 (by decide) ?_
        exact hnext _ _ _ _ ls hPB hPM hS hRel hl
      by_cases y3 : w0 = (3 : Int32)
      · refine lv_tableIn (tgt := 283) (off := 250) hx hb dL_law_33 (by rw [y3]; decide) (by rw [y3]; decide) (by rw [y3]; decide) (by decide) ?_
        obtain ⟨r, u', r2, v', h1, h2, hRel, he⟩ := hst.2.2.2.1 k u v a1 (by omega) hRel
        refine lv_aload_n hx hb dL_law_283 rfl (lv_at hl 1 rfl) ?_
        refine lv_aload_n hx hb dL_law_284 rfl (lv_at hl 0 rfl) ?_
        refine lv_iload_n hx hb dL_law_285 rfl (lv_at hl 3 rfl) ?_
        refine lv_iconst (v := (1 : Int32)) hx hb dL_law_286 (by decide) ?_
        refine lv_iadd hx hb dL_law_287 ?_
        refine va_sld hx hb hX hbl hbA hS (law_ix (j := 1) ex3 hgo hL20 (by decide)) dL_law_288 ?_
        refine tope ea1 ?_
        refine law_I (u' := u') hCB hS hPM hapB (law_run (As := [.int a1]) (rest := []) okB hCB hx hb hml hown hts hPB hS (c_X9_closing l evB a1 u h1 H.size) kv_X9_closing ml_L_27 (rvB0 evB u) hl.1 rfl rfl (Nat.le_of_ble_eq_true rfl) ⟨Nat.le_of_ble_eq_true rfl, Nat.le_of_ble_eq_true rfl⟩ dL_law_289 ⟨hkc, hks⟩) (fun H locs hPB hPM hS => ?_)
        refine lv_pop hx hb dL_law_292 rfl ?_
        refine lv_aload_n hx hb dL_law_293 rfl (lv_at hl 2 rfl) ?_
        refine lv_aload_n hx hb dL_law_294 rfl (lv_at hl 0 rfl) ?_
        refine lv_iload_n hx hb dL_law_295 rfl (lv_at hl 3 rfl) ?_
        refine lv_iconst (v := (1 : Int32)) hx hb dL_law_296 (by decide) ?_
        refine lv_iadd hx hb dL_law_297 ?_
        refine va_sld hx hb hX hbl hbA hS (law_ix (j := 1) ex3 hgo hL20 (by decide)) dL_law_298 ?_
        refine tope ea1 ?_
        refine law_I (u' := v') hCM hS hPB hapM (law_run (As := [.int a1]) (rest := []) okM hCM hx hb hml hown hts hPM hS (c_X10_closing l evM a1 v h2 H.size) kv_X10_closing ml_L_30 (rvM0 evM v) hl.1 rfl rfl (Nat.le_of_ble_eq_true rfl) ⟨Nat.le_of_ble_eq_true rfl, Nat.le_of_ble_eq_true rfl⟩ dL_law_299 ⟨hkc, hks⟩) (fun H locs hPM hPB hS => ?_)
        refine lv_pop hx hb dL_law_302 rfl ?_
        refine lv_goto (tgt := 1617) hx hb dL_law_303 (by decide) ?_
        exact hnext _ _ _ _ ls hPB hPM hS hRel hl
      by_cases y4 : w0 = (4 : Int32)
      · refine lv_tableIn (tgt := 306) (off := 273) hx hb dL_law_33 (by rw [y4]; decide) (by rw [y4]; decide) (by rw [y4]; decide) (by decide) ?_
        obtain ⟨r, u', r2, v', h1, h2, hRel, he⟩ := hst.2.2.2.2.1 k u v a1 a2 a3 a4 a5 a6 a7 a8 a9 (by omega) hRel
        refine lv_aload_n hx hb dL_law_306 rfl (lv_at hl 1 rfl) ?_
        refine lv_aload_n hx hb dL_law_307 rfl (lv_at hl 0 rfl) ?_
        refine lv_iload_n hx hb dL_law_308 rfl (lv_at hl 3 rfl) ?_
        refine lv_iconst (v := (1 : Int32)) hx hb dL_law_309 (by decide) ?_
        refine lv_iadd hx hb dL_law_310 ?_
        refine va_sld hx hb hX hbl hbA hS (law_ix (j := 1) ex3 hgo hL20 (by decide)) dL_law_311 ?_
        refine tope ea1 ?_
        refine lv_aload_n hx hb dL_law_312 rfl (lv_at hl 0 rfl) ?_
        refine lv_iload_n hx hb dL_law_313 rfl (lv_at hl 3 rfl) ?_
        refine lv_iconst (v := (2 : Int32)) hx hb dL_law_314 (by decide) ?_
        refine lv_iadd hx hb dL_law_315 ?_
        refine va_sld hx hb hX hbl hbA hS (law_ix (j := 2) ex3 hgo hL20 (by decide)) dL_law_316 ?_
        refine tope ea2 ?_
        refine lv_aload_n hx hb dL_law_317 rfl (lv_at hl 0 rfl) ?_
        refine lv_iload_n hx hb dL_law_318 rfl (lv_at hl 3 rfl) ?_
        refine lv_iconst (v := (3 : Int32)) hx hb dL_law_319 (by decide) ?_
        refine lv_iadd hx hb dL_law_320 ?_
        refine va_sld hx hb hX hbl hbA hS (law_ix (j := 3) ex3 hgo hL20 (by decide)) dL_law_321 ?_
        refine tope ea3 ?_
        refine lv_aload_n hx hb dL_law_322 rfl (lv_at hl 0 rfl) ?_
        refine lv_iload_n hx hb dL_law_323 rfl (lv_at hl 3 rfl) ?_
        refine lv_iconst (v := (4 : Int32)) hx hb dL_law_324 (by decide) ?_
        refine lv_iadd hx hb dL_law_325 ?_
        refine va_sld hx hb hX hbl hbA hS (law_ix (j := 4) ex3 hgo hL20 (by decide)) dL_law_326 ?_
        refine tope ea4 ?_
        refine lv_aload_n hx hb dL_law_327 rfl (lv_at hl 0 rfl) ?_
        refine lv_iload_n hx hb dL_law_328 rfl (lv_at hl 3 rfl) ?_
        refine lv_iconst (v := (5 : Int32)) hx hb dL_law_329 (by decide) ?_
        refine lv_iadd hx hb dL_law_330 ?_
        refine va_sld hx hb hX hbl hbA hS (law_ix (j := 5) ex3 hgo hL20 (by decide)) dL_law_331 ?_
        refine tope ea5 ?_
        refine lv_aload_n hx hb dL_law_332 rfl (lv_at hl 0 rfl) ?_
        refine lv_iload_n hx hb dL_law_333 rfl (lv_at hl 3 rfl) ?_
        refine lv_bipush (v := (6 : Int32)) hx hb dL_law_334 (by decide) ?_
        refine lv_iadd hx hb dL_law_336 ?_
        refine va_sld hx hb hX hbl hbA hS (law_ix (j := 6) ex3 hgo hL20 (by decide)) dL_law_337 ?_
        refine tope ea6 ?_
        refine lv_aload_n hx hb dL_law_338 rfl (lv_at hl 0 rfl) ?_
        refine lv_iload_n hx hb dL_law_339 rfl (lv_at hl 3 rfl) ?_
        refine lv_bipush (v := (7 : Int32)) hx hb dL_law_340 (by decide) ?_
        refine lv_iadd hx hb dL_law_342 ?_
        refine va_sld hx hb hX hbl hbA hS (law_ix (j := 7) ex3 hgo hL20 (by decide)) dL_law_343 ?_
        refine tope ea7 ?_
        refine lv_aload_n hx hb dL_law_344 rfl (lv_at hl 0 rfl) ?_
        refine lv_iload_n hx hb dL_law_345 rfl (lv_at hl 3 rfl) ?_
        refine lv_bipush (v := (8 : Int32)) hx hb dL_law_346 (by decide) ?_
        refine lv_iadd hx hb dL_law_348 ?_
        refine va_sld hx hb hX hbl hbA hS (law_ix (j := 8) ex3 hgo hL20 (by decide)) dL_law_349 ?_
        refine tope ea8 ?_
        refine lv_aload_n hx hb dL_law_350 rfl (lv_at hl 0 rfl) ?_
        refine lv_iload_n hx hb dL_law_351 rfl (lv_at hl 3 rfl) ?_
        refine lv_bipush (v := (9 : Int32)) hx hb dL_law_352 (by decide) ?_
        refine lv_iadd hx hb dL_law_354 ?_
        refine va_sld hx hb hX hbl hbA hS (law_ix (j := 9) ex3 hgo hL20 (by decide)) dL_law_355 ?_
        refine tope ea9 ?_
        refine law_I (u' := u') hCB hS hPM hapB (law_run (As := [.int a1, .int a2, .int a3, .int a4, .int a5, .int a6, .int a7, .int a8, .int a9]) (rest := []) okB hCB hx hb hml hown hts hPB hS (c_X9_bid l evB a1 a2 a3 a4 a5 a6 a7 a8 a9 u h1 H.size) kv_X9_bid ml_L_31 (rvB0 evB u) hl.1 rfl rfl (Nat.le_of_ble_eq_true rfl) ⟨Nat.le_of_ble_eq_true rfl, Nat.le_of_ble_eq_true rfl⟩ dL_law_356 ⟨hkc, hks⟩) (fun H locs hPB hPM hS => ?_)
        refine lv_pop hx hb dL_law_359 rfl ?_
        refine lv_aload_n hx hb dL_law_360 rfl (lv_at hl 2 rfl) ?_
        refine lv_aload_n hx hb dL_law_361 rfl (lv_at hl 0 rfl) ?_
        refine lv_iload_n hx hb dL_law_362 rfl (lv_at hl 3 rfl) ?_
        refine lv_iconst (v := (1 : Int32)) hx hb dL_law_363 (by decide) ?_
        refine lv_iadd hx hb dL_law_364 ?_
        refine va_sld hx hb hX hbl hbA hS (law_ix (j := 1) ex3 hgo hL20 (by decide)) dL_law_365 ?_
        refine tope ea1 ?_
        refine lv_aload_n hx hb dL_law_366 rfl (lv_at hl 0 rfl) ?_
        refine lv_iload_n hx hb dL_law_367 rfl (lv_at hl 3 rfl) ?_
        refine lv_iconst (v := (2 : Int32)) hx hb dL_law_368 (by decide) ?_
        refine lv_iadd hx hb dL_law_369 ?_
        refine va_sld hx hb hX hbl hbA hS (law_ix (j := 2) ex3 hgo hL20 (by decide)) dL_law_370 ?_
        refine tope ea2 ?_
        refine lv_aload_n hx hb dL_law_371 rfl (lv_at hl 0 rfl) ?_
        refine lv_iload_n hx hb dL_law_372 rfl (lv_at hl 3 rfl) ?_
        refine lv_iconst (v := (3 : Int32)) hx hb dL_law_373 (by decide) ?_
        refine lv_iadd hx hb dL_law_374 ?_
        refine va_sld hx hb hX hbl hbA hS (law_ix (j := 3) ex3 hgo hL20 (by decide)) dL_law_375 ?_
        refine tope ea3 ?_
        refine lv_aload_n hx hb dL_law_376 rfl (lv_at hl 0 rfl) ?_
        refine lv_iload_n hx hb dL_law_377 rfl (lv_at hl 3 rfl) ?_
        refine lv_iconst (v := (4 : Int32)) hx hb dL_law_378 (by decide) ?_
        refine lv_iadd hx hb dL_law_379 ?_
        refine va_sld hx hb hX hbl hbA hS (law_ix (j := 4) ex3 hgo hL20 (by decide)) dL_law_380 ?_
        refine tope ea4 ?_
        refine lv_aload_n hx hb dL_law_381 rfl (lv_at hl 0 rfl) ?_
        refine lv_iload_n hx hb dL_law_382 rfl (lv_at hl 3 rfl) ?_
        refine lv_iconst (v := (5 : Int32)) hx hb dL_law_383 (by decide) ?_
        refine lv_iadd hx hb dL_law_384 ?_
        refine va_sld hx hb hX hbl hbA hS (law_ix (j := 5) ex3 hgo hL20 (by decide)) dL_law_385 ?_
        refine tope ea5 ?_
        refine lv_aload_n hx hb dL_law_386 rfl (lv_at hl 0 rfl) ?_
        refine lv_iload_n hx hb dL_law_387 rfl (lv_at hl 3 rfl) ?_
        refine lv_bipush (v := (6 : Int32)) hx hb dL_law_388 (by decide) ?_
        refine lv_iadd hx hb dL_law_390 ?_
        refine va_sld hx hb hX hbl hbA hS (law_ix (j := 6) ex3 hgo hL20 (by decide)) dL_law_391 ?_
        refine tope ea6 ?_
        refine lv_aload_n hx hb dL_law_392 rfl (lv_at hl 0 rfl) ?_
        refine lv_iload_n hx hb dL_law_393 rfl (lv_at hl 3 rfl) ?_
        refine lv_bipush (v := (7 : Int32)) hx hb dL_law_394 (by decide) ?_
        refine lv_iadd hx hb dL_law_396 ?_
        refine va_sld hx hb hX hbl hbA hS (law_ix (j := 7) ex3 hgo hL20 (by decide)) dL_law_397 ?_
        refine tope ea7 ?_
        refine lv_aload_n hx hb dL_law_398 rfl (lv_at hl 0 rfl) ?_
        refine lv_iload_n hx hb dL_law_399 rfl (lv_at hl 3 rfl) ?_
        refine lv_bipush (v := (8 : Int32)) hx hb dL_law_400 (by decide) ?_
        refine lv_iadd hx hb dL_law_402 ?_
        refine va_sld hx hb hX hbl hbA hS (law_ix (j := 8) ex3 hgo hL20 (by decide)) dL_law_403 ?_
        refine tope ea8 ?_
        refine lv_aload_n hx hb dL_law_404 rfl (lv_at hl 0 rfl) ?_
        refine lv_iload_n hx hb dL_law_405 rfl (lv_at hl 3 rfl) ?_
        refine lv_bipush (v := (9 : Int32)) hx hb dL_law_406 (by decide) ?_
        refine lv_iadd hx hb dL_law_408 ?_
        refine va_sld hx hb hX hbl hbA hS (law_ix (j := 9) ex3 hgo hL20 (by decide)) dL_law_409 ?_
        refine tope ea9 ?_
        refine law_I (u' := v') hCM hS hPB hapM (law_run (As := [.int a1, .int a2, .int a3, .int a4, .int a5, .int a6, .int a7, .int a8, .int a9]) (rest := []) okM hCM hx hb hml hown hts hPM hS (c_X10_bid l evM a1 a2 a3 a4 a5 a6 a7 a8 a9 v h2 H.size) kv_X10_bid ml_L_35 (rvM0 evM v) hl.1 rfl rfl (Nat.le_of_ble_eq_true rfl) ⟨Nat.le_of_ble_eq_true rfl, Nat.le_of_ble_eq_true rfl⟩ dL_law_410 ⟨hkc, hks⟩) (fun H locs hPM hPB hS => ?_)
        refine lv_pop hx hb dL_law_413 rfl ?_
        refine lv_goto (tgt := 1617) hx hb dL_law_414 (by decide) ?_
        exact hnext _ _ _ _ ls hPB hPM hS hRel hl
      by_cases y5 : w0 = (5 : Int32)
      · refine lv_tableIn (tgt := 417) (off := 384) hx hb dL_law_33 (by rw [y5]; decide) (by rw [y5]; decide) (by rw [y5]; decide) (by decide) ?_
        obtain ⟨r, u', r2, v', h1, h2, hRel, he⟩ := hst.2.2.2.2.2.1 k u v a1 a2 (by omega) hRel
        refine lv_aload_n hx hb dL_law_417 rfl (lv_at hl 1 rfl) ?_
        refine lv_aload_n hx hb dL_law_418 rfl (lv_at hl 0 rfl) ?_
        refine lv_iload_n hx hb dL_law_419 rfl (lv_at hl 3 rfl) ?_
        refine lv_iconst (v := (1 : Int32)) hx hb dL_law_420 (by decide) ?_
        refine lv_iadd hx hb dL_law_421 ?_
        refine va_sld hx hb hX hbl hbA hS (law_ix (j := 1) ex3 hgo hL20 (by decide)) dL_law_422 ?_
        refine tope ea1 ?_
        refine lv_aload_n hx hb dL_law_423 rfl (lv_at hl 0 rfl) ?_
        refine lv_iload_n hx hb dL_law_424 rfl (lv_at hl 3 rfl) ?_
        refine lv_iconst (v := (2 : Int32)) hx hb dL_law_425 (by decide) ?_
        refine lv_iadd hx hb dL_law_426 ?_
        refine va_sld hx hb hX hbl hbA hS (law_ix (j := 2) ex3 hgo hL20 (by decide)) dL_law_427 ?_
        refine tope ea2 ?_
        refine law_I (u' := u') hCB hS hPM hapB (law_run (As := [.int a1, .int a2]) (rest := []) okB hCB hx hb hml hown hts hPB hS (c_X9_withdraw l evB a1 a2 u h1 H.size) kv_X9_withdraw ml_L_36 (rvB0 evB u) hl.1 rfl rfl (Nat.le_of_ble_eq_true rfl) ⟨Nat.le_of_ble_eq_true rfl, Nat.le_of_ble_eq_true rfl⟩ dL_law_428 ⟨hkc, hks⟩) (fun H locs hPB hPM hS => ?_)
        refine lv_pop hx hb dL_law_431 rfl ?_
        refine lv_aload_n hx hb dL_law_432 rfl (lv_at hl 2 rfl) ?_
        refine lv_aload_n hx hb dL_law_433 rfl (lv_at hl 0 rfl) ?_
        refine lv_iload_n hx hb dL_law_434 rfl (lv_at hl 3 rfl) ?_
        refine lv_iconst (v := (1 : Int32)) hx hb dL_law_435 (by decide) ?_
        refine lv_iadd hx hb dL_law_436 ?_
        refine va_sld hx hb hX hbl hbA hS (law_ix (j := 1) ex3 hgo hL20 (by decide)) dL_law_437 ?_
        refine tope ea1 ?_
        refine lv_aload_n hx hb dL_law_438 rfl (lv_at hl 0 rfl) ?_
        refine lv_iload_n hx hb dL_law_439 rfl (lv_at hl 3 rfl) ?_
        refine lv_iconst (v := (2 : Int32)) hx hb dL_law_440 (by decide) ?_
        refine lv_iadd hx hb dL_law_441 ?_
        refine va_sld hx hb hX hbl hbA hS (law_ix (j := 2) ex3 hgo hL20 (by decide)) dL_law_442 ?_
        refine tope ea2 ?_
        refine law_I (u' := v') hCM hS hPB hapM (law_run (As := [.int a1, .int a2]) (rest := []) okM hCM hx hb hml hown hts hPM hS (c_X10_withdraw l evM a1 a2 v h2 H.size) kv_X10_withdraw ml_L_39 (rvM0 evM v) hl.1 rfl rfl (Nat.le_of_ble_eq_true rfl) ⟨Nat.le_of_ble_eq_true rfl, Nat.le_of_ble_eq_true rfl⟩ dL_law_443 ⟨hkc, hks⟩) (fun H locs hPM hPB hS => ?_)
        refine lv_pop hx hb dL_law_446 rfl ?_
        refine lv_goto (tgt := 1617) hx hb dL_law_447 (by decide) ?_
        exact hnext _ _ _ _ ls hPB hPM hS hRel hl
      by_cases y6 : w0 = (6 : Int32)
      · refine lv_tableIn (tgt := 450) (off := 417) hx hb dL_law_33 (by rw [y6]; decide) (by rw [y6]; decide) (by rw [y6]; decide) (by decide) ?_
        obtain ⟨r, u', r2, v', h1, h2, hRel, he⟩ := hst.2.2.2.2.2.2.1 k u v a1 a2 (by omega) hRel
        refine lv_aload_n hx hb dL_law_450 rfl (lv_at hl 1 rfl) ?_
        refine lv_aload_n hx hb dL_law_451 rfl (lv_at hl 0 rfl) ?_
        refine lv_iload_n hx hb dL_law_452 rfl (lv_at hl 3 rfl) ?_
        refine lv_iconst (v := (1 : Int32)) hx hb dL_law_453 (by decide) ?_
        refine lv_iadd hx hb dL_law_454 ?_
        refine va_sld hx hb hX hbl hbA hS (law_ix (j := 1) ex3 hgo hL20 (by decide)) dL_law_455 ?_
        refine tope ea1 ?_
        refine lv_aload_n hx hb dL_law_456 rfl (lv_at hl 0 rfl) ?_
        refine lv_iload_n hx hb dL_law_457 rfl (lv_at hl 3 rfl) ?_
        refine lv_iconst (v := (2 : Int32)) hx hb dL_law_458 (by decide) ?_
        refine lv_iadd hx hb dL_law_459 ?_
        refine va_sld hx hb hX hbl hbA hS (law_ix (j := 2) ex3 hgo hL20 (by decide)) dL_law_460 ?_
        refine tope ea2 ?_
        refine law_I (u' := u') hCB hS hPM hapB (law_run (As := [.int a1, .int a2]) (rest := []) okB hCB hx hb hml hown hts hPB hS (c_X9_set l evB a1 a2 u h1 H.size) kv_X9_set ml_L_40 (rvB0 evB u) hl.1 rfl rfl (Nat.le_of_ble_eq_true rfl) ⟨Nat.le_of_ble_eq_true rfl, Nat.le_of_ble_eq_true rfl⟩ dL_law_461 ⟨hkc, hks⟩) (fun H locs hPB hPM hS => ?_)
        refine lv_pop hx hb dL_law_464 rfl ?_
        refine lv_aload_n hx hb dL_law_465 rfl (lv_at hl 2 rfl) ?_
        refine lv_aload_n hx hb dL_law_466 rfl (lv_at hl 0 rfl) ?_
        refine lv_iload_n hx hb dL_law_467 rfl (lv_at hl 3 rfl) ?_
        refine lv_iconst (v := (1 : Int32)) hx hb dL_law_468 (by decide) ?_
        refine lv_iadd hx hb dL_law_469 ?_
        refine va_sld hx hb hX hbl hbA hS (law_ix (j := 1) ex3 hgo hL20 (by decide)) dL_law_470 ?_
        refine tope ea1 ?_
        refine lv_aload_n hx hb dL_law_471 rfl (lv_at hl 0 rfl) ?_
        refine lv_iload_n hx hb dL_law_472 rfl (lv_at hl 3 rfl) ?_
        refine lv_iconst (v := (2 : Int32)) hx hb dL_law_473 (by decide) ?_
        refine lv_iadd hx hb dL_law_474 ?_
        refine va_sld hx hb hX hbl hbA hS (law_ix (j := 2) ex3 hgo hL20 (by decide)) dL_law_475 ?_
        refine tope ea2 ?_
        refine law_I (u' := v') hCM hS hPB hapM (law_run (As := [.int a1, .int a2]) (rest := []) okM hCM hx hb hml hown hts hPM hS (c_X10_set l evM a1 a2 v h2 H.size) kv_X10_set ml_L_43 (rvM0 evM v) hl.1 rfl rfl (Nat.le_of_ble_eq_true rfl) ⟨Nat.le_of_ble_eq_true rfl, Nat.le_of_ble_eq_true rfl⟩ dL_law_476 ⟨hkc, hks⟩) (fun H locs hPM hPB hS => ?_)
        refine lv_pop hx hb dL_law_479 rfl ?_
        refine lv_goto (tgt := 1617) hx hb dL_law_480 (by decide) ?_
        exact hnext _ _ _ _ ls hPB hPM hS hRel hl
      by_cases y7 : w0 = (7 : Int32)
      · refine lv_tableIn (tgt := 483) (off := 450) hx hb dL_law_33 (by rw [y7]; decide) (by rw [y7]; decide) (by rw [y7]; decide) (by decide) ?_
        obtain ⟨r, u', r2, v', h1, h2, hRel, he⟩ := hst.2.2.2.2.2.2.2.1 k u v a1 a2 (by omega) hRel
        refine lv_aload_n hx hb dL_law_483 rfl (lv_at hl 1 rfl) ?_
        refine lv_aload_n hx hb dL_law_484 rfl (lv_at hl 0 rfl) ?_
        refine lv_iload_n hx hb dL_law_485 rfl (lv_at hl 3 rfl) ?_
        refine lv_iconst (v := (1 : Int32)) hx hb dL_law_486 (by decide) ?_
        refine lv_iadd hx hb dL_law_487 ?_
        refine va_sld hx hb hX hbl hbA hS (law_ix (j := 1) ex3 hgo hL20 (by decide)) dL_law_488 ?_
        refine tope ea1 ?_
        refine lv_aload_n hx hb dL_law_489 rfl (lv_at hl 0 rfl) ?_
        refine lv_iload_n hx hb dL_law_490 rfl (lv_at hl 3 rfl) ?_
        refine lv_iconst (v := (2 : Int32)) hx hb dL_law_491 (by decide) ?_
        refine lv_iadd hx hb dL_law_492 ?_
        refine va_sld hx hb hX hbl hbA hS (law_ix (j := 2) ex3 hgo hL20 (by decide)) dL_law_493 ?_
        refine tope ea2 ?_
        refine law_I (u' := u') hCB hS hPM hapB (law_run (As := [.int a1, .int a2]) (rest := []) okB hCB hx hb hml hown hts hPB hS (c_X9_price l evB a1 a2 u h1 H.size) kv_X9_price ml_L_44 (rvB0 evB u) hl.1 rfl rfl (Nat.le_of_ble_eq_true rfl) ⟨Nat.le_of_ble_eq_true rfl, Nat.le_of_ble_eq_true rfl⟩ dL_law_494 ⟨hkc, hks⟩) (fun H locs hPB hPM hS => ?_)
        refine lv_pop hx hb dL_law_497 rfl ?_
        refine lv_aload_n hx hb dL_law_498 rfl (lv_at hl 2 rfl) ?_
        refine lv_aload_n hx hb dL_law_499 rfl (lv_at hl 0 rfl) ?_
        refine lv_iload_n hx hb dL_law_500 rfl (lv_at hl 3 rfl) ?_
        refine lv_iconst (v := (1 : Int32)) hx hb dL_law_501 (by decide) ?_
        refine lv_iadd hx hb dL_law_502 ?_
        refine va_sld hx hb hX hbl hbA hS (law_ix (j := 1) ex3 hgo hL20 (by decide)) dL_law_503 ?_
        refine tope ea1 ?_
        refine lv_aload_n hx hb dL_law_504 rfl (lv_at hl 0 rfl) ?_
        refine lv_iload_n hx hb dL_law_505 rfl (lv_at hl 3 rfl) ?_
        refine lv_iconst (v := (2 : Int32)) hx hb dL_law_506 (by decide) ?_
        refine lv_iadd hx hb dL_law_507 ?_
        refine va_sld hx hb hX hbl hbA hS (law_ix (j := 2) ex3 hgo hL20 (by decide)) dL_law_508 ?_
        refine tope ea2 ?_
        refine law_I (u' := v') hCM hS hPB hapM (law_run (As := [.int a1, .int a2]) (rest := []) okM hCM hx hb hml hown hts hPM hS (c_X10_price l evM a1 a2 v h2 H.size) kv_X10_price ml_L_47 (rvM0 evM v) hl.1 rfl rfl (Nat.le_of_ble_eq_true rfl) ⟨Nat.le_of_ble_eq_true rfl, Nat.le_of_ble_eq_true rfl⟩ dL_law_509 ⟨hkc, hks⟩) (fun H locs hPM hPB hS => ?_)
        refine lv_pop hx hb dL_law_512 rfl ?_
        refine lv_goto (tgt := 1617) hx hb dL_law_513 (by decide) ?_
        exact hnext _ _ _ _ ls hPB hPM hS hRel hl
      by_cases y8 : w0 = (8 : Int32)
      · refine lv_tableIn (tgt := 516) (off := 483) hx hb dL_law_33 (by rw [y8]; decide) (by rw [y8]; decide) (by rw [y8]; decide) (by decide) ?_
        obtain ⟨r, u', r2, v', h1, h2, hRel, he⟩ := hst.2.2.2.2.2.2.2.2.1 k u v a1 a2 a3 a4 (by omega) hRel
        refine lv_aload_n hx hb dL_law_516 rfl (lv_at hl 1 rfl) ?_
        refine lv_aload_n hx hb dL_law_517 rfl (lv_at hl 0 rfl) ?_
        refine lv_iload_n hx hb dL_law_518 rfl (lv_at hl 3 rfl) ?_
        refine lv_iconst (v := (1 : Int32)) hx hb dL_law_519 (by decide) ?_
        refine lv_iadd hx hb dL_law_520 ?_
        refine va_sld hx hb hX hbl hbA hS (law_ix (j := 1) ex3 hgo hL20 (by decide)) dL_law_521 ?_
        refine tope ea1 ?_
        refine lv_aload_n hx hb dL_law_522 rfl (lv_at hl 0 rfl) ?_
        refine lv_iload_n hx hb dL_law_523 rfl (lv_at hl 3 rfl) ?_
        refine lv_iconst (v := (2 : Int32)) hx hb dL_law_524 (by decide) ?_
        refine lv_iadd hx hb dL_law_525 ?_
        refine va_sld hx hb hX hbl hbA hS (law_ix (j := 2) ex3 hgo hL20 (by decide)) dL_law_526 ?_
        refine tope ea2 ?_
        refine lv_aload_n hx hb dL_law_527 rfl (lv_at hl 0 rfl) ?_
        refine lv_iload_n hx hb dL_law_528 rfl (lv_at hl 3 rfl) ?_
        refine lv_iconst (v := (3 : Int32)) hx hb dL_law_529 (by decide) ?_
        refine lv_iadd hx hb dL_law_530 ?_
        refine va_sld hx hb hX hbl hbA hS (law_ix (j := 3) ex3 hgo hL20 (by decide)) dL_law_531 ?_
        refine tope ea3 ?_
        refine lv_aload_n hx hb dL_law_532 rfl (lv_at hl 0 rfl) ?_
        refine lv_iload_n hx hb dL_law_533 rfl (lv_at hl 3 rfl) ?_
        refine lv_iconst (v := (4 : Int32)) hx hb dL_law_534 (by decide) ?_
        refine lv_iadd hx hb dL_law_535 ?_
        refine va_sld hx hb hX hbl hbA hS (law_ix (j := 4) ex3 hgo hL20 (by decide)) dL_law_536 ?_
        refine tope ea4 ?_
        refine law_I (u' := u') hCB hS hPM hapB (law_run (As := [.int a1, .int a2, .int a3, .int a4]) (rest := []) okB hCB hx hb hml hown hts hPB hS (c_X9_note l evB a1 a2 a3 a4 u h1 H.size) kv_X9_note ml_L_48 (rvB0 evB u) hl.1 rfl rfl (Nat.le_of_ble_eq_true rfl) ⟨Nat.le_of_ble_eq_true rfl, Nat.le_of_ble_eq_true rfl⟩ dL_law_537 ⟨hkc, hks⟩) (fun H locs hPB hPM hS => ?_)
        refine lv_pop hx hb dL_law_540 rfl ?_
        refine lv_aload_n hx hb dL_law_541 rfl (lv_at hl 2 rfl) ?_
        refine lv_aload_n hx hb dL_law_542 rfl (lv_at hl 0 rfl) ?_
        refine lv_iload_n hx hb dL_law_543 rfl (lv_at hl 3 rfl) ?_
        refine lv_iconst (v := (1 : Int32)) hx hb dL_law_544 (by decide) ?_
        refine lv_iadd hx hb dL_law_545 ?_
        refine va_sld hx hb hX hbl hbA hS (law_ix (j := 1) ex3 hgo hL20 (by decide)) dL_law_546 ?_
        refine tope ea1 ?_
        refine lv_aload_n hx hb dL_law_547 rfl (lv_at hl 0 rfl) ?_
        refine lv_iload_n hx hb dL_law_548 rfl (lv_at hl 3 rfl) ?_
        refine lv_iconst (v := (2 : Int32)) hx hb dL_law_549 (by decide) ?_
        refine lv_iadd hx hb dL_law_550 ?_
        refine va_sld hx hb hX hbl hbA hS (law_ix (j := 2) ex3 hgo hL20 (by decide)) dL_law_551 ?_
        refine tope ea2 ?_
        refine lv_aload_n hx hb dL_law_552 rfl (lv_at hl 0 rfl) ?_
        refine lv_iload_n hx hb dL_law_553 rfl (lv_at hl 3 rfl) ?_
        refine lv_iconst (v := (3 : Int32)) hx hb dL_law_554 (by decide) ?_
        refine lv_iadd hx hb dL_law_555 ?_
        refine va_sld hx hb hX hbl hbA hS (law_ix (j := 3) ex3 hgo hL20 (by decide)) dL_law_556 ?_
        refine tope ea3 ?_
        refine lv_aload_n hx hb dL_law_557 rfl (lv_at hl 0 rfl) ?_
        refine lv_iload_n hx hb dL_law_558 rfl (lv_at hl 3 rfl) ?_
        refine lv_iconst (v := (4 : Int32)) hx hb dL_law_559 (by decide) ?_
        refine lv_iadd hx hb dL_law_560 ?_
        refine va_sld hx hb hX hbl hbA hS (law_ix (j := 4) ex3 hgo hL20 (by decide)) dL_law_561 ?_
        refine tope ea4 ?_
        refine law_I (u' := v') hCM hS hPB hapM (law_run (As := [.int a1, .int a2, .int a3, .int a4]) (rest := []) okM hCM hx hb hml hown hts hPM hS (c_X10_note l evM a1 a2 a3 a4 v h2 H.size) kv_X10_note ml_L_52 (rvM0 evM v) hl.1 rfl rfl (Nat.le_of_ble_eq_true rfl) ⟨Nat.le_of_ble_eq_true rfl, Nat.le_of_ble_eq_true rfl⟩ dL_law_562 ⟨hkc, hks⟩) (fun H locs hPM hPB hS => ?_)
        refine lv_pop hx hb dL_law_565 rfl ?_
        refine lv_goto (tgt := 1617) hx hb dL_law_566 (by decide) ?_
        exact hnext _ _ _ _ ls hPB hPM hS hRel hl
      by_cases y9 : w0 = (9 : Int32)
      · refine lv_tableIn (tgt := 569) (off := 536) hx hb dL_law_33 (by rw [y9]; decide) (by rw [y9]; decide) (by rw [y9]; decide) (by decide) ?_
        by_cases zb : a3 = 0
        · obtain ⟨r, u', r2, v', h1, h2, hRel, he⟩ := hst.2.2.2.2.2.2.2.2.2.1 k u v a1 a2 (0 : Int32) (by omega) hRel (Or.inl rfl)
          refine lv_aload_n hx hb dL_law_569 rfl (lv_at hl 1 rfl) ?_
          refine lv_aload_n hx hb dL_law_570 rfl (lv_at hl 0 rfl) ?_
          refine lv_iload_n hx hb dL_law_571 rfl (lv_at hl 3 rfl) ?_
          refine lv_iconst (v := (1 : Int32)) hx hb dL_law_572 (by decide) ?_
          refine lv_iadd hx hb dL_law_573 ?_
          refine va_sld hx hb hX hbl hbA hS (law_ix (j := 1) ex3 hgo hL20 (by decide)) dL_law_574 ?_
          refine tope ea1 ?_
          refine lv_aload_n hx hb dL_law_575 rfl (lv_at hl 0 rfl) ?_
          refine lv_iload_n hx hb dL_law_576 rfl (lv_at hl 3 rfl) ?_
          refine lv_iconst (v := (2 : Int32)) hx hb dL_law_577 (by decide) ?_
          refine lv_iadd hx hb dL_law_578 ?_
          refine va_sld hx hb hX hbl hbA hS (law_ix (j := 2) ex3 hgo hL20 (by decide)) dL_law_579 ?_
          refine tope ea2 ?_
          refine lv_aload_n hx hb dL_law_580 rfl (lv_at hl 0 rfl) ?_
          refine lv_iload_n hx hb dL_law_581 rfl (lv_at hl 3 rfl) ?_
          refine lv_iconst (v := (3 : Int32)) hx hb dL_law_582 (by decide) ?_
          refine lv_iadd hx hb dL_law_583 ?_
          refine va_sld hx hb hX hbl hbA hS (law_ix (j := 3) ex3 hgo hL20 (by decide)) dL_law_584 ?_
          refine tope ea3 ?_
          refine lv_if_eq (tgt := 592) hx hb dL_law_585 (by decide) (fun _ => ?_) (fun z => absurd zb z)
          refine lv_iconst (v := (0 : Int32)) hx hb dL_law_592 (by decide) ?_
          refine law_I (u' := u') hCB hS hPM hapB (law_run (As := [.int a1, .int a2, .int (0 : Int32)]) (rest := []) okB hCB hx hb hml hown hts hPB hS (c_X9_bar l evB a1 a2 (0 : Int32) u h1 H.size) kv_X9_bar ml_L_53 (rvB0 evB u) hl.1 rfl rfl (Nat.le_of_ble_eq_true rfl) ⟨Nat.le_of_ble_eq_true rfl, Nat.le_of_ble_eq_true rfl⟩ dL_law_593 ⟨hkc, hks⟩) (fun H locs hPB hPM hS => ?_)
          refine lv_pop hx hb dL_law_596 rfl ?_
          refine lv_aload_n hx hb dL_law_597 rfl (lv_at hl 2 rfl) ?_
          refine lv_aload_n hx hb dL_law_598 rfl (lv_at hl 0 rfl) ?_
          refine lv_iload_n hx hb dL_law_599 rfl (lv_at hl 3 rfl) ?_
          refine lv_iconst (v := (1 : Int32)) hx hb dL_law_600 (by decide) ?_
          refine lv_iadd hx hb dL_law_601 ?_
          refine va_sld hx hb hX hbl hbA hS (law_ix (j := 1) ex3 hgo hL20 (by decide)) dL_law_602 ?_
          refine tope ea1 ?_
          refine lv_aload_n hx hb dL_law_603 rfl (lv_at hl 0 rfl) ?_
          refine lv_iload_n hx hb dL_law_604 rfl (lv_at hl 3 rfl) ?_
          refine lv_iconst (v := (2 : Int32)) hx hb dL_law_605 (by decide) ?_
          refine lv_iadd hx hb dL_law_606 ?_
          refine va_sld hx hb hX hbl hbA hS (law_ix (j := 2) ex3 hgo hL20 (by decide)) dL_law_607 ?_
          refine tope ea2 ?_
          refine lv_aload_n hx hb dL_law_608 rfl (lv_at hl 0 rfl) ?_
          refine lv_iload_n hx hb dL_law_609 rfl (lv_at hl 3 rfl) ?_
          refine lv_iconst (v := (3 : Int32)) hx hb dL_law_610 (by decide) ?_
          refine lv_iadd hx hb dL_law_611 ?_
          refine va_sld hx hb hX hbl hbA hS (law_ix (j := 3) ex3 hgo hL20 (by decide)) dL_law_612 ?_
          refine tope ea3 ?_
          refine lv_if_eq (tgt := 620) hx hb dL_law_613 (by decide) (fun _ => ?_) (fun z => absurd zb z)
          refine lv_iconst (v := (0 : Int32)) hx hb dL_law_620 (by decide) ?_
          refine law_I (u' := v') hCM hS hPB hapM (law_run (As := [.int a1, .int a2, .int (0 : Int32)]) (rest := []) okM hCM hx hb hml hown hts hPM hS (c_X10_bar l evM a1 a2 (0 : Int32) v h2 H.size) kv_X10_bar ml_L_57 (rvM0 evM v) hl.1 rfl rfl (Nat.le_of_ble_eq_true rfl) ⟨Nat.le_of_ble_eq_true rfl, Nat.le_of_ble_eq_true rfl⟩ dL_law_621 ⟨hkc, hks⟩) (fun H locs hPM hPB hS => ?_)
          refine lv_pop hx hb dL_law_624 rfl ?_
          refine lv_goto (tgt := 1617) hx hb dL_law_625 (by decide) ?_
          exact hnext _ _ _ _ ls hPB hPM hS hRel hl
        · obtain ⟨r, u', r2, v', h1, h2, hRel, he⟩ := hst.2.2.2.2.2.2.2.2.2.1 k u v a1 a2 (1 : Int32) (by omega) hRel (Or.inr rfl)
          refine lv_aload_n hx hb dL_law_569 rfl (lv_at hl 1 rfl) ?_
          refine lv_aload_n hx hb dL_law_570 rfl (lv_at hl 0 rfl) ?_
          refine lv_iload_n hx hb dL_law_571 rfl (lv_at hl 3 rfl) ?_
          refine lv_iconst (v := (1 : Int32)) hx hb dL_law_572 (by decide) ?_
          refine lv_iadd hx hb dL_law_573 ?_
          refine va_sld hx hb hX hbl hbA hS (law_ix (j := 1) ex3 hgo hL20 (by decide)) dL_law_574 ?_
          refine tope ea1 ?_
          refine lv_aload_n hx hb dL_law_575 rfl (lv_at hl 0 rfl) ?_
          refine lv_iload_n hx hb dL_law_576 rfl (lv_at hl 3 rfl) ?_
          refine lv_iconst (v := (2 : Int32)) hx hb dL_law_577 (by decide) ?_
          refine lv_iadd hx hb dL_law_578 ?_
          refine va_sld hx hb hX hbl hbA hS (law_ix (j := 2) ex3 hgo hL20 (by decide)) dL_law_579 ?_
          refine tope ea2 ?_
          refine lv_aload_n hx hb dL_law_580 rfl (lv_at hl 0 rfl) ?_
          refine lv_iload_n hx hb dL_law_581 rfl (lv_at hl 3 rfl) ?_
          refine lv_iconst (v := (3 : Int32)) hx hb dL_law_582 (by decide) ?_
          refine lv_iadd hx hb dL_law_583 ?_
          refine va_sld hx hb hX hbl hbA hS (law_ix (j := 3) ex3 hgo hL20 (by decide)) dL_law_584 ?_
          refine tope ea3 ?_
          refine lv_if_eq (tgt := 592) hx hb dL_law_585 (by decide) (fun z => absurd z zb) (fun _ => ?_)
          refine lv_iconst (v := (1 : Int32)) hx hb dL_law_588 (by decide) ?_
          refine lv_goto (tgt := 593) hx hb dL_law_589 (by decide) ?_
          refine law_I (u' := u') hCB hS hPM hapB (law_run (As := [.int a1, .int a2, .int (1 : Int32)]) (rest := []) okB hCB hx hb hml hown hts hPB hS (c_X9_bar l evB a1 a2 (1 : Int32) u h1 H.size) kv_X9_bar ml_L_53 (rvB0 evB u) hl.1 rfl rfl (Nat.le_of_ble_eq_true rfl) ⟨Nat.le_of_ble_eq_true rfl, Nat.le_of_ble_eq_true rfl⟩ dL_law_593 ⟨hkc, hks⟩) (fun H locs hPB hPM hS => ?_)
          refine lv_pop hx hb dL_law_596 rfl ?_
          refine lv_aload_n hx hb dL_law_597 rfl (lv_at hl 2 rfl) ?_
          refine lv_aload_n hx hb dL_law_598 rfl (lv_at hl 0 rfl) ?_
          refine lv_iload_n hx hb dL_law_599 rfl (lv_at hl 3 rfl) ?_
          refine lv_iconst (v := (1 : Int32)) hx hb dL_law_600 (by decide) ?_
          refine lv_iadd hx hb dL_law_601 ?_
          refine va_sld hx hb hX hbl hbA hS (law_ix (j := 1) ex3 hgo hL20 (by decide)) dL_law_602 ?_
          refine tope ea1 ?_
          refine lv_aload_n hx hb dL_law_603 rfl (lv_at hl 0 rfl) ?_
          refine lv_iload_n hx hb dL_law_604 rfl (lv_at hl 3 rfl) ?_
          refine lv_iconst (v := (2 : Int32)) hx hb dL_law_605 (by decide) ?_
          refine lv_iadd hx hb dL_law_606 ?_
          refine va_sld hx hb hX hbl hbA hS (law_ix (j := 2) ex3 hgo hL20 (by decide)) dL_law_607 ?_
          refine tope ea2 ?_
          refine lv_aload_n hx hb dL_law_608 rfl (lv_at hl 0 rfl) ?_
          refine lv_iload_n hx hb dL_law_609 rfl (lv_at hl 3 rfl) ?_
          refine lv_iconst (v := (3 : Int32)) hx hb dL_law_610 (by decide) ?_
          refine lv_iadd hx hb dL_law_611 ?_
          refine va_sld hx hb hX hbl hbA hS (law_ix (j := 3) ex3 hgo hL20 (by decide)) dL_law_612 ?_
          refine tope ea3 ?_
          refine lv_if_eq (tgt := 620) hx hb dL_law_613 (by decide) (fun z => absurd z zb) (fun _ => ?_)
          refine lv_iconst (v := (1 : Int32)) hx hb dL_law_616 (by decide) ?_
          refine lv_goto (tgt := 621) hx hb dL_law_617 (by decide) ?_
          refine law_I (u' := v') hCM hS hPB hapM (law_run (As := [.int a1, .int a2, .int (1 : Int32)]) (rest := []) okM hCM hx hb hml hown hts hPM hS (c_X10_bar l evM a1 a2 (1 : Int32) v h2 H.size) kv_X10_bar ml_L_57 (rvM0 evM v) hl.1 rfl rfl (Nat.le_of_ble_eq_true rfl) ⟨Nat.le_of_ble_eq_true rfl, Nat.le_of_ble_eq_true rfl⟩ dL_law_621 ⟨hkc, hks⟩) (fun H locs hPM hPB hS => ?_)
          refine lv_pop hx hb dL_law_624 rfl ?_
          refine lv_goto (tgt := 1617) hx hb dL_law_625 (by decide) ?_
          exact hnext _ _ _ _ ls hPB hPM hS hRel hl
      by_cases y10 : w0 = (10 : Int32)
      · refine lv_tableIn (tgt := 628) (off := 595) hx hb dL_law_33 (by rw [y10]; decide) (by rw [y10]; decide) (by rw [y10]; decide) (by decide) ?_
        obtain ⟨r, u', r2, v', h1, h2, hRel, he⟩ := hst.2.2.2.2.2.2.2.2.2.2.1 k u v a1 a2 a3 (by omega) hRel
        refine lv_aload_n hx hb dL_law_628 rfl (lv_at hl 1 rfl) ?_
        refine lv_aload_n hx hb dL_law_629 rfl (lv_at hl 0 rfl) ?_
        refine lv_iload_n hx hb dL_law_630 rfl (lv_at hl 3 rfl) ?_
        refine lv_iconst (v := (1 : Int32)) hx hb dL_law_631 (by decide) ?_
        refine lv_iadd hx hb dL_law_632 ?_
        refine va_sld hx hb hX hbl hbA hS (law_ix (j := 1) ex3 hgo hL20 (by decide)) dL_law_633 ?_
        refine tope ea1 ?_
        refine lv_aload_n hx hb dL_law_634 rfl (lv_at hl 0 rfl) ?_
        refine lv_iload_n hx hb dL_law_635 rfl (lv_at hl 3 rfl) ?_
        refine lv_iconst (v := (2 : Int32)) hx hb dL_law_636 (by decide) ?_
        refine lv_iadd hx hb dL_law_637 ?_
        refine va_sld hx hb hX hbl hbA hS (law_ix (j := 2) ex3 hgo hL20 (by decide)) dL_law_638 ?_
        refine tope ea2 ?_
        refine lv_aload_n hx hb dL_law_639 rfl (lv_at hl 0 rfl) ?_
        refine lv_iload_n hx hb dL_law_640 rfl (lv_at hl 3 rfl) ?_
        refine lv_iconst (v := (3 : Int32)) hx hb dL_law_641 (by decide) ?_
        refine lv_iadd hx hb dL_law_642 ?_
        refine va_sld hx hb hX hbl hbA hS (law_ix (j := 3) ex3 hgo hL20 (by decide)) dL_law_643 ?_
        refine tope ea3 ?_
        refine law_I (u' := u') hCB hS hPM hapB (law_run (As := [.int a1, .int a2, .int a3]) (rest := []) okB hCB hx hb hml hown hts hPB hS (c_X9_quality l evB a1 a2 a3 u h1 H.size) kv_X9_quality ml_L_58 (rvB0 evB u) hl.1 rfl rfl (Nat.le_of_ble_eq_true rfl) ⟨Nat.le_of_ble_eq_true rfl, Nat.le_of_ble_eq_true rfl⟩ dL_law_644 ⟨hkc, hks⟩) (fun H locs hPB hPM hS => ?_)
        refine lv_pop hx hb dL_law_647 rfl ?_
        refine lv_aload_n hx hb dL_law_648 rfl (lv_at hl 2 rfl) ?_
        refine lv_aload_n hx hb dL_law_649 rfl (lv_at hl 0 rfl) ?_
        refine lv_iload_n hx hb dL_law_650 rfl (lv_at hl 3 rfl) ?_
        refine lv_iconst (v := (1 : Int32)) hx hb dL_law_651 (by decide) ?_
        refine lv_iadd hx hb dL_law_652 ?_
        refine va_sld hx hb hX hbl hbA hS (law_ix (j := 1) ex3 hgo hL20 (by decide)) dL_law_653 ?_
        refine tope ea1 ?_
        refine lv_aload_n hx hb dL_law_654 rfl (lv_at hl 0 rfl) ?_
        refine lv_iload_n hx hb dL_law_655 rfl (lv_at hl 3 rfl) ?_
        refine lv_iconst (v := (2 : Int32)) hx hb dL_law_656 (by decide) ?_
        refine lv_iadd hx hb dL_law_657 ?_
        refine va_sld hx hb hX hbl hbA hS (law_ix (j := 2) ex3 hgo hL20 (by decide)) dL_law_658 ?_
        refine tope ea2 ?_
        refine lv_aload_n hx hb dL_law_659 rfl (lv_at hl 0 rfl) ?_
        refine lv_iload_n hx hb dL_law_660 rfl (lv_at hl 3 rfl) ?_
        refine lv_iconst (v := (3 : Int32)) hx hb dL_law_661 (by decide) ?_
        refine lv_iadd hx hb dL_law_662 ?_
        refine va_sld hx hb hX hbl hbA hS (law_ix (j := 3) ex3 hgo hL20 (by decide)) dL_law_663 ?_
        refine tope ea3 ?_
        refine law_I (u' := v') hCM hS hPB hapM (law_run (As := [.int a1, .int a2, .int a3]) (rest := []) okM hCM hx hb hml hown hts hPM hS (c_X10_quality l evM a1 a2 a3 v h2 H.size) kv_X10_quality ml_L_62 (rvM0 evM v) hl.1 rfl rfl (Nat.le_of_ble_eq_true rfl) ⟨Nat.le_of_ble_eq_true rfl, Nat.le_of_ble_eq_true rfl⟩ dL_law_664 ⟨hkc, hks⟩) (fun H locs hPM hPB hS => ?_)
        refine lv_pop hx hb dL_law_667 rfl ?_
        refine lv_goto (tgt := 1617) hx hb dL_law_668 (by decide) ?_
        exact hnext _ _ _ _ ls hPB hPM hS hRel hl
      by_cases y11 : w0 = (11 : Int32)
      · refine lv_tableIn (tgt := 671) (off := 638) hx hb dL_law_33 (by rw [y11]; decide) (by rw [y11]; decide) (by rw [y11]; decide) (by decide) ?_
        obtain ⟨r, u', r2, v', h1, h2, hRel, he⟩ := hst.2.2.2.2.2.2.2.2.2.2.2.1 k u v a1 ((a2.toInt64 <<< ((32 : Int32).toInt64 &&& 63)) ||| (a3.toInt64 &&& (4294967295 : Int64))) (by omega) hRel
        refine lv_aload_n hx hb dL_law_671 rfl (lv_at hl 1 rfl) ?_
        refine lv_aload_n hx hb dL_law_672 rfl (lv_at hl 0 rfl) ?_
        refine lv_iload_n hx hb dL_law_673 rfl (lv_at hl 3 rfl) ?_
        refine lv_iconst (v := (1 : Int32)) hx hb dL_law_674 (by decide) ?_
        refine lv_iadd hx hb dL_law_675 ?_
        refine va_sld hx hb hX hbl hbA hS (law_ix (j := 1) ex3 hgo hL20 (by decide)) dL_law_676 ?_
        refine tope ea1 ?_
        refine lv_aload_n hx hb dL_law_677 rfl (lv_at hl 0 rfl) ?_
        refine lv_iload_n hx hb dL_law_678 rfl (lv_at hl 3 rfl) ?_
        refine lv_iconst (v := (2 : Int32)) hx hb dL_law_679 (by decide) ?_
        refine lv_iadd hx hb dL_law_680 ?_
        refine va_sld hx hb hX hbl hbA hS (law_ix (j := 2) ex3 hgo hL20 (by decide)) dL_law_681 ?_
        refine tope ea2 ?_
        refine lv_i2l (v := a2.toInt64) hx hb dL_law_682 rfl ?_
        refine lv_bipush (v := (32 : Int32)) hx hb dL_law_683 (by decide) ?_
        refine lv_lshl (v := ((a2.toInt64) <<< ((32 : Int32).toInt64 &&& 63))) hx hb dL_law_685 rfl ?_
        refine lv_aload_n hx hb dL_law_686 rfl (lv_at hl 0 rfl) ?_
        refine lv_iload_n hx hb dL_law_687 rfl (lv_at hl 3 rfl) ?_
        refine lv_iconst (v := (3 : Int32)) hx hb dL_law_688 (by decide) ?_
        refine lv_iadd hx hb dL_law_689 ?_
        refine va_sld hx hb hX hbl hbA hS (law_ix (j := 3) ex3 hgo hL20 (by decide)) dL_law_690 ?_
        refine tope ea3 ?_
        refine lv_i2l (v := a3.toInt64) hx hb dL_law_691 rfl ?_
        refine lv_ldc2 (v := (4294967295 : Int64)) hx hb hown (hts _ ct_L_63) dL_law_692 ?_
        refine lv_land hx hb dL_law_695 ?_
        refine lv_lor hx hb dL_law_696 ?_
        refine law_I (u' := u') hCB hS hPM hapB (law_run (As := [.int a1, .long (((a2.toInt64) <<< ((32 : Int32).toInt64 &&& 63)) ||| ((a3.toInt64) &&& (4294967295 : Int64)))]) (rest := []) okB hCB hx hb hml hown hts hPB hS (c_X9_feed l evB a1 (((a2.toInt64) <<< ((32 : Int32).toInt64 &&& 63)) ||| ((a3.toInt64) &&& (4294967295 : Int64))) u h1 H.size) kv_X9_feed ml_L_65 (rvB0 evB u) hl.1 rfl rfl (Nat.le_of_ble_eq_true rfl) ⟨Nat.le_of_ble_eq_true rfl, Nat.le_of_ble_eq_true rfl⟩ dL_law_697 ⟨hkc, hks⟩) (fun H locs hPB hPM hS => ?_)
        refine lv_pop hx hb dL_law_700 rfl ?_
        refine lv_aload_n hx hb dL_law_701 rfl (lv_at hl 2 rfl) ?_
        refine lv_aload_n hx hb dL_law_702 rfl (lv_at hl 0 rfl) ?_
        refine lv_iload_n hx hb dL_law_703 rfl (lv_at hl 3 rfl) ?_
        refine lv_iconst (v := (1 : Int32)) hx hb dL_law_704 (by decide) ?_
        refine lv_iadd hx hb dL_law_705 ?_
        refine va_sld hx hb hX hbl hbA hS (law_ix (j := 1) ex3 hgo hL20 (by decide)) dL_law_706 ?_
        refine tope ea1 ?_
        refine lv_aload_n hx hb dL_law_707 rfl (lv_at hl 0 rfl) ?_
        refine lv_iload_n hx hb dL_law_708 rfl (lv_at hl 3 rfl) ?_
        refine lv_iconst (v := (2 : Int32)) hx hb dL_law_709 (by decide) ?_
        refine lv_iadd hx hb dL_law_710 ?_
        refine va_sld hx hb hX hbl hbA hS (law_ix (j := 2) ex3 hgo hL20 (by decide)) dL_law_711 ?_
        refine tope ea2 ?_
        refine lv_i2l (v := a2.toInt64) hx hb dL_law_712 rfl ?_
        refine lv_bipush (v := (32 : Int32)) hx hb dL_law_713 (by decide) ?_
        refine lv_lshl (v := ((a2.toInt64) <<< ((32 : Int32).toInt64 &&& 63))) hx hb dL_law_715 rfl ?_
        refine lv_aload_n hx hb dL_law_716 rfl (lv_at hl 0 rfl) ?_
        refine lv_iload_n hx hb dL_law_717 rfl (lv_at hl 3 rfl) ?_
        refine lv_iconst (v := (3 : Int32)) hx hb dL_law_718 (by decide) ?_
        refine lv_iadd hx hb dL_law_719 ?_
        refine va_sld hx hb hX hbl hbA hS (law_ix (j := 3) ex3 hgo hL20 (by decide)) dL_law_720 ?_
        refine tope ea3 ?_
        refine lv_i2l (v := a3.toInt64) hx hb dL_law_721 rfl ?_
        refine lv_ldc2 (v := (4294967295 : Int64)) hx hb hown (hts _ ct_L_63) dL_law_722 ?_
        refine lv_land hx hb dL_law_725 ?_
        refine lv_lor hx hb dL_law_726 ?_
        refine law_I (u' := v') hCM hS hPB hapM (law_run (As := [.int a1, .long (((a2.toInt64) <<< ((32 : Int32).toInt64 &&& 63)) ||| ((a3.toInt64) &&& (4294967295 : Int64)))]) (rest := []) okM hCM hx hb hml hown hts hPM hS (c_X10_feed l evM a1 (((a2.toInt64) <<< ((32 : Int32).toInt64 &&& 63)) ||| ((a3.toInt64) &&& (4294967295 : Int64))) v h2 H.size) kv_X10_feed ml_L_69 (rvM0 evM v) hl.1 rfl rfl (Nat.le_of_ble_eq_true rfl) ⟨Nat.le_of_ble_eq_true rfl, Nat.le_of_ble_eq_true rfl⟩ dL_law_727 ⟨hkc, hks⟩) (fun H locs hPM hPB hS => ?_)
        refine lv_pop hx hb dL_law_730 rfl ?_
        refine lv_goto (tgt := 1617) hx hb dL_law_731 (by decide) ?_
        exact hnext _ _ _ _ ls hPB hPM hS hRel hl
      by_cases y12 : w0 = (12 : Int32)
      · refine lv_tableIn (tgt := 734) (off := 701) hx hb dL_law_33 (by rw [y12]; decide) (by rw [y12]; decide) (by rw [y12]; decide) (by decide) ?_
        obtain ⟨r, u', r2, v', h1, h2, hRel, he⟩ := hst.2.2.2.2.2.2.2.2.2.2.2.2.1 k u v  (by omega) hRel
        refine lv_aload_n hx hb dL_law_734 rfl (lv_at hl 1 rfl) ?_
        refine law_I (u' := u') hCB hS hPM hapB (law_run (As := []) (rest := []) okB hCB hx hb hml hown hts hPB hS (c_X9_formula l evB  u h1 H.size) kv_X9_formula ml_L_70 (rvB0 evB u) hl.1 rfl rfl (Nat.le_of_ble_eq_true rfl) ⟨Nat.le_of_ble_eq_true rfl, Nat.le_of_ble_eq_true rfl⟩ dL_law_735 ⟨hkc, hks⟩) (fun H locs hPB hPM hS => ?_)
        refine lv_pop hx hb dL_law_738 rfl ?_
        refine lv_aload_n hx hb dL_law_739 rfl (lv_at hl 2 rfl) ?_
        refine law_I (u' := v') hCM hS hPB hapM (law_run (As := []) (rest := []) okM hCM hx hb hml hown hts hPM hS (c_X10_formula l evM  v h2 H.size) kv_X10_formula ml_L_74 (rvM0 evM v) hl.1 rfl rfl (Nat.le_of_ble_eq_true rfl) ⟨Nat.le_of_ble_eq_true rfl, Nat.le_of_ble_eq_true rfl⟩ dL_law_740 ⟨hkc, hks⟩) (fun H locs hPM hPB hS => ?_)
        refine lv_pop hx hb dL_law_743 rfl ?_
        refine lv_goto (tgt := 1617) hx hb dL_law_744 (by decide) ?_
        exact hnext _ _ _ _ ls hPB hPM hS hRel hl
      by_cases y13 : w0 = (13 : Int32)
      · refine lv_tableIn (tgt := 747) (off := 714) hx hb dL_law_33 (by rw [y13]; decide) (by rw [y13]; decide) (by rw [y13]; decide) (by decide) ?_
        obtain ⟨r, u', r2, v', h1, h2, hRel, he⟩ := hst.2.2.2.2.2.2.2.2.2.2.2.2.2.1 k u v a1 a2 a3 (by omega) hRel
        refine lv_aload_n hx hb dL_law_747 rfl (lv_at hl 1 rfl) ?_
        refine lv_aload_n hx hb dL_law_748 rfl (lv_at hl 0 rfl) ?_
        refine lv_iload_n hx hb dL_law_749 rfl (lv_at hl 3 rfl) ?_
        refine lv_iconst (v := (1 : Int32)) hx hb dL_law_750 (by decide) ?_
        refine lv_iadd hx hb dL_law_751 ?_
        refine va_sld hx hb hX hbl hbA hS (law_ix (j := 1) ex3 hgo hL20 (by decide)) dL_law_752 ?_
        refine tope ea1 ?_
        refine lv_aload_n hx hb dL_law_753 rfl (lv_at hl 0 rfl) ?_
        refine lv_iload_n hx hb dL_law_754 rfl (lv_at hl 3 rfl) ?_
        refine lv_iconst (v := (2 : Int32)) hx hb dL_law_755 (by decide) ?_
        refine lv_iadd hx hb dL_law_756 ?_
        refine va_sld hx hb hX hbl hbA hS (law_ix (j := 2) ex3 hgo hL20 (by decide)) dL_law_757 ?_
        refine tope ea2 ?_
        refine lv_aload_n hx hb dL_law_758 rfl (lv_at hl 0 rfl) ?_
        refine lv_iload_n hx hb dL_law_759 rfl (lv_at hl 3 rfl) ?_
        refine lv_iconst (v := (3 : Int32)) hx hb dL_law_760 (by decide) ?_
        refine lv_iadd hx hb dL_law_761 ?_
        refine va_sld hx hb hX hbl hbA hS (law_ix (j := 3) ex3 hgo hL20 (by decide)) dL_law_762 ?_
        refine tope ea3 ?_
        refine law_L (u' := u') hCB hS hPM hapB (law_run (As := [.int a1, .int a2, .int a3]) (rest := []) okB hCB hx hb hml hown hts hPB hS (c_X9_points l evB a1 a2 a3 u h1 H.size) kv_X9_points ml_L_75 (rvB0 evB u) hl.1 rfl rfl (Nat.le_of_ble_eq_true rfl) ⟨Nat.le_of_ble_eq_true rfl, Nat.le_of_ble_eq_true rfl⟩ dL_law_763 ⟨hkc, hks⟩) (fun H locs hPB hPM hS => ?_)
        refine lv_pop2_2 hx hb dL_law_766 rfl ?_
        refine lv_aload_n hx hb dL_law_767 rfl (lv_at hl 2 rfl) ?_
        refine lv_aload_n hx hb dL_law_768 rfl (lv_at hl 0 rfl) ?_
        refine lv_iload_n hx hb dL_law_769 rfl (lv_at hl 3 rfl) ?_
        refine lv_iconst (v := (1 : Int32)) hx hb dL_law_770 (by decide) ?_
        refine lv_iadd hx hb dL_law_771 ?_
        refine va_sld hx hb hX hbl hbA hS (law_ix (j := 1) ex3 hgo hL20 (by decide)) dL_law_772 ?_
        refine tope ea1 ?_
        refine lv_aload_n hx hb dL_law_773 rfl (lv_at hl 0 rfl) ?_
        refine lv_iload_n hx hb dL_law_774 rfl (lv_at hl 3 rfl) ?_
        refine lv_iconst (v := (2 : Int32)) hx hb dL_law_775 (by decide) ?_
        refine lv_iadd hx hb dL_law_776 ?_
        refine va_sld hx hb hX hbl hbA hS (law_ix (j := 2) ex3 hgo hL20 (by decide)) dL_law_777 ?_
        refine tope ea2 ?_
        refine lv_aload_n hx hb dL_law_778 rfl (lv_at hl 0 rfl) ?_
        refine lv_iload_n hx hb dL_law_779 rfl (lv_at hl 3 rfl) ?_
        refine lv_iconst (v := (3 : Int32)) hx hb dL_law_780 (by decide) ?_
        refine lv_iadd hx hb dL_law_781 ?_
        refine va_sld hx hb hX hbl hbA hS (law_ix (j := 3) ex3 hgo hL20 (by decide)) dL_law_782 ?_
        refine tope ea3 ?_
        refine law_L (u' := v') hCM hS hPB hapM (law_run (As := [.int a1, .int a2, .int a3]) (rest := []) okM hCM hx hb hml hown hts hPM hS (c_X10_points l evM a1 a2 a3 v h2 H.size) kv_X10_points ml_L_79 (rvM0 evM v) hl.1 rfl rfl (Nat.le_of_ble_eq_true rfl) ⟨Nat.le_of_ble_eq_true rfl, Nat.le_of_ble_eq_true rfl⟩ dL_law_783 ⟨hkc, hks⟩) (fun H locs hPM hPB hS => ?_)
        refine lv_pop2_2 hx hb dL_law_786 rfl ?_
        refine lv_goto (tgt := 1617) hx hb dL_law_787 (by decide) ?_
        exact hnext _ _ _ _ ls hPB hPM hS hRel hl
      by_cases y14 : w0 = (14 : Int32)
      · refine lv_tableIn (tgt := 790) (off := 757) hx hb dL_law_33 (by rw [y14]; decide) (by rw [y14]; decide) (by rw [y14]; decide) (by decide) ?_
        obtain ⟨r, u', r2, v', h1, h2, hRel, he⟩ := hst.2.2.2.2.2.2.2.2.2.2.2.2.2.2.1 k u v a1 a2 (by omega) hRel
        refine lv_aload_n hx hb dL_law_790 rfl (lv_at hl 1 rfl) ?_
        refine lv_aload_n hx hb dL_law_791 rfl (lv_at hl 0 rfl) ?_
        refine lv_iload_n hx hb dL_law_792 rfl (lv_at hl 3 rfl) ?_
        refine lv_iconst (v := (1 : Int32)) hx hb dL_law_793 (by decide) ?_
        refine lv_iadd hx hb dL_law_794 ?_
        refine va_sld hx hb hX hbl hbA hS (law_ix (j := 1) ex3 hgo hL20 (by decide)) dL_law_795 ?_
        refine tope ea1 ?_
        refine lv_aload_n hx hb dL_law_796 rfl (lv_at hl 0 rfl) ?_
        refine lv_iload_n hx hb dL_law_797 rfl (lv_at hl 3 rfl) ?_
        refine lv_iconst (v := (2 : Int32)) hx hb dL_law_798 (by decide) ?_
        refine lv_iadd hx hb dL_law_799 ?_
        refine va_sld hx hb hX hbl hbA hS (law_ix (j := 2) ex3 hgo hL20 (by decide)) dL_law_800 ?_
        refine tope ea2 ?_
        refine law_I (u' := u') hCB hS hPM hapB (law_run (As := [.int a1, .int a2]) (rest := []) okB hCB hx hb hml hown hts hPB hS (c_X9_order l evB a1 a2 u h1 H.size) kv_X9_order ml_L_80 (rvB0 evB u) hl.1 rfl rfl (Nat.le_of_ble_eq_true rfl) ⟨Nat.le_of_ble_eq_true rfl, Nat.le_of_ble_eq_true rfl⟩ dL_law_801 ⟨hkc, hks⟩) (fun H locs hPB hPM hS => ?_)
        refine lv_pop hx hb dL_law_804 rfl ?_
        refine lv_aload_n hx hb dL_law_805 rfl (lv_at hl 2 rfl) ?_
        refine lv_aload_n hx hb dL_law_806 rfl (lv_at hl 0 rfl) ?_
        refine lv_iload_n hx hb dL_law_807 rfl (lv_at hl 3 rfl) ?_
        refine lv_iconst (v := (1 : Int32)) hx hb dL_law_808 (by decide) ?_
        refine lv_iadd hx hb dL_law_809 ?_
        refine va_sld hx hb hX hbl hbA hS (law_ix (j := 1) ex3 hgo hL20 (by decide)) dL_law_810 ?_
        refine tope ea1 ?_
        refine lv_aload_n hx hb dL_law_811 rfl (lv_at hl 0 rfl) ?_
        refine lv_iload_n hx hb dL_law_812 rfl (lv_at hl 3 rfl) ?_
        refine lv_iconst (v := (2 : Int32)) hx hb dL_law_813 (by decide) ?_
        refine lv_iadd hx hb dL_law_814 ?_
        refine va_sld hx hb hX hbl hbA hS (law_ix (j := 2) ex3 hgo hL20 (by decide)) dL_law_815 ?_
        refine tope ea2 ?_
        refine law_I (u' := v') hCM hS hPB hapM (law_run (As := [.int a1, .int a2]) (rest := []) okM hCM hx hb hml hown hts hPM hS (c_X10_order l evM a1 a2 v h2 H.size) kv_X10_order ml_L_83 (rvM0 evM v) hl.1 rfl rfl (Nat.le_of_ble_eq_true rfl) ⟨Nat.le_of_ble_eq_true rfl, Nat.le_of_ble_eq_true rfl⟩ dL_law_816 ⟨hkc, hks⟩) (fun H locs hPM hPB hS => ?_)
        refine lv_pop hx hb dL_law_819 rfl ?_
        refine lv_goto (tgt := 1617) hx hb dL_law_820 (by decide) ?_
        exact hnext _ _ _ _ ls hPB hPM hS hRel hl
      by_cases y15 : w0 = (15 : Int32)
      · refine lv_tableIn (tgt := 823) (off := 790) hx hb dL_law_33 (by rw [y15]; decide) (by rw [y15]; decide) (by rw [y15]; decide) (by decide) ?_
        obtain ⟨r, u', r2, v', h1, h2, hRel, he⟩ := hst.2.2.2.2.2.2.2.2.2.2.2.2.2.2.2.1 k u v a1 a2 a3 a4 (by omega) hRel
        refine lv_aload_n hx hb dL_law_823 rfl (lv_at hl 1 rfl) ?_
        refine lv_aload_n hx hb dL_law_824 rfl (lv_at hl 0 rfl) ?_
        refine lv_iload_n hx hb dL_law_825 rfl (lv_at hl 3 rfl) ?_
        refine lv_iconst (v := (1 : Int32)) hx hb dL_law_826 (by decide) ?_
        refine lv_iadd hx hb dL_law_827 ?_
        refine va_sld hx hb hX hbl hbA hS (law_ix (j := 1) ex3 hgo hL20 (by decide)) dL_law_828 ?_
        refine tope ea1 ?_
        refine lv_aload_n hx hb dL_law_829 rfl (lv_at hl 0 rfl) ?_
        refine lv_iload_n hx hb dL_law_830 rfl (lv_at hl 3 rfl) ?_
        refine lv_iconst (v := (2 : Int32)) hx hb dL_law_831 (by decide) ?_
        refine lv_iadd hx hb dL_law_832 ?_
        refine va_sld hx hb hX hbl hbA hS (law_ix (j := 2) ex3 hgo hL20 (by decide)) dL_law_833 ?_
        refine tope ea2 ?_
        refine lv_aload_n hx hb dL_law_834 rfl (lv_at hl 0 rfl) ?_
        refine lv_iload_n hx hb dL_law_835 rfl (lv_at hl 3 rfl) ?_
        refine lv_iconst (v := (3 : Int32)) hx hb dL_law_836 (by decide) ?_
        refine lv_iadd hx hb dL_law_837 ?_
        refine va_sld hx hb hX hbl hbA hS (law_ix (j := 3) ex3 hgo hL20 (by decide)) dL_law_838 ?_
        refine tope ea3 ?_
        refine lv_aload_n hx hb dL_law_839 rfl (lv_at hl 0 rfl) ?_
        refine lv_iload_n hx hb dL_law_840 rfl (lv_at hl 3 rfl) ?_
        refine lv_iconst (v := (4 : Int32)) hx hb dL_law_841 (by decide) ?_
        refine lv_iadd hx hb dL_law_842 ?_
        refine va_sld hx hb hX hbl hbA hS (law_ix (j := 4) ex3 hgo hL20 (by decide)) dL_law_843 ?_
        refine tope ea4 ?_
        refine law_L (u' := u') hCB hS hPM hapB (law_run (As := [.int a1, .int a2, .int a3, .int a4]) (rest := []) okB hCB hx hb hml hown hts hPB hS (c_X9_gain l evB a1 a2 a3 a4 u h1 H.size) kv_X9_gain ml_L_84 (rvB0 evB u) hl.1 rfl rfl (Nat.le_of_ble_eq_true rfl) ⟨Nat.le_of_ble_eq_true rfl, Nat.le_of_ble_eq_true rfl⟩ dL_law_844 ⟨hkc, hks⟩) (fun H locs hPB hPM hS => ?_)
        refine lv_pop2_2 hx hb dL_law_847 rfl ?_
        refine lv_aload_n hx hb dL_law_848 rfl (lv_at hl 2 rfl) ?_
        refine lv_aload_n hx hb dL_law_849 rfl (lv_at hl 0 rfl) ?_
        refine lv_iload_n hx hb dL_law_850 rfl (lv_at hl 3 rfl) ?_
        refine lv_iconst (v := (1 : Int32)) hx hb dL_law_851 (by decide) ?_
        refine lv_iadd hx hb dL_law_852 ?_
        refine va_sld hx hb hX hbl hbA hS (law_ix (j := 1) ex3 hgo hL20 (by decide)) dL_law_853 ?_
        refine tope ea1 ?_
        refine lv_aload_n hx hb dL_law_854 rfl (lv_at hl 0 rfl) ?_
        refine lv_iload_n hx hb dL_law_855 rfl (lv_at hl 3 rfl) ?_
        refine lv_iconst (v := (2 : Int32)) hx hb dL_law_856 (by decide) ?_
        refine lv_iadd hx hb dL_law_857 ?_
        refine va_sld hx hb hX hbl hbA hS (law_ix (j := 2) ex3 hgo hL20 (by decide)) dL_law_858 ?_
        refine tope ea2 ?_
        refine lv_aload_n hx hb dL_law_859 rfl (lv_at hl 0 rfl) ?_
        refine lv_iload_n hx hb dL_law_860 rfl (lv_at hl 3 rfl) ?_
        refine lv_iconst (v := (3 : Int32)) hx hb dL_law_861 (by decide) ?_
        refine lv_iadd hx hb dL_law_862 ?_
        refine va_sld hx hb hX hbl hbA hS (law_ix (j := 3) ex3 hgo hL20 (by decide)) dL_law_863 ?_
        refine tope ea3 ?_
        refine lv_aload_n hx hb dL_law_864 rfl (lv_at hl 0 rfl) ?_
        refine lv_iload_n hx hb dL_law_865 rfl (lv_at hl 3 rfl) ?_
        refine lv_iconst (v := (4 : Int32)) hx hb dL_law_866 (by decide) ?_
        refine lv_iadd hx hb dL_law_867 ?_
        refine va_sld hx hb hX hbl hbA hS (law_ix (j := 4) ex3 hgo hL20 (by decide)) dL_law_868 ?_
        refine tope ea4 ?_
        refine law_L (u' := v') hCM hS hPB hapM (law_run (As := [.int a1, .int a2, .int a3, .int a4]) (rest := []) okM hCM hx hb hml hown hts hPM hS (c_X10_gain l evM a1 a2 a3 a4 v h2 H.size) kv_X10_gain ml_L_88 (rvM0 evM v) hl.1 rfl rfl (Nat.le_of_ble_eq_true rfl) ⟨Nat.le_of_ble_eq_true rfl, Nat.le_of_ble_eq_true rfl⟩ dL_law_869 ⟨hkc, hks⟩) (fun H locs hPM hPB hS => ?_)
        refine lv_pop2_2 hx hb dL_law_872 rfl ?_
        refine lv_goto (tgt := 1617) hx hb dL_law_873 (by decide) ?_
        exact hnext _ _ _ _ ls hPB hPM hS hRel hl
      by_cases y16 : w0 = (16 : Int32)
      · refine lv_tableIn (tgt := 876) (off := 843) hx hb dL_law_33 (by rw [y16]; decide) (by rw [y16]; decide) (by rw [y16]; decide) (by decide) ?_
        obtain ⟨r, u', r2, v', h1, h2, hRel, he⟩ := hst.2.2.2.2.2.2.2.2.2.2.2.2.2.2.2.2.1 k u v a1 a2 a3 (by omega) hRel
        refine lv_aload_n hx hb dL_law_876 rfl (lv_at hl 1 rfl) ?_
        refine lv_aload_n hx hb dL_law_877 rfl (lv_at hl 0 rfl) ?_
        refine lv_iload_n hx hb dL_law_878 rfl (lv_at hl 3 rfl) ?_
        refine lv_iconst (v := (1 : Int32)) hx hb dL_law_879 (by decide) ?_
        refine lv_iadd hx hb dL_law_880 ?_
        refine va_sld hx hb hX hbl hbA hS (law_ix (j := 1) ex3 hgo hL20 (by decide)) dL_law_881 ?_
        refine tope ea1 ?_
        refine lv_aload_n hx hb dL_law_882 rfl (lv_at hl 0 rfl) ?_
        refine lv_iload_n hx hb dL_law_883 rfl (lv_at hl 3 rfl) ?_
        refine lv_iconst (v := (2 : Int32)) hx hb dL_law_884 (by decide) ?_
        refine lv_iadd hx hb dL_law_885 ?_
        refine va_sld hx hb hX hbl hbA hS (law_ix (j := 2) ex3 hgo hL20 (by decide)) dL_law_886 ?_
        refine tope ea2 ?_
        refine lv_aload_n hx hb dL_law_887 rfl (lv_at hl 0 rfl) ?_
        refine lv_iload_n hx hb dL_law_888 rfl (lv_at hl 3 rfl) ?_
        refine lv_iconst (v := (3 : Int32)) hx hb dL_law_889 (by decide) ?_
        refine lv_iadd hx hb dL_law_890 ?_
        refine va_sld hx hb hX hbl hbA hS (law_ix (j := 3) ex3 hgo hL20 (by decide)) dL_law_891 ?_
        refine tope ea3 ?_
        refine law_I (u' := u') hCB hS hPM hapB (law_run (As := [.int a1, .int a2, .int a3]) (rest := []) okB hCB hx hb hml hown hts hPB hS (c_X9_turned l evB a1 a2 a3 u h1 H.size) kv_X9_turned ml_L_89 (rvB0 evB u) hl.1 rfl rfl (Nat.le_of_ble_eq_true rfl) ⟨Nat.le_of_ble_eq_true rfl, Nat.le_of_ble_eq_true rfl⟩ dL_law_892 ⟨hkc, hks⟩) (fun H locs hPB hPM hS => ?_)
        refine lv_pop hx hb dL_law_895 rfl ?_
        refine lv_aload_n hx hb dL_law_896 rfl (lv_at hl 2 rfl) ?_
        refine lv_aload_n hx hb dL_law_897 rfl (lv_at hl 0 rfl) ?_
        refine lv_iload_n hx hb dL_law_898 rfl (lv_at hl 3 rfl) ?_
        refine lv_iconst (v := (1 : Int32)) hx hb dL_law_899 (by decide) ?_
        refine lv_iadd hx hb dL_law_900 ?_
        refine va_sld hx hb hX hbl hbA hS (law_ix (j := 1) ex3 hgo hL20 (by decide)) dL_law_901 ?_
        refine tope ea1 ?_
        refine lv_aload_n hx hb dL_law_902 rfl (lv_at hl 0 rfl) ?_
        refine lv_iload_n hx hb dL_law_903 rfl (lv_at hl 3 rfl) ?_
        refine lv_iconst (v := (2 : Int32)) hx hb dL_law_904 (by decide) ?_
        refine lv_iadd hx hb dL_law_905 ?_
        refine va_sld hx hb hX hbl hbA hS (law_ix (j := 2) ex3 hgo hL20 (by decide)) dL_law_906 ?_
        refine tope ea2 ?_
        refine lv_aload_n hx hb dL_law_907 rfl (lv_at hl 0 rfl) ?_
        refine lv_iload_n hx hb dL_law_908 rfl (lv_at hl 3 rfl) ?_
        refine lv_iconst (v := (3 : Int32)) hx hb dL_law_909 (by decide) ?_
        refine lv_iadd hx hb dL_law_910 ?_
        refine va_sld hx hb hX hbl hbA hS (law_ix (j := 3) ex3 hgo hL20 (by decide)) dL_law_911 ?_
        refine tope ea3 ?_
        refine law_I (u' := v') hCM hS hPB hapM (law_run (As := [.int a1, .int a2, .int a3]) (rest := []) okM hCM hx hb hml hown hts hPM hS (c_X10_turned l evM a1 a2 a3 v h2 H.size) kv_X10_turned ml_L_92 (rvM0 evM v) hl.1 rfl rfl (Nat.le_of_ble_eq_true rfl) ⟨Nat.le_of_ble_eq_true rfl, Nat.le_of_ble_eq_true rfl⟩ dL_law_912 ⟨hkc, hks⟩) (fun H locs hPM hPB hS => ?_)
        refine lv_pop hx hb dL_law_915 rfl ?_
        refine lv_goto (tgt := 1617) hx hb dL_law_916 (by decide) ?_
        exact hnext _ _ _ _ ls hPB hPM hS hRel hl
      by_cases y17 : w0 = (17 : Int32)
      · refine lv_tableIn (tgt := 919) (off := 886) hx hb dL_law_33 (by rw [y17]; decide) (by rw [y17]; decide) (by rw [y17]; decide) (by decide) ?_
        obtain ⟨r, u', r2, v', h1, h2, hRel, he⟩ := hst.2.2.2.2.2.2.2.2.2.2.2.2.2.2.2.2.2.1 k u v a1 a2 (by omega) hRel
        refine lv_aload_n hx hb dL_law_919 rfl (lv_at hl 1 rfl) ?_
        refine lv_aload_n hx hb dL_law_920 rfl (lv_at hl 0 rfl) ?_
        refine lv_iload_n hx hb dL_law_921 rfl (lv_at hl 3 rfl) ?_
        refine lv_iconst (v := (1 : Int32)) hx hb dL_law_922 (by decide) ?_
        refine lv_iadd hx hb dL_law_923 ?_
        refine va_sld hx hb hX hbl hbA hS (law_ix (j := 1) ex3 hgo hL20 (by decide)) dL_law_924 ?_
        refine tope ea1 ?_
        refine lv_aload_n hx hb dL_law_925 rfl (lv_at hl 0 rfl) ?_
        refine lv_iload_n hx hb dL_law_926 rfl (lv_at hl 3 rfl) ?_
        refine lv_iconst (v := (2 : Int32)) hx hb dL_law_927 (by decide) ?_
        refine lv_iadd hx hb dL_law_928 ?_
        refine va_sld hx hb hX hbl hbA hS (law_ix (j := 2) ex3 hgo hL20 (by decide)) dL_law_929 ?_
        refine tope ea2 ?_
        refine law_I (u' := u') hCB hS hPM hapB (law_run (As := [.int a1, .int a2]) (rest := []) okB hCB hx hb hml hown hts hPB hS (c_X9_low l evB a1 a2 u h1 H.size) kv_X9_low ml_L_93 (rvB0 evB u) hl.1 rfl rfl (Nat.le_of_ble_eq_true rfl) ⟨Nat.le_of_ble_eq_true rfl, Nat.le_of_ble_eq_true rfl⟩ dL_law_930 ⟨hkc, hks⟩) (fun H locs hPB hPM hS => ?_)
        refine lv_pop hx hb dL_law_933 rfl ?_
        refine lv_aload_n hx hb dL_law_934 rfl (lv_at hl 2 rfl) ?_
        refine lv_aload_n hx hb dL_law_935 rfl (lv_at hl 0 rfl) ?_
        refine lv_iload_n hx hb dL_law_936 rfl (lv_at hl 3 rfl) ?_
        refine lv_iconst (v := (1 : Int32)) hx hb dL_law_937 (by decide) ?_
        refine lv_iadd hx hb dL_law_938 ?_
        refine va_sld hx hb hX hbl hbA hS (law_ix (j := 1) ex3 hgo hL20 (by decide)) dL_law_939 ?_
        refine tope ea1 ?_
        refine lv_aload_n hx hb dL_law_940 rfl (lv_at hl 0 rfl) ?_
        refine lv_iload_n hx hb dL_law_941 rfl (lv_at hl 3 rfl) ?_
        refine lv_iconst (v := (2 : Int32)) hx hb dL_law_942 (by decide) ?_
        refine lv_iadd hx hb dL_law_943 ?_
        refine va_sld hx hb hX hbl hbA hS (law_ix (j := 2) ex3 hgo hL20 (by decide)) dL_law_944 ?_
        refine tope ea2 ?_
        refine law_I (u' := v') hCM hS hPB hapM (law_run (As := [.int a1, .int a2]) (rest := []) okM hCM hx hb hml hown hts hPM hS (c_X10_low l evM a1 a2 v h2 H.size) kv_X10_low ml_L_96 (rvM0 evM v) hl.1 rfl rfl (Nat.le_of_ble_eq_true rfl) ⟨Nat.le_of_ble_eq_true rfl, Nat.le_of_ble_eq_true rfl⟩ dL_law_945 ⟨hkc, hks⟩) (fun H locs hPM hPB hS => ?_)
        refine lv_pop hx hb dL_law_948 rfl ?_
        refine lv_goto (tgt := 1617) hx hb dL_law_949 (by decide) ?_
        exact hnext _ _ _ _ ls hPB hPM hS hRel hl
      by_cases y18 : w0 = (18 : Int32)
      · refine lv_tableIn (tgt := 952) (off := 919) hx hb dL_law_33 (by rw [y18]; decide) (by rw [y18]; decide) (by rw [y18]; decide) (by decide) ?_
        obtain ⟨r, u', r2, v', h1, h2, hRel, he⟩ := hst.2.2.2.2.2.2.2.2.2.2.2.2.2.2.2.2.2.2.1 k u v a1 a2 a3 (by omega) hRel
        refine lv_aload_n hx hb dL_law_952 rfl (lv_at hl 1 rfl) ?_
        refine lv_aload_n hx hb dL_law_953 rfl (lv_at hl 0 rfl) ?_
        refine lv_iload_n hx hb dL_law_954 rfl (lv_at hl 3 rfl) ?_
        refine lv_iconst (v := (1 : Int32)) hx hb dL_law_955 (by decide) ?_
        refine lv_iadd hx hb dL_law_956 ?_
        refine va_sld hx hb hX hbl hbA hS (law_ix (j := 1) ex3 hgo hL20 (by decide)) dL_law_957 ?_
        refine tope ea1 ?_
        refine lv_aload_n hx hb dL_law_958 rfl (lv_at hl 0 rfl) ?_
        refine lv_iload_n hx hb dL_law_959 rfl (lv_at hl 3 rfl) ?_
        refine lv_iconst (v := (2 : Int32)) hx hb dL_law_960 (by decide) ?_
        refine lv_iadd hx hb dL_law_961 ?_
        refine va_sld hx hb hX hbl hbA hS (law_ix (j := 2) ex3 hgo hL20 (by decide)) dL_law_962 ?_
        refine tope ea2 ?_
        refine lv_aload_n hx hb dL_law_963 rfl (lv_at hl 0 rfl) ?_
        refine lv_iload_n hx hb dL_law_964 rfl (lv_at hl 3 rfl) ?_
        refine lv_iconst (v := (3 : Int32)) hx hb dL_law_965 (by decide) ?_
        refine lv_iadd hx hb dL_law_966 ?_
        refine va_sld hx hb hX hbl hbA hS (law_ix (j := 3) ex3 hgo hL20 (by decide)) dL_law_967 ?_
        refine tope ea3 ?_
        refine law_I (u' := u') hCB hS hPM hapB (law_run (As := [.int a1, .int a2, .int a3]) (rest := []) okB hCB hx hb hml hown hts hPB hS (c_X9_ask l evB a1 a2 a3 u h1 H.size) kv_X9_ask ml_L_97 (rvB0 evB u) hl.1 rfl rfl (Nat.le_of_ble_eq_true rfl) ⟨Nat.le_of_ble_eq_true rfl, Nat.le_of_ble_eq_true rfl⟩ dL_law_968 ⟨hkc, hks⟩) (fun H locs hPB hPM hS => ?_)
        refine lv_pop hx hb dL_law_971 rfl ?_
        refine lv_aload_n hx hb dL_law_972 rfl (lv_at hl 2 rfl) ?_
        refine lv_aload_n hx hb dL_law_973 rfl (lv_at hl 0 rfl) ?_
        refine lv_iload_n hx hb dL_law_974 rfl (lv_at hl 3 rfl) ?_
        refine lv_iconst (v := (1 : Int32)) hx hb dL_law_975 (by decide) ?_
        refine lv_iadd hx hb dL_law_976 ?_
        refine va_sld hx hb hX hbl hbA hS (law_ix (j := 1) ex3 hgo hL20 (by decide)) dL_law_977 ?_
        refine tope ea1 ?_
        refine lv_aload_n hx hb dL_law_978 rfl (lv_at hl 0 rfl) ?_
        refine lv_iload_n hx hb dL_law_979 rfl (lv_at hl 3 rfl) ?_
        refine lv_iconst (v := (2 : Int32)) hx hb dL_law_980 (by decide) ?_
        refine lv_iadd hx hb dL_law_981 ?_
        refine va_sld hx hb hX hbl hbA hS (law_ix (j := 2) ex3 hgo hL20 (by decide)) dL_law_982 ?_
        refine tope ea2 ?_
        refine lv_aload_n hx hb dL_law_983 rfl (lv_at hl 0 rfl) ?_
        refine lv_iload_n hx hb dL_law_984 rfl (lv_at hl 3 rfl) ?_
        refine lv_iconst (v := (3 : Int32)) hx hb dL_law_985 (by decide) ?_
        refine lv_iadd hx hb dL_law_986 ?_
        refine va_sld hx hb hX hbl hbA hS (law_ix (j := 3) ex3 hgo hL20 (by decide)) dL_law_987 ?_
        refine tope ea3 ?_
        refine law_I (u' := v') hCM hS hPB hapM (law_run (As := [.int a1, .int a2, .int a3]) (rest := []) okM hCM hx hb hml hown hts hPM hS (c_X10_ask l evM a1 a2 a3 v h2 H.size) kv_X10_ask ml_L_100 (rvM0 evM v) hl.1 rfl rfl (Nat.le_of_ble_eq_true rfl) ⟨Nat.le_of_ble_eq_true rfl, Nat.le_of_ble_eq_true rfl⟩ dL_law_988 ⟨hkc, hks⟩) (fun H locs hPM hPB hS => ?_)
        refine lv_pop hx hb dL_law_991 rfl ?_
        refine lv_goto (tgt := 1617) hx hb dL_law_992 (by decide) ?_
        exact hnext _ _ _ _ ls hPB hPM hS hRel hl
      by_cases y19 : w0 = (19 : Int32)
      · refine lv_tableIn (tgt := 995) (off := 962) hx hb dL_law_33 (by rw [y19]; decide) (by rw [y19]; decide) (by rw [y19]; decide) (by decide) ?_
        obtain ⟨r, u', r2, v', h1, h2, hRel, he⟩ := hst.2.2.2.2.2.2.2.2.2.2.2.2.2.2.2.2.2.2.2.1 k u v a1 a2 (by omega) hRel
        refine lv_aload_n hx hb dL_law_995 rfl (lv_at hl 1 rfl) ?_
        refine lv_aload_n hx hb dL_law_996 rfl (lv_at hl 0 rfl) ?_
        refine lv_iload_n hx hb dL_law_997 rfl (lv_at hl 3 rfl) ?_
        refine lv_iconst (v := (1 : Int32)) hx hb dL_law_998 (by decide) ?_
        refine lv_iadd hx hb dL_law_999 ?_
        refine va_sld hx hb hX hbl hbA hS (law_ix (j := 1) ex3 hgo hL20 (by decide)) dL_law_1000 ?_
        refine tope ea1 ?_
        refine lv_aload_n hx hb dL_law_1001 rfl (lv_at hl 0 rfl) ?_
        refine lv_iload_n hx hb dL_law_1002 rfl (lv_at hl 3 rfl) ?_
        refine lv_iconst (v := (2 : Int32)) hx hb dL_law_1003 (by decide) ?_
        refine lv_iadd hx hb dL_law_1004 ?_
        refine va_sld hx hb hX hbl hbA hS (law_ix (j := 2) ex3 hgo hL20 (by decide)) dL_law_1005 ?_
        refine tope ea2 ?_
        refine law_I (u' := u') hCB hS hPM hapB (law_run (As := [.int a1, .int a2]) (rest := []) okB hCB hx hb hml hown hts hPB hS (c_X9_answer l evB a1 a2 u h1 H.size) kv_X9_answer ml_L_101 (rvB0 evB u) hl.1 rfl rfl (Nat.le_of_ble_eq_true rfl) ⟨Nat.le_of_ble_eq_true rfl, Nat.le_of_ble_eq_true rfl⟩ dL_law_1006 ⟨hkc, hks⟩) (fun H locs hPB hPM hS => ?_)
        refine lv_pop hx hb dL_law_1009 rfl ?_
        refine lv_aload_n hx hb dL_law_1010 rfl (lv_at hl 2 rfl) ?_
        refine lv_aload_n hx hb dL_law_1011 rfl (lv_at hl 0 rfl) ?_
        refine lv_iload_n hx hb dL_law_1012 rfl (lv_at hl 3 rfl) ?_
        refine lv_iconst (v := (1 : Int32)) hx hb dL_law_1013 (by decide) ?_
        refine lv_iadd hx hb dL_law_1014 ?_
        refine va_sld hx hb hX hbl hbA hS (law_ix (j := 1) ex3 hgo hL20 (by decide)) dL_law_1015 ?_
        refine tope ea1 ?_
        refine lv_aload_n hx hb dL_law_1016 rfl (lv_at hl 0 rfl) ?_
        refine lv_iload_n hx hb dL_law_1017 rfl (lv_at hl 3 rfl) ?_
        refine lv_iconst (v := (2 : Int32)) hx hb dL_law_1018 (by decide) ?_
        refine lv_iadd hx hb dL_law_1019 ?_
        refine va_sld hx hb hX hbl hbA hS (law_ix (j := 2) ex3 hgo hL20 (by decide)) dL_law_1020 ?_
        refine tope ea2 ?_
        refine law_I (u' := v') hCM hS hPB hapM (law_run (As := [.int a1, .int a2]) (rest := []) okM hCM hx hb hml hown hts hPM hS (c_X10_answer l evM a1 a2 v h2 H.size) kv_X10_answer ml_L_104 (rvM0 evM v) hl.1 rfl rfl (Nat.le_of_ble_eq_true rfl) ⟨Nat.le_of_ble_eq_true rfl, Nat.le_of_ble_eq_true rfl⟩ dL_law_1021 ⟨hkc, hks⟩) (fun H locs hPM hPB hS => ?_)
        refine lv_pop hx hb dL_law_1024 rfl ?_
        refine lv_goto (tgt := 1617) hx hb dL_law_1025 (by decide) ?_
        exact hnext _ _ _ _ ls hPB hPM hS hRel hl
      by_cases y20 : w0 = (20 : Int32)
      · refine lv_tableIn (tgt := 1028) (off := 995) hx hb dL_law_33 (by rw [y20]; decide) (by rw [y20]; decide) (by rw [y20]; decide) (by decide) ?_
        by_cases zb : a3 = 0
        · obtain ⟨r, u', r2, v', h1, h2, hRel, he⟩ := hst.2.2.2.2.2.2.2.2.2.2.2.2.2.2.2.2.2.2.2.2.1 k u v a1 a2 (0 : Int32) (by omega) hRel (Or.inl rfl)
          refine lv_aload_n hx hb dL_law_1028 rfl (lv_at hl 1 rfl) ?_
          refine lv_aload_n hx hb dL_law_1029 rfl (lv_at hl 0 rfl) ?_
          refine lv_iload_n hx hb dL_law_1030 rfl (lv_at hl 3 rfl) ?_
          refine lv_iconst (v := (1 : Int32)) hx hb dL_law_1031 (by decide) ?_
          refine lv_iadd hx hb dL_law_1032 ?_
          refine va_sld hx hb hX hbl hbA hS (law_ix (j := 1) ex3 hgo hL20 (by decide)) dL_law_1033 ?_
          refine tope ea1 ?_
          refine lv_aload_n hx hb dL_law_1034 rfl (lv_at hl 0 rfl) ?_
          refine lv_iload_n hx hb dL_law_1035 rfl (lv_at hl 3 rfl) ?_
          refine lv_iconst (v := (2 : Int32)) hx hb dL_law_1036 (by decide) ?_
          refine lv_iadd hx hb dL_law_1037 ?_
          refine va_sld hx hb hX hbl hbA hS (law_ix (j := 2) ex3 hgo hL20 (by decide)) dL_law_1038 ?_
          refine tope ea2 ?_
          refine lv_aload_n hx hb dL_law_1039 rfl (lv_at hl 0 rfl) ?_
          refine lv_iload_n hx hb dL_law_1040 rfl (lv_at hl 3 rfl) ?_
          refine lv_iconst (v := (3 : Int32)) hx hb dL_law_1041 (by decide) ?_
          refine lv_iadd hx hb dL_law_1042 ?_
          refine va_sld hx hb hX hbl hbA hS (law_ix (j := 3) ex3 hgo hL20 (by decide)) dL_law_1043 ?_
          refine tope ea3 ?_
          refine lv_if_eq (tgt := 1051) hx hb dL_law_1044 (by decide) (fun _ => ?_) (fun z => absurd zb z)
          refine lv_iconst (v := (0 : Int32)) hx hb dL_law_1051 (by decide) ?_
          refine law_I (u' := u') hCB hS hPM hapB (law_run (As := [.int a1, .int a2, .int (0 : Int32)]) (rest := []) okB hCB hx hb hml hown hts hPB hS (c_X9_out l evB a1 a2 (0 : Int32) u h1 H.size) kv_X9_out ml_L_105 (rvB0 evB u) hl.1 rfl rfl (Nat.le_of_ble_eq_true rfl) ⟨Nat.le_of_ble_eq_true rfl, Nat.le_of_ble_eq_true rfl⟩ dL_law_1052 ⟨hkc, hks⟩) (fun H locs hPB hPM hS => ?_)
          refine lv_pop hx hb dL_law_1055 rfl ?_
          refine lv_aload_n hx hb dL_law_1056 rfl (lv_at hl 2 rfl) ?_
          refine lv_aload_n hx hb dL_law_1057 rfl (lv_at hl 0 rfl) ?_
          refine lv_iload_n hx hb dL_law_1058 rfl (lv_at hl 3 rfl) ?_
          refine lv_iconst (v := (1 : Int32)) hx hb dL_law_1059 (by decide) ?_
          refine lv_iadd hx hb dL_law_1060 ?_
          refine va_sld hx hb hX hbl hbA hS (law_ix (j := 1) ex3 hgo hL20 (by decide)) dL_law_1061 ?_
          refine tope ea1 ?_
          refine lv_aload_n hx hb dL_law_1062 rfl (lv_at hl 0 rfl) ?_
          refine lv_iload_n hx hb dL_law_1063 rfl (lv_at hl 3 rfl) ?_
          refine lv_iconst (v := (2 : Int32)) hx hb dL_law_1064 (by decide) ?_
          refine lv_iadd hx hb dL_law_1065 ?_
          refine va_sld hx hb hX hbl hbA hS (law_ix (j := 2) ex3 hgo hL20 (by decide)) dL_law_1066 ?_
          refine tope ea2 ?_
          refine lv_aload_n hx hb dL_law_1067 rfl (lv_at hl 0 rfl) ?_
          refine lv_iload_n hx hb dL_law_1068 rfl (lv_at hl 3 rfl) ?_
          refine lv_iconst (v := (3 : Int32)) hx hb dL_law_1069 (by decide) ?_
          refine lv_iadd hx hb dL_law_1070 ?_
          refine va_sld hx hb hX hbl hbA hS (law_ix (j := 3) ex3 hgo hL20 (by decide)) dL_law_1071 ?_
          refine tope ea3 ?_
          refine lv_if_eq (tgt := 1079) hx hb dL_law_1072 (by decide) (fun _ => ?_) (fun z => absurd zb z)
          refine lv_iconst (v := (0 : Int32)) hx hb dL_law_1079 (by decide) ?_
          refine law_I (u' := v') hCM hS hPB hapM (law_run (As := [.int a1, .int a2, .int (0 : Int32)]) (rest := []) okM hCM hx hb hml hown hts hPM hS (c_X10_out l evM a1 a2 (0 : Int32) v h2 H.size) kv_X10_out ml_L_108 (rvM0 evM v) hl.1 rfl rfl (Nat.le_of_ble_eq_true rfl) ⟨Nat.le_of_ble_eq_true rfl, Nat.le_of_ble_eq_true rfl⟩ dL_law_1080 ⟨hkc, hks⟩) (fun H locs hPM hPB hS => ?_)
          refine lv_pop hx hb dL_law_1083 rfl ?_
          refine lv_goto (tgt := 1617) hx hb dL_law_1084 (by decide) ?_
          exact hnext _ _ _ _ ls hPB hPM hS hRel hl
        · obtain ⟨r, u', r2, v', h1, h2, hRel, he⟩ := hst.2.2.2.2.2.2.2.2.2.2.2.2.2.2.2.2.2.2.2.2.1 k u v a1 a2 (1 : Int32) (by omega) hRel (Or.inr rfl)
          refine lv_aload_n hx hb dL_law_1028 rfl (lv_at hl 1 rfl) ?_
          refine lv_aload_n hx hb dL_law_1029 rfl (lv_at hl 0 rfl) ?_
          refine lv_iload_n hx hb dL_law_1030 rfl (lv_at hl 3 rfl) ?_
          refine lv_iconst (v := (1 : Int32)) hx hb dL_law_1031 (by decide) ?_
          refine lv_iadd hx hb dL_law_1032 ?_
          refine va_sld hx hb hX hbl hbA hS (law_ix (j := 1) ex3 hgo hL20 (by decide)) dL_law_1033 ?_
          refine tope ea1 ?_
          refine lv_aload_n hx hb dL_law_1034 rfl (lv_at hl 0 rfl) ?_
          refine lv_iload_n hx hb dL_law_1035 rfl (lv_at hl 3 rfl) ?_
          refine lv_iconst (v := (2 : Int32)) hx hb dL_law_1036 (by decide) ?_
          refine lv_iadd hx hb dL_law_1037 ?_
          refine va_sld hx hb hX hbl hbA hS (law_ix (j := 2) ex3 hgo hL20 (by decide)) dL_law_1038 ?_
          refine tope ea2 ?_
          refine lv_aload_n hx hb dL_law_1039 rfl (lv_at hl 0 rfl) ?_
          refine lv_iload_n hx hb dL_law_1040 rfl (lv_at hl 3 rfl) ?_
          refine lv_iconst (v := (3 : Int32)) hx hb dL_law_1041 (by decide) ?_
          refine lv_iadd hx hb dL_law_1042 ?_
          refine va_sld hx hb hX hbl hbA hS (law_ix (j := 3) ex3 hgo hL20 (by decide)) dL_law_1043 ?_
          refine tope ea3 ?_
          refine lv_if_eq (tgt := 1051) hx hb dL_law_1044 (by decide) (fun z => absurd z zb) (fun _ => ?_)
          refine lv_iconst (v := (1 : Int32)) hx hb dL_law_1047 (by decide) ?_
          refine lv_goto (tgt := 1052) hx hb dL_law_1048 (by decide) ?_
          refine law_I (u' := u') hCB hS hPM hapB (law_run (As := [.int a1, .int a2, .int (1 : Int32)]) (rest := []) okB hCB hx hb hml hown hts hPB hS (c_X9_out l evB a1 a2 (1 : Int32) u h1 H.size) kv_X9_out ml_L_105 (rvB0 evB u) hl.1 rfl rfl (Nat.le_of_ble_eq_true rfl) ⟨Nat.le_of_ble_eq_true rfl, Nat.le_of_ble_eq_true rfl⟩ dL_law_1052 ⟨hkc, hks⟩) (fun H locs hPB hPM hS => ?_)
          refine lv_pop hx hb dL_law_1055 rfl ?_
          refine lv_aload_n hx hb dL_law_1056 rfl (lv_at hl 2 rfl) ?_
          refine lv_aload_n hx hb dL_law_1057 rfl (lv_at hl 0 rfl) ?_
          refine lv_iload_n hx hb dL_law_1058 rfl (lv_at hl 3 rfl) ?_
          refine lv_iconst (v := (1 : Int32)) hx hb dL_law_1059 (by decide) ?_
          refine lv_iadd hx hb dL_law_1060 ?_
          refine va_sld hx hb hX hbl hbA hS (law_ix (j := 1) ex3 hgo hL20 (by decide)) dL_law_1061 ?_
          refine tope ea1 ?_
          refine lv_aload_n hx hb dL_law_1062 rfl (lv_at hl 0 rfl) ?_
          refine lv_iload_n hx hb dL_law_1063 rfl (lv_at hl 3 rfl) ?_
          refine lv_iconst (v := (2 : Int32)) hx hb dL_law_1064 (by decide) ?_
          refine lv_iadd hx hb dL_law_1065 ?_
          refine va_sld hx hb hX hbl hbA hS (law_ix (j := 2) ex3 hgo hL20 (by decide)) dL_law_1066 ?_
          refine tope ea2 ?_
          refine lv_aload_n hx hb dL_law_1067 rfl (lv_at hl 0 rfl) ?_
          refine lv_iload_n hx hb dL_law_1068 rfl (lv_at hl 3 rfl) ?_
          refine lv_iconst (v := (3 : Int32)) hx hb dL_law_1069 (by decide) ?_
          refine lv_iadd hx hb dL_law_1070 ?_
          refine va_sld hx hb hX hbl hbA hS (law_ix (j := 3) ex3 hgo hL20 (by decide)) dL_law_1071 ?_
          refine tope ea3 ?_
          refine lv_if_eq (tgt := 1079) hx hb dL_law_1072 (by decide) (fun z => absurd z zb) (fun _ => ?_)
          refine lv_iconst (v := (1 : Int32)) hx hb dL_law_1075 (by decide) ?_
          refine lv_goto (tgt := 1080) hx hb dL_law_1076 (by decide) ?_
          refine law_I (u' := v') hCM hS hPB hapM (law_run (As := [.int a1, .int a2, .int (1 : Int32)]) (rest := []) okM hCM hx hb hml hown hts hPM hS (c_X10_out l evM a1 a2 (1 : Int32) v h2 H.size) kv_X10_out ml_L_108 (rvM0 evM v) hl.1 rfl rfl (Nat.le_of_ble_eq_true rfl) ⟨Nat.le_of_ble_eq_true rfl, Nat.le_of_ble_eq_true rfl⟩ dL_law_1080 ⟨hkc, hks⟩) (fun H locs hPM hPB hS => ?_)
          refine lv_pop hx hb dL_law_1083 rfl ?_
          refine lv_goto (tgt := 1617) hx hb dL_law_1084 (by decide) ?_
          exact hnext _ _ _ _ ls hPB hPM hS hRel hl
      by_cases y21 : w0 = (21 : Int32)
      · refine lv_tableIn (tgt := 1087) (off := 1054) hx hb dL_law_33 (by rw [y21]; decide) (by rw [y21]; decide) (by rw [y21]; decide) (by decide) ?_
        obtain ⟨r, u', r2, v', h1, h2, hRel, he⟩ := hst.2.2.2.2.2.2.2.2.2.2.2.2.2.2.2.2.2.2.2.2.2.1 k u v a1 a2 (by omega) hRel
        refine lv_aload_n hx hb dL_law_1087 rfl (lv_at hl 1 rfl) ?_
        refine lv_aload_n hx hb dL_law_1088 rfl (lv_at hl 0 rfl) ?_
        refine lv_iload_n hx hb dL_law_1089 rfl (lv_at hl 3 rfl) ?_
        refine lv_iconst (v := (1 : Int32)) hx hb dL_law_1090 (by decide) ?_
        refine lv_iadd hx hb dL_law_1091 ?_
        refine va_sld hx hb hX hbl hbA hS (law_ix (j := 1) ex3 hgo hL20 (by decide)) dL_law_1092 ?_
        refine tope ea1 ?_
        refine lv_aload_n hx hb dL_law_1093 rfl (lv_at hl 0 rfl) ?_
        refine lv_iload_n hx hb dL_law_1094 rfl (lv_at hl 3 rfl) ?_
        refine lv_iconst (v := (2 : Int32)) hx hb dL_law_1095 (by decide) ?_
        refine lv_iadd hx hb dL_law_1096 ?_
        refine va_sld hx hb hX hbl hbA hS (law_ix (j := 2) ex3 hgo hL20 (by decide)) dL_law_1097 ?_
        refine tope ea2 ?_
        refine law_I (u' := u') hCB hS hPM hapB (law_run (As := [.int a1, .int a2]) (rest := []) okB hCB hx hb hml hown hts hPB hS (c_X9_most l evB a1 a2 u h1 H.size) kv_X9_most ml_L_109 (rvB0 evB u) hl.1 rfl rfl (Nat.le_of_ble_eq_true rfl) ⟨Nat.le_of_ble_eq_true rfl, Nat.le_of_ble_eq_true rfl⟩ dL_law_1098 ⟨hkc, hks⟩) (fun H locs hPB hPM hS => ?_)
        refine lv_pop hx hb dL_law_1101 rfl ?_
        refine lv_aload_n hx hb dL_law_1102 rfl (lv_at hl 2 rfl) ?_
        refine lv_aload_n hx hb dL_law_1103 rfl (lv_at hl 0 rfl) ?_
        refine lv_iload_n hx hb dL_law_1104 rfl (lv_at hl 3 rfl) ?_
        refine lv_iconst (v := (1 : Int32)) hx hb dL_law_1105 (by decide) ?_
        refine lv_iadd hx hb dL_law_1106 ?_
        refine va_sld hx hb hX hbl hbA hS (law_ix (j := 1) ex3 hgo hL20 (by decide)) dL_law_1107 ?_
        refine tope ea1 ?_
        refine lv_aload_n hx hb dL_law_1108 rfl (lv_at hl 0 rfl) ?_
        refine lv_iload_n hx hb dL_law_1109 rfl (lv_at hl 3 rfl) ?_
        refine lv_iconst (v := (2 : Int32)) hx hb dL_law_1110 (by decide) ?_
        refine lv_iadd hx hb dL_law_1111 ?_
        refine va_sld hx hb hX hbl hbA hS (law_ix (j := 2) ex3 hgo hL20 (by decide)) dL_law_1112 ?_
        refine tope ea2 ?_
        refine law_I (u' := v') hCM hS hPB hapM (law_run (As := [.int a1, .int a2]) (rest := []) okM hCM hx hb hml hown hts hPM hS (c_X10_most l evM a1 a2 v h2 H.size) kv_X10_most ml_L_112 (rvM0 evM v) hl.1 rfl rfl (Nat.le_of_ble_eq_true rfl) ⟨Nat.le_of_ble_eq_true rfl, Nat.le_of_ble_eq_true rfl⟩ dL_law_1113 ⟨hkc, hks⟩) (fun H locs hPM hPB hS => ?_)
        refine lv_pop hx hb dL_law_1116 rfl ?_
        refine lv_goto (tgt := 1617) hx hb dL_law_1117 (by decide) ?_
        exact hnext _ _ _ _ ls hPB hPM hS hRel hl
      by_cases y22 : w0 = (22 : Int32)
      · refine lv_tableIn (tgt := 1120) (off := 1087) hx hb dL_law_33 (by rw [y22]; decide) (by rw [y22]; decide) (by rw [y22]; decide) (by decide) ?_
        obtain ⟨r, u', r2, v', h1, h2, hRel, he⟩ := hst.2.2.2.2.2.2.2.2.2.2.2.2.2.2.2.2.2.2.2.2.2.2.1 k u v a1 a2 a3 (by omega) hRel
        refine lv_aload_n hx hb dL_law_1120 rfl (lv_at hl 1 rfl) ?_
        refine lv_aload_n hx hb dL_law_1121 rfl (lv_at hl 0 rfl) ?_
        refine lv_iload_n hx hb dL_law_1122 rfl (lv_at hl 3 rfl) ?_
        refine lv_iconst (v := (1 : Int32)) hx hb dL_law_1123 (by decide) ?_
        refine lv_iadd hx hb dL_law_1124 ?_
        refine va_sld hx hb hX hbl hbA hS (law_ix (j := 1) ex3 hgo hL20 (by decide)) dL_law_1125 ?_
        refine tope ea1 ?_
        refine lv_aload_n hx hb dL_law_1126 rfl (lv_at hl 0 rfl) ?_
        refine lv_iload_n hx hb dL_law_1127 rfl (lv_at hl 3 rfl) ?_
        refine lv_iconst (v := (2 : Int32)) hx hb dL_law_1128 (by decide) ?_
        refine lv_iadd hx hb dL_law_1129 ?_
        refine va_sld hx hb hX hbl hbA hS (law_ix (j := 2) ex3 hgo hL20 (by decide)) dL_law_1130 ?_
        refine tope ea2 ?_
        refine lv_aload_n hx hb dL_law_1131 rfl (lv_at hl 0 rfl) ?_
        refine lv_iload_n hx hb dL_law_1132 rfl (lv_at hl 3 rfl) ?_
        refine lv_iconst (v := (3 : Int32)) hx hb dL_law_1133 (by decide) ?_
        refine lv_iadd hx hb dL_law_1134 ?_
        refine va_sld hx hb hX hbl hbA hS (law_ix (j := 3) ex3 hgo hL20 (by decide)) dL_law_1135 ?_
        refine tope ea3 ?_
        refine law_I (u' := u') hCB hS hPM hapB (law_run (As := [.int a1, .int a2, .int a3]) (rest := []) okB hCB hx hb hml hown hts hPB hS (c_X9_rebate l evB a1 a2 a3 u h1 H.size) kv_X9_rebate ml_L_113 (rvB0 evB u) hl.1 rfl rfl (Nat.le_of_ble_eq_true rfl) ⟨Nat.le_of_ble_eq_true rfl, Nat.le_of_ble_eq_true rfl⟩ dL_law_1136 ⟨hkc, hks⟩) (fun H locs hPB hPM hS => ?_)
        refine lv_pop hx hb dL_law_1139 rfl ?_
        refine lv_aload_n hx hb dL_law_1140 rfl (lv_at hl 2 rfl) ?_
        refine lv_aload_n hx hb dL_law_1141 rfl (lv_at hl 0 rfl) ?_
        refine lv_iload_n hx hb dL_law_1142 rfl (lv_at hl 3 rfl) ?_
        refine lv_iconst (v := (1 : Int32)) hx hb dL_law_1143 (by decide) ?_
        refine lv_iadd hx hb dL_law_1144 ?_
        refine va_sld hx hb hX hbl hbA hS (law_ix (j := 1) ex3 hgo hL20 (by decide)) dL_law_1145 ?_
        refine tope ea1 ?_
        refine lv_aload_n hx hb dL_law_1146 rfl (lv_at hl 0 rfl) ?_
        refine lv_iload_n hx hb dL_law_1147 rfl (lv_at hl 3 rfl) ?_
        refine lv_iconst (v := (2 : Int32)) hx hb dL_law_1148 (by decide) ?_
        refine lv_iadd hx hb dL_law_1149 ?_
        refine va_sld hx hb hX hbl hbA hS (law_ix (j := 2) ex3 hgo hL20 (by decide)) dL_law_1150 ?_
        refine tope ea2 ?_
        refine lv_aload_n hx hb dL_law_1151 rfl (lv_at hl 0 rfl) ?_
        refine lv_iload_n hx hb dL_law_1152 rfl (lv_at hl 3 rfl) ?_
        refine lv_iconst (v := (3 : Int32)) hx hb dL_law_1153 (by decide) ?_
        refine lv_iadd hx hb dL_law_1154 ?_
        refine va_sld hx hb hX hbl hbA hS (law_ix (j := 3) ex3 hgo hL20 (by decide)) dL_law_1155 ?_
        refine tope ea3 ?_
        refine law_I (u' := v') hCM hS hPB hapM (law_run (As := [.int a1, .int a2, .int a3]) (rest := []) okM hCM hx hb hml hown hts hPM hS (c_X10_rebate l evM a1 a2 a3 v h2 H.size) kv_X10_rebate ml_L_116 (rvM0 evM v) hl.1 rfl rfl (Nat.le_of_ble_eq_true rfl) ⟨Nat.le_of_ble_eq_true rfl, Nat.le_of_ble_eq_true rfl⟩ dL_law_1156 ⟨hkc, hks⟩) (fun H locs hPM hPB hS => ?_)
        refine lv_pop hx hb dL_law_1159 rfl ?_
        refine lv_goto (tgt := 1617) hx hb dL_law_1160 (by decide) ?_
        exact hnext _ _ _ _ ls hPB hPM hS hRel hl
      by_cases y23 : w0 = (23 : Int32)
      · refine lv_tableIn (tgt := 1163) (off := 1130) hx hb dL_law_33 (by rw [y23]; decide) (by rw [y23]; decide) (by rw [y23]; decide) (by decide) ?_
        obtain ⟨r, u', r2, v', h1, h2, hRel, he⟩ := hst.2.2.2.2.2.2.2.2.2.2.2.2.2.2.2.2.2.2.2.2.2.2.2.1 k u v a1 (by omega) hRel
        refine lv_aload_n hx hb dL_law_1163 rfl (lv_at hl 1 rfl) ?_
        refine lv_aload_n hx hb dL_law_1164 rfl (lv_at hl 0 rfl) ?_
        refine lv_iload_n hx hb dL_law_1165 rfl (lv_at hl 3 rfl) ?_
        refine lv_iconst (v := (1 : Int32)) hx hb dL_law_1166 (by decide) ?_
        refine lv_iadd hx hb dL_law_1167 ?_
        refine va_sld hx hb hX hbl hbA hS (law_ix (j := 1) ex3 hgo hL20 (by decide)) dL_law_1168 ?_
        refine tope ea1 ?_
        refine law_I (u' := u') hCB hS hPM hapB (law_run (As := [.int a1]) (rest := []) okB hCB hx hb hml hown hts hPB hS (c_X9_whole l evB a1 u h1 H.size) kv_X9_whole ml_L_117 (rvB0 evB u) hl.1 rfl rfl (Nat.le_of_ble_eq_true rfl) ⟨Nat.le_of_ble_eq_true rfl, Nat.le_of_ble_eq_true rfl⟩ dL_law_1169 ⟨hkc, hks⟩) (fun H locs hPB hPM hS => ?_)
        refine lv_pop hx hb dL_law_1172 rfl ?_
        refine lv_aload_n hx hb dL_law_1173 rfl (lv_at hl 2 rfl) ?_
        refine lv_aload_n hx hb dL_law_1174 rfl (lv_at hl 0 rfl) ?_
        refine lv_iload_n hx hb dL_law_1175 rfl (lv_at hl 3 rfl) ?_
        refine lv_iconst (v := (1 : Int32)) hx hb dL_law_1176 (by decide) ?_
        refine lv_iadd hx hb dL_law_1177 ?_
        refine va_sld hx hb hX hbl hbA hS (law_ix (j := 1) ex3 hgo hL20 (by decide)) dL_law_1178 ?_
        refine tope ea1 ?_
        refine law_I (u' := v') hCM hS hPB hapM (law_run (As := [.int a1]) (rest := []) okM hCM hx hb hml hown hts hPM hS (c_X10_whole l evM a1 v h2 H.size) kv_X10_whole ml_L_120 (rvM0 evM v) hl.1 rfl rfl (Nat.le_of_ble_eq_true rfl) ⟨Nat.le_of_ble_eq_true rfl, Nat.le_of_ble_eq_true rfl⟩ dL_law_1179 ⟨hkc, hks⟩) (fun H locs hPM hPB hS => ?_)
        refine lv_pop hx hb dL_law_1182 rfl ?_
        refine lv_goto (tgt := 1617) hx hb dL_law_1183 (by decide) ?_
        exact hnext _ _ _ _ ls hPB hPM hS hRel hl
      by_cases y24 : w0 = (24 : Int32)
      · refine lv_tableIn (tgt := 1186) (off := 1153) hx hb dL_law_33 (by rw [y24]; decide) (by rw [y24]; decide) (by rw [y24]; decide) (by decide) ?_
        obtain ⟨r, u', r2, v', h1, h2, hRel, he⟩ := hst.2.2.2.2.2.2.2.2.2.2.2.2.2.2.2.2.2.2.2.2.2.2.2.2.1 k u v a1 (by omega) hRel
        refine lv_aload_n hx hb dL_law_1186 rfl (lv_at hl 1 rfl) ?_
        refine lv_aload_n hx hb dL_law_1187 rfl (lv_at hl 0 rfl) ?_
        refine lv_iload_n hx hb dL_law_1188 rfl (lv_at hl 3 rfl) ?_
        refine lv_iconst (v := (1 : Int32)) hx hb dL_law_1189 (by decide) ?_
        refine lv_iadd hx hb dL_law_1190 ?_
        refine va_sld hx hb hX hbl hbA hS (law_ix (j := 1) ex3 hgo hL20 (by decide)) dL_law_1191 ?_
        refine tope ea1 ?_
        refine law_I (u' := u') hCB hS hPM hapB (law_run (As := [.int a1]) (rest := []) okB hCB hx hb hml hown hts hPB hS (c_X9_winner l evB a1 u h1 H.size) kv_X9_winner ml_L_121 (rvB0 evB u) hl.1 rfl rfl (Nat.le_of_ble_eq_true rfl) ⟨Nat.le_of_ble_eq_true rfl, Nat.le_of_ble_eq_true rfl⟩ dL_law_1192 ⟨hkc, hks⟩) (fun H locs hPB hPM hS => ?_)
        refine lv_pop hx hb dL_law_1195 rfl ?_
        refine lv_aload_n hx hb dL_law_1196 rfl (lv_at hl 2 rfl) ?_
        refine lv_aload_n hx hb dL_law_1197 rfl (lv_at hl 0 rfl) ?_
        refine lv_iload_n hx hb dL_law_1198 rfl (lv_at hl 3 rfl) ?_
        refine lv_iconst (v := (1 : Int32)) hx hb dL_law_1199 (by decide) ?_
        refine lv_iadd hx hb dL_law_1200 ?_
        refine va_sld hx hb hX hbl hbA hS (law_ix (j := 1) ex3 hgo hL20 (by decide)) dL_law_1201 ?_
        refine tope ea1 ?_
        refine law_I (u' := v') hCM hS hPB hapM (law_run (As := [.int a1]) (rest := []) okM hCM hx hb hml hown hts hPM hS (c_X10_winner l evM a1 v h2 H.size) kv_X10_winner ml_L_124 (rvM0 evM v) hl.1 rfl rfl (Nat.le_of_ble_eq_true rfl) ⟨Nat.le_of_ble_eq_true rfl, Nat.le_of_ble_eq_true rfl⟩ dL_law_1202 ⟨hkc, hks⟩) (fun H locs hPM hPB hS => ?_)
        refine lv_pop hx hb dL_law_1205 rfl ?_
        refine lv_goto (tgt := 1617) hx hb dL_law_1206 (by decide) ?_
        exact hnext _ _ _ _ ls hPB hPM hS hRel hl
      by_cases y25 : w0 = (25 : Int32)
      · refine lv_tableIn (tgt := 1209) (off := 1176) hx hb dL_law_33 (by rw [y25]; decide) (by rw [y25]; decide) (by rw [y25]; decide) (by decide) ?_
        obtain ⟨r, u', r2, v', h1, h2, hRel, he⟩ := hst.2.2.2.2.2.2.2.2.2.2.2.2.2.2.2.2.2.2.2.2.2.2.2.2.2.1 k u v a1 (by omega) hRel
        refine lv_aload_n hx hb dL_law_1209 rfl (lv_at hl 1 rfl) ?_
        refine lv_aload_n hx hb dL_law_1210 rfl (lv_at hl 0 rfl) ?_
        refine lv_iload_n hx hb dL_law_1211 rfl (lv_at hl 3 rfl) ?_
        refine lv_iconst (v := (1 : Int32)) hx hb dL_law_1212 (by decide) ?_
        refine lv_iadd hx hb dL_law_1213 ?_
        refine va_sld hx hb hX hbl hbA hS (law_ix (j := 1) ex3 hgo hL20 (by decide)) dL_law_1214 ?_
        refine tope ea1 ?_
        refine law_I (u' := u') hCB hS hPM hapB (law_run (As := [.int a1]) (rest := []) okB hCB hx hb hml hown hts hPB hS (c_X9_award l evB a1 u h1 H.size) kv_X9_award ml_L_125 (rvB0 evB u) hl.1 rfl rfl (Nat.le_of_ble_eq_true rfl) ⟨Nat.le_of_ble_eq_true rfl, Nat.le_of_ble_eq_true rfl⟩ dL_law_1215 ⟨hkc, hks⟩) (fun H locs hPB hPM hS => ?_)
        refine lv_pop hx hb dL_law_1218 rfl ?_
        refine lv_aload_n hx hb dL_law_1219 rfl (lv_at hl 2 rfl) ?_
        refine lv_aload_n hx hb dL_law_1220 rfl (lv_at hl 0 rfl) ?_
        refine lv_iload_n hx hb dL_law_1221 rfl (lv_at hl 3 rfl) ?_
        refine lv_iconst (v := (1 : Int32)) hx hb dL_law_1222 (by decide) ?_
        refine lv_iadd hx hb dL_law_1223 ?_
        refine va_sld hx hb hX hbl hbA hS (law_ix (j := 1) ex3 hgo hL20 (by decide)) dL_law_1224 ?_
        refine tope ea1 ?_
        refine law_I (u' := v') hCM hS hPB hapM (law_run (As := [.int a1]) (rest := []) okM hCM hx hb hml hown hts hPM hS (c_X10_award l evM a1 v h2 H.size) kv_X10_award ml_L_128 (rvM0 evM v) hl.1 rfl rfl (Nat.le_of_ble_eq_true rfl) ⟨Nat.le_of_ble_eq_true rfl, Nat.le_of_ble_eq_true rfl⟩ dL_law_1225 ⟨hkc, hks⟩) (fun H locs hPM hPB hS => ?_)
        refine lv_pop hx hb dL_law_1228 rfl ?_
        refine lv_goto (tgt := 1617) hx hb dL_law_1229 (by decide) ?_
        exact hnext _ _ _ _ ls hPB hPM hS hRel hl
      by_cases y26 : w0 = (26 : Int32)
      · refine lv_tableIn (tgt := 1232) (off := 1199) hx hb dL_law_33 (by rw [y26]; decide) (by rw [y26]; decide) (by rw [y26]; decide) (by decide) ?_
        obtain ⟨r, u', r2, v', h1, h2, hRel, he⟩ := hst.2.2.2.2.2.2.2.2.2.2.2.2.2.2.2.2.2.2.2.2.2.2.2.2.2.2.1 k u v a1 (by omega) hRel
        refine lv_aload_n hx hb dL_law_1232 rfl (lv_at hl 1 rfl) ?_
        refine lv_aload_n hx hb dL_law_1233 rfl (lv_at hl 0 rfl) ?_
        refine lv_iload_n hx hb dL_law_1234 rfl (lv_at hl 3 rfl) ?_
        refine lv_iconst (v := (1 : Int32)) hx hb dL_law_1235 (by decide) ?_
        refine lv_iadd hx hb dL_law_1236 ?_
        refine va_sld hx hb hX hbl hbA hS (law_ix (j := 1) ex3 hgo hL20 (by decide)) dL_law_1237 ?_
        refine tope ea1 ?_
        refine law_I (u' := u') hCB hS hPM hapB (law_run (As := [.int a1]) (rest := []) okB hCB hx hb hml hown hts hPB hS (c_X9_awarded l evB a1 u h1 H.size) kv_X9_awarded ml_L_129 (rvB0 evB u) hl.1 rfl rfl (Nat.le_of_ble_eq_true rfl) ⟨Nat.le_of_ble_eq_true rfl, Nat.le_of_ble_eq_true rfl⟩ dL_law_1238 ⟨hkc, hks⟩) (fun H locs hPB hPM hS => ?_)
        refine lv_pop hx hb dL_law_1241 rfl ?_
        refine lv_aload_n hx hb dL_law_1242 rfl (lv_at hl 2 rfl) ?_
        refine lv_aload_n hx hb dL_law_1243 rfl (lv_at hl 0 rfl) ?_
        refine lv_iload_n hx hb dL_law_1244 rfl (lv_at hl 3 rfl) ?_
        refine lv_iconst (v := (1 : Int32)) hx hb dL_law_1245 (by decide) ?_
        refine lv_iadd hx hb dL_law_1246 ?_
        refine va_sld hx hb hX hbl hbA hS (law_ix (j := 1) ex3 hgo hL20 (by decide)) dL_law_1247 ?_
        refine tope ea1 ?_
        refine law_I (u' := v') hCM hS hPB hapM (law_run (As := [.int a1]) (rest := []) okM hCM hx hb hml hown hts hPM hS (c_X10_awarded l evM a1 v h2 H.size) kv_X10_awarded ml_L_132 (rvM0 evM v) hl.1 rfl rfl (Nat.le_of_ble_eq_true rfl) ⟨Nat.le_of_ble_eq_true rfl, Nat.le_of_ble_eq_true rfl⟩ dL_law_1248 ⟨hkc, hks⟩) (fun H locs hPM hPB hS => ?_)
        refine lv_pop hx hb dL_law_1251 rfl ?_
        refine lv_goto (tgt := 1617) hx hb dL_law_1252 (by decide) ?_
        exact hnext _ _ _ _ ls hPB hPM hS hRel hl
      by_cases y27 : w0 = (27 : Int32)
      · refine lv_tableIn (tgt := 1255) (off := 1222) hx hb dL_law_33 (by rw [y27]; decide) (by rw [y27]; decide) (by rw [y27]; decide) (by decide) ?_
        obtain ⟨r, u', r2, v', h1, h2, hRel, he⟩ := hst.2.2.2.2.2.2.2.2.2.2.2.2.2.2.2.2.2.2.2.2.2.2.2.2.2.2.2.1 k u v a1 a2 (by omega) hRel
        refine lv_aload_n hx hb dL_law_1255 rfl (lv_at hl 1 rfl) ?_
        refine lv_aload_n hx hb dL_law_1256 rfl (lv_at hl 0 rfl) ?_
        refine lv_iload_n hx hb dL_law_1257 rfl (lv_at hl 3 rfl) ?_
        refine lv_iconst (v := (1 : Int32)) hx hb dL_law_1258 (by decide) ?_
        refine lv_iadd hx hb dL_law_1259 ?_
        refine va_sld hx hb hX hbl hbA hS (law_ix (j := 1) ex3 hgo hL20 (by decide)) dL_law_1260 ?_
        refine tope ea1 ?_
        refine lv_aload_n hx hb dL_law_1261 rfl (lv_at hl 0 rfl) ?_
        refine lv_iload_n hx hb dL_law_1262 rfl (lv_at hl 3 rfl) ?_
        refine lv_iconst (v := (2 : Int32)) hx hb dL_law_1263 (by decide) ?_
        refine lv_iadd hx hb dL_law_1264 ?_
        refine va_sld hx hb hX hbl hbA hS (law_ix (j := 2) ex3 hgo hL20 (by decide)) dL_law_1265 ?_
        refine tope ea2 ?_
        refine law_I (u' := u') hCB hS hPM hapB (law_run (As := [.int a1, .int a2]) (rest := []) okB hCB hx hb hml hown hts hPB hS (c_X9_challenge l evB a1 a2 u h1 H.size) kv_X9_challenge ml_L_133 (rvB0 evB u) hl.1 rfl rfl (Nat.le_of_ble_eq_true rfl) ⟨Nat.le_of_ble_eq_true rfl, Nat.le_of_ble_eq_true rfl⟩ dL_law_1266 ⟨hkc, hks⟩) (fun H locs hPB hPM hS => ?_)
        refine lv_pop hx hb dL_law_1269 rfl ?_
        refine lv_aload_n hx hb dL_law_1270 rfl (lv_at hl 2 rfl) ?_
        refine lv_aload_n hx hb dL_law_1271 rfl (lv_at hl 0 rfl) ?_
        refine lv_iload_n hx hb dL_law_1272 rfl (lv_at hl 3 rfl) ?_
        refine lv_iconst (v := (1 : Int32)) hx hb dL_law_1273 (by decide) ?_
        refine lv_iadd hx hb dL_law_1274 ?_
        refine va_sld hx hb hX hbl hbA hS (law_ix (j := 1) ex3 hgo hL20 (by decide)) dL_law_1275 ?_
        refine tope ea1 ?_
        refine lv_aload_n hx hb dL_law_1276 rfl (lv_at hl 0 rfl) ?_
        refine lv_iload_n hx hb dL_law_1277 rfl (lv_at hl 3 rfl) ?_
        refine lv_iconst (v := (2 : Int32)) hx hb dL_law_1278 (by decide) ?_
        refine lv_iadd hx hb dL_law_1279 ?_
        refine va_sld hx hb hX hbl hbA hS (law_ix (j := 2) ex3 hgo hL20 (by decide)) dL_law_1280 ?_
        refine tope ea2 ?_
        refine law_I (u' := v') hCM hS hPB hapM (law_run (As := [.int a1, .int a2]) (rest := []) okM hCM hx hb hml hown hts hPM hS (c_X10_challenge l evM a1 a2 v h2 H.size) kv_X10_challenge ml_L_136 (rvM0 evM v) hl.1 rfl rfl (Nat.le_of_ble_eq_true rfl) ⟨Nat.le_of_ble_eq_true rfl, Nat.le_of_ble_eq_true rfl⟩ dL_law_1281 ⟨hkc, hks⟩) (fun H locs hPM hPB hS => ?_)
        refine lv_pop hx hb dL_law_1284 rfl ?_
        refine lv_goto (tgt := 1617) hx hb dL_law_1285 (by decide) ?_
        exact hnext _ _ _ _ ls hPB hPM hS hRel hl
      by_cases y28 : w0 = (28 : Int32)
      · refine lv_tableIn (tgt := 1288) (off := 1255) hx hb dL_law_33 (by rw [y28]; decide) (by rw [y28]; decide) (by rw [y28]; decide) (by decide) ?_
        by_cases zb : a2 = 0
        · obtain ⟨r, u', r2, v', h1, h2, hRel, he⟩ := hst.2.2.2.2.2.2.2.2.2.2.2.2.2.2.2.2.2.2.2.2.2.2.2.2.2.2.2.2.1 k u v a1 (0 : Int32) (by omega) hRel (Or.inl rfl)
          refine lv_aload_n hx hb dL_law_1288 rfl (lv_at hl 1 rfl) ?_
          refine lv_aload_n hx hb dL_law_1289 rfl (lv_at hl 0 rfl) ?_
          refine lv_iload_n hx hb dL_law_1290 rfl (lv_at hl 3 rfl) ?_
          refine lv_iconst (v := (1 : Int32)) hx hb dL_law_1291 (by decide) ?_
          refine lv_iadd hx hb dL_law_1292 ?_
          refine va_sld hx hb hX hbl hbA hS (law_ix (j := 1) ex3 hgo hL20 (by decide)) dL_law_1293 ?_
          refine tope ea1 ?_
          refine lv_aload_n hx hb dL_law_1294 rfl (lv_at hl 0 rfl) ?_
          refine lv_iload_n hx hb dL_law_1295 rfl (lv_at hl 3 rfl) ?_
          refine lv_iconst (v := (2 : Int32)) hx hb dL_law_1296 (by decide) ?_
          refine lv_iadd hx hb dL_law_1297 ?_
          refine va_sld hx hb hX hbl hbA hS (law_ix (j := 2) ex3 hgo hL20 (by decide)) dL_law_1298 ?_
          refine tope ea2 ?_
          refine lv_if_eq (tgt := 1306) hx hb dL_law_1299 (by decide) (fun _ => ?_) (fun z => absurd zb z)
          refine lv_iconst (v := (0 : Int32)) hx hb dL_law_1306 (by decide) ?_
          refine law_I (u' := u') hCB hS hPM hapB (law_run (As := [.int a1, .int (0 : Int32)]) (rest := []) okB hCB hx hb hml hown hts hPB hS (c_X9_judge l evB a1 (0 : Int32) u h1 H.size) kv_X9_judge ml_L_137 (rvB0 evB u) hl.1 rfl rfl (Nat.le_of_ble_eq_true rfl) ⟨Nat.le_of_ble_eq_true rfl, Nat.le_of_ble_eq_true rfl⟩ dL_law_1307 ⟨hkc, hks⟩) (fun H locs hPB hPM hS => ?_)
          refine lv_pop hx hb dL_law_1310 rfl ?_
          refine lv_aload_n hx hb dL_law_1311 rfl (lv_at hl 2 rfl) ?_
          refine lv_aload_n hx hb dL_law_1312 rfl (lv_at hl 0 rfl) ?_
          refine lv_iload_n hx hb dL_law_1313 rfl (lv_at hl 3 rfl) ?_
          refine lv_iconst (v := (1 : Int32)) hx hb dL_law_1314 (by decide) ?_
          refine lv_iadd hx hb dL_law_1315 ?_
          refine va_sld hx hb hX hbl hbA hS (law_ix (j := 1) ex3 hgo hL20 (by decide)) dL_law_1316 ?_
          refine tope ea1 ?_
          refine lv_aload_n hx hb dL_law_1317 rfl (lv_at hl 0 rfl) ?_
          refine lv_iload_n hx hb dL_law_1318 rfl (lv_at hl 3 rfl) ?_
          refine lv_iconst (v := (2 : Int32)) hx hb dL_law_1319 (by decide) ?_
          refine lv_iadd hx hb dL_law_1320 ?_
          refine va_sld hx hb hX hbl hbA hS (law_ix (j := 2) ex3 hgo hL20 (by decide)) dL_law_1321 ?_
          refine tope ea2 ?_
          refine lv_if_eq (tgt := 1329) hx hb dL_law_1322 (by decide) (fun _ => ?_) (fun z => absurd zb z)
          refine lv_iconst (v := (0 : Int32)) hx hb dL_law_1329 (by decide) ?_
          refine law_I (u' := v') hCM hS hPB hapM (law_run (As := [.int a1, .int (0 : Int32)]) (rest := []) okM hCM hx hb hml hown hts hPM hS (c_X10_judge l evM a1 (0 : Int32) v h2 H.size) kv_X10_judge ml_L_141 (rvM0 evM v) hl.1 rfl rfl (Nat.le_of_ble_eq_true rfl) ⟨Nat.le_of_ble_eq_true rfl, Nat.le_of_ble_eq_true rfl⟩ dL_law_1330 ⟨hkc, hks⟩) (fun H locs hPM hPB hS => ?_)
          refine lv_pop hx hb dL_law_1333 rfl ?_
          refine lv_goto (tgt := 1617) hx hb dL_law_1334 (by decide) ?_
          exact hnext _ _ _ _ ls hPB hPM hS hRel hl
        · obtain ⟨r, u', r2, v', h1, h2, hRel, he⟩ := hst.2.2.2.2.2.2.2.2.2.2.2.2.2.2.2.2.2.2.2.2.2.2.2.2.2.2.2.2.1 k u v a1 (1 : Int32) (by omega) hRel (Or.inr rfl)
          refine lv_aload_n hx hb dL_law_1288 rfl (lv_at hl 1 rfl) ?_
          refine lv_aload_n hx hb dL_law_1289 rfl (lv_at hl 0 rfl) ?_
          refine lv_iload_n hx hb dL_law_1290 rfl (lv_at hl 3 rfl) ?_
          refine lv_iconst (v := (1 : Int32)) hx hb dL_law_1291 (by decide) ?_
          refine lv_iadd hx hb dL_law_1292 ?_
          refine va_sld hx hb hX hbl hbA hS (law_ix (j := 1) ex3 hgo hL20 (by decide)) dL_law_1293 ?_
          refine tope ea1 ?_
          refine lv_aload_n hx hb dL_law_1294 rfl (lv_at hl 0 rfl) ?_
          refine lv_iload_n hx hb dL_law_1295 rfl (lv_at hl 3 rfl) ?_
          refine lv_iconst (v := (2 : Int32)) hx hb dL_law_1296 (by decide) ?_
          refine lv_iadd hx hb dL_law_1297 ?_
          refine va_sld hx hb hX hbl hbA hS (law_ix (j := 2) ex3 hgo hL20 (by decide)) dL_law_1298 ?_
          refine tope ea2 ?_
          refine lv_if_eq (tgt := 1306) hx hb dL_law_1299 (by decide) (fun z => absurd z zb) (fun _ => ?_)
          refine lv_iconst (v := (1 : Int32)) hx hb dL_law_1302 (by decide) ?_
          refine lv_goto (tgt := 1307) hx hb dL_law_1303 (by decide) ?_
          refine law_I (u' := u') hCB hS hPM hapB (law_run (As := [.int a1, .int (1 : Int32)]) (rest := []) okB hCB hx hb hml hown hts hPB hS (c_X9_judge l evB a1 (1 : Int32) u h1 H.size) kv_X9_judge ml_L_137 (rvB0 evB u) hl.1 rfl rfl (Nat.le_of_ble_eq_true rfl) ⟨Nat.le_of_ble_eq_true rfl, Nat.le_of_ble_eq_true rfl⟩ dL_law_1307 ⟨hkc, hks⟩) (fun H locs hPB hPM hS => ?_)
          refine lv_pop hx hb dL_law_1310 rfl ?_
          refine lv_aload_n hx hb dL_law_1311 rfl (lv_at hl 2 rfl) ?_
          refine lv_aload_n hx hb dL_law_1312 rfl (lv_at hl 0 rfl) ?_
          refine lv_iload_n hx hb dL_law_1313 rfl (lv_at hl 3 rfl) ?_
          refine lv_iconst (v := (1 : Int32)) hx hb dL_law_1314 (by decide) ?_
          refine lv_iadd hx hb dL_law_1315 ?_
          refine va_sld hx hb hX hbl hbA hS (law_ix (j := 1) ex3 hgo hL20 (by decide)) dL_law_1316 ?_
          refine tope ea1 ?_
          refine lv_aload_n hx hb dL_law_1317 rfl (lv_at hl 0 rfl) ?_
          refine lv_iload_n hx hb dL_law_1318 rfl (lv_at hl 3 rfl) ?_
          refine lv_iconst (v := (2 : Int32)) hx hb dL_law_1319 (by decide) ?_
          refine lv_iadd hx hb dL_law_1320 ?_
          refine va_sld hx hb hX hbl hbA hS (law_ix (j := 2) ex3 hgo hL20 (by decide)) dL_law_1321 ?_
          refine tope ea2 ?_
          refine lv_if_eq (tgt := 1329) hx hb dL_law_1322 (by decide) (fun z => absurd z zb) (fun _ => ?_)
          refine lv_iconst (v := (1 : Int32)) hx hb dL_law_1325 (by decide) ?_
          refine lv_goto (tgt := 1330) hx hb dL_law_1326 (by decide) ?_
          refine law_I (u' := v') hCM hS hPB hapM (law_run (As := [.int a1, .int (1 : Int32)]) (rest := []) okM hCM hx hb hml hown hts hPM hS (c_X10_judge l evM a1 (1 : Int32) v h2 H.size) kv_X10_judge ml_L_141 (rvM0 evM v) hl.1 rfl rfl (Nat.le_of_ble_eq_true rfl) ⟨Nat.le_of_ble_eq_true rfl, Nat.le_of_ble_eq_true rfl⟩ dL_law_1330 ⟨hkc, hks⟩) (fun H locs hPM hPB hS => ?_)
          refine lv_pop hx hb dL_law_1333 rfl ?_
          refine lv_goto (tgt := 1617) hx hb dL_law_1334 (by decide) ?_
          exact hnext _ _ _ _ ls hPB hPM hS hRel hl
      by_cases y29 : w0 = (29 : Int32)
      · refine lv_tableIn (tgt := 1337) (off := 1304) hx hb dL_law_33 (by rw [y29]; decide) (by rw [y29]; decide) (by rw [y29]; decide) (by decide) ?_
        obtain ⟨r, u', r2, v', h1, h2, hRel, he⟩ := hst.2.2.2.2.2.2.2.2.2.2.2.2.2.2.2.2.2.2.2.2.2.2.2.2.2.2.2.2.2.1 k u v  (by omega) hRel
        refine lv_aload_n hx hb dL_law_1337 rfl (lv_at hl 1 rfl) ?_
        refine law_I (u' := u') hCB hS hPM hapB (law_run (As := []) (rest := []) okB hCB hx hb hml hown hts hPB hS (c_X9_sign l evB  u h1 H.size) kv_X9_sign ml_L_142 (rvB0 evB u) hl.1 rfl rfl (Nat.le_of_ble_eq_true rfl) ⟨Nat.le_of_ble_eq_true rfl, Nat.le_of_ble_eq_true rfl⟩ dL_law_1338 ⟨hkc, hks⟩) (fun H locs hPB hPM hS => ?_)
        refine lv_pop hx hb dL_law_1341 rfl ?_
        refine lv_aload_n hx hb dL_law_1342 rfl (lv_at hl 2 rfl) ?_
        refine law_I (u' := v') hCM hS hPB hapM (law_run (As := []) (rest := []) okM hCM hx hb hml hown hts hPM hS (c_X10_sign l evM  v h2 H.size) kv_X10_sign ml_L_145 (rvM0 evM v) hl.1 rfl rfl (Nat.le_of_ble_eq_true rfl) ⟨Nat.le_of_ble_eq_true rfl, Nat.le_of_ble_eq_true rfl⟩ dL_law_1343 ⟨hkc, hks⟩) (fun H locs hPM hPB hS => ?_)
        refine lv_pop hx hb dL_law_1346 rfl ?_
        refine lv_goto (tgt := 1617) hx hb dL_law_1347 (by decide) ?_
        exact hnext _ _ _ _ ls hPB hPM hS hRel hl
      by_cases y30 : w0 = (30 : Int32)
      · refine lv_tableIn (tgt := 1350) (off := 1317) hx hb dL_law_33 (by rw [y30]; decide) (by rw [y30]; decide) (by rw [y30]; decide) (by decide) ?_
        obtain ⟨r, u', r2, v', h1, h2, hRel, he⟩ := hst.2.2.2.2.2.2.2.2.2.2.2.2.2.2.2.2.2.2.2.2.2.2.2.2.2.2.2.2.2.2.1 k u v a1 a2 (by omega) hRel
        refine lv_aload_n hx hb dL_law_1350 rfl (lv_at hl 1 rfl) ?_
        refine lv_aload_n hx hb dL_law_1351 rfl (lv_at hl 0 rfl) ?_
        refine lv_iload_n hx hb dL_law_1352 rfl (lv_at hl 3 rfl) ?_
        refine lv_iconst (v := (1 : Int32)) hx hb dL_law_1353 (by decide) ?_
        refine lv_iadd hx hb dL_law_1354 ?_
        refine va_sld hx hb hX hbl hbA hS (law_ix (j := 1) ex3 hgo hL20 (by decide)) dL_law_1355 ?_
        refine tope ea1 ?_
        refine lv_aload_n hx hb dL_law_1356 rfl (lv_at hl 0 rfl) ?_
        refine lv_iload_n hx hb dL_law_1357 rfl (lv_at hl 3 rfl) ?_
        refine lv_iconst (v := (2 : Int32)) hx hb dL_law_1358 (by decide) ?_
        refine lv_iadd hx hb dL_law_1359 ?_
        refine va_sld hx hb hX hbl hbA hS (law_ix (j := 2) ex3 hgo hL20 (by decide)) dL_law_1360 ?_
        refine tope ea2 ?_
        refine law_I (u' := u') hCB hS hPM hapB (law_run (As := [.int a1, .int a2]) (rest := []) okB hCB hx hb hml hown hts hPB hS (c_X9_change l evB a1 a2 u h1 H.size) kv_X9_change ml_L_146 (rvB0 evB u) hl.1 rfl rfl (Nat.le_of_ble_eq_true rfl) ⟨Nat.le_of_ble_eq_true rfl, Nat.le_of_ble_eq_true rfl⟩ dL_law_1361 ⟨hkc, hks⟩) (fun H locs hPB hPM hS => ?_)
        refine lv_pop hx hb dL_law_1364 rfl ?_
        refine lv_aload_n hx hb dL_law_1365 rfl (lv_at hl 2 rfl) ?_
        refine lv_aload_n hx hb dL_law_1366 rfl (lv_at hl 0 rfl) ?_
        refine lv_iload_n hx hb dL_law_1367 rfl (lv_at hl 3 rfl) ?_
        refine lv_iconst (v := (1 : Int32)) hx hb dL_law_1368 (by decide) ?_
        refine lv_iadd hx hb dL_law_1369 ?_
        refine va_sld hx hb hX hbl hbA hS (law_ix (j := 1) ex3 hgo hL20 (by decide)) dL_law_1370 ?_
        refine tope ea1 ?_
        refine lv_aload_n hx hb dL_law_1371 rfl (lv_at hl 0 rfl) ?_
        refine lv_iload_n hx hb dL_law_1372 rfl (lv_at hl 3 rfl) ?_
        refine lv_iconst (v := (2 : Int32)) hx hb dL_law_1373 (by decide) ?_
        refine lv_iadd hx hb dL_law_1374 ?_
        refine va_sld hx hb hX hbl hbA hS (law_ix (j := 2) ex3 hgo hL20 (by decide)) dL_law_1375 ?_
        refine tope ea2 ?_
        refine law_I (u' := v') hCM hS hPB hapM (law_run (As := [.int a1, .int a2]) (rest := []) okM hCM hx hb hml hown hts hPM hS (c_X10_change l evM a1 a2 v h2 H.size) kv_X10_change ml_L_149 (rvM0 evM v) hl.1 rfl rfl (Nat.le_of_ble_eq_true rfl) ⟨Nat.le_of_ble_eq_true rfl, Nat.le_of_ble_eq_true rfl⟩ dL_law_1376 ⟨hkc, hks⟩) (fun H locs hPM hPB hS => ?_)
        refine lv_pop hx hb dL_law_1379 rfl ?_
        refine lv_goto (tgt := 1617) hx hb dL_law_1380 (by decide) ?_
        exact hnext _ _ _ _ ls hPB hPM hS hRel hl
      by_cases y31 : w0 = (31 : Int32)
      · refine lv_tableIn (tgt := 1383) (off := 1350) hx hb dL_law_33 (by rw [y31]; decide) (by rw [y31]; decide) (by rw [y31]; decide) (by decide) ?_
        obtain ⟨r, u', r2, v', h1, h2, hRel, he⟩ := hst.2.2.2.2.2.2.2.2.2.2.2.2.2.2.2.2.2.2.2.2.2.2.2.2.2.2.2.2.2.2.2.1 k u v a1 a2 a3 (by omega) hRel
        refine lv_aload_n hx hb dL_law_1383 rfl (lv_at hl 1 rfl) ?_
        refine lv_aload_n hx hb dL_law_1384 rfl (lv_at hl 0 rfl) ?_
        refine lv_iload_n hx hb dL_law_1385 rfl (lv_at hl 3 rfl) ?_
        refine lv_iconst (v := (1 : Int32)) hx hb dL_law_1386 (by decide) ?_
        refine lv_iadd hx hb dL_law_1387 ?_
        refine va_sld hx hb hX hbl hbA hS (law_ix (j := 1) ex3 hgo hL20 (by decide)) dL_law_1388 ?_
        refine tope ea1 ?_
        refine lv_aload_n hx hb dL_law_1389 rfl (lv_at hl 0 rfl) ?_
        refine lv_iload_n hx hb dL_law_1390 rfl (lv_at hl 3 rfl) ?_
        refine lv_iconst (v := (2 : Int32)) hx hb dL_law_1391 (by decide) ?_
        refine lv_iadd hx hb dL_law_1392 ?_
        refine va_sld hx hb hX hbl hbA hS (law_ix (j := 2) ex3 hgo hL20 (by decide)) dL_law_1393 ?_
        refine tope ea2 ?_
        refine lv_aload_n hx hb dL_law_1394 rfl (lv_at hl 0 rfl) ?_
        refine lv_iload_n hx hb dL_law_1395 rfl (lv_at hl 3 rfl) ?_
        refine lv_iconst (v := (3 : Int32)) hx hb dL_law_1396 (by decide) ?_
        refine lv_iadd hx hb dL_law_1397 ?_
        refine va_sld hx hb hX hbl hbA hS (law_ix (j := 3) ex3 hgo hL20 (by decide)) dL_law_1398 ?_
        refine tope ea3 ?_
        refine law_L (u' := u') hCB hS hPM hapB (law_run (As := [.int a1, .int a2, .int a3]) (rest := []) okB hCB hx hb hml hown hts hPB hS (c_X9_likeness l evB a1 a2 a3 u h1 H.size) kv_X9_likeness ml_L_150 (rvB0 evB u) hl.1 rfl rfl (Nat.le_of_ble_eq_true rfl) ⟨Nat.le_of_ble_eq_true rfl, Nat.le_of_ble_eq_true rfl⟩ dL_law_1399 ⟨hkc, hks⟩) (fun H locs hPB hPM hS => ?_)
        refine lv_pop2_2 hx hb dL_law_1402 rfl ?_
        refine lv_aload_n hx hb dL_law_1403 rfl (lv_at hl 2 rfl) ?_
        refine lv_aload_n hx hb dL_law_1404 rfl (lv_at hl 0 rfl) ?_
        refine lv_iload_n hx hb dL_law_1405 rfl (lv_at hl 3 rfl) ?_
        refine lv_iconst (v := (1 : Int32)) hx hb dL_law_1406 (by decide) ?_
        refine lv_iadd hx hb dL_law_1407 ?_
        refine va_sld hx hb hX hbl hbA hS (law_ix (j := 1) ex3 hgo hL20 (by decide)) dL_law_1408 ?_
        refine tope ea1 ?_
        refine lv_aload_n hx hb dL_law_1409 rfl (lv_at hl 0 rfl) ?_
        refine lv_iload_n hx hb dL_law_1410 rfl (lv_at hl 3 rfl) ?_
        refine lv_iconst (v := (2 : Int32)) hx hb dL_law_1411 (by decide) ?_
        refine lv_iadd hx hb dL_law_1412 ?_
        refine va_sld hx hb hX hbl hbA hS (law_ix (j := 2) ex3 hgo hL20 (by decide)) dL_law_1413 ?_
        refine tope ea2 ?_
        refine lv_aload_n hx hb dL_law_1414 rfl (lv_at hl 0 rfl) ?_
        refine lv_iload_n hx hb dL_law_1415 rfl (lv_at hl 3 rfl) ?_
        refine lv_iconst (v := (3 : Int32)) hx hb dL_law_1416 (by decide) ?_
        refine lv_iadd hx hb dL_law_1417 ?_
        refine va_sld hx hb hX hbl hbA hS (law_ix (j := 3) ex3 hgo hL20 (by decide)) dL_law_1418 ?_
        refine tope ea3 ?_
        refine law_L (u' := v') hCM hS hPB hapM (law_run (As := [.int a1, .int a2, .int a3]) (rest := []) okM hCM hx hb hml hown hts hPM hS (c_X10_likeness l evM a1 a2 a3 v h2 H.size) kv_X10_likeness ml_L_153 (rvM0 evM v) hl.1 rfl rfl (Nat.le_of_ble_eq_true rfl) ⟨Nat.le_of_ble_eq_true rfl, Nat.le_of_ble_eq_true rfl⟩ dL_law_1419 ⟨hkc, hks⟩) (fun H locs hPM hPB hS => ?_)
        refine lv_pop2_2 hx hb dL_law_1422 rfl ?_
        refine lv_goto (tgt := 1617) hx hb dL_law_1423 (by decide) ?_
        exact hnext _ _ _ _ ls hPB hPM hS hRel hl
      by_cases y32 : w0 = (32 : Int32)
      · refine lv_tableIn (tgt := 1426) (off := 1393) hx hb dL_law_33 (by rw [y32]; decide) (by rw [y32]; decide) (by rw [y32]; decide) (by decide) ?_
        obtain ⟨r, u', r2, v', h1, h2, hRel, he⟩ := hst.2.2.2.2.2.2.2.2.2.2.2.2.2.2.2.2.2.2.2.2.2.2.2.2.2.2.2.2.2.2.2.2.1 k u v a1 a2 a3 (by omega) hRel
        refine lv_aload_n hx hb dL_law_1426 rfl (lv_at hl 1 rfl) ?_
        refine lv_aload_n hx hb dL_law_1427 rfl (lv_at hl 0 rfl) ?_
        refine lv_iload_n hx hb dL_law_1428 rfl (lv_at hl 3 rfl) ?_
        refine lv_iconst (v := (1 : Int32)) hx hb dL_law_1429 (by decide) ?_
        refine lv_iadd hx hb dL_law_1430 ?_
        refine va_sld hx hb hX hbl hbA hS (law_ix (j := 1) ex3 hgo hL20 (by decide)) dL_law_1431 ?_
        refine tope ea1 ?_
        refine lv_aload_n hx hb dL_law_1432 rfl (lv_at hl 0 rfl) ?_
        refine lv_iload_n hx hb dL_law_1433 rfl (lv_at hl 3 rfl) ?_
        refine lv_iconst (v := (2 : Int32)) hx hb dL_law_1434 (by decide) ?_
        refine lv_iadd hx hb dL_law_1435 ?_
        refine va_sld hx hb hX hbl hbA hS (law_ix (j := 2) ex3 hgo hL20 (by decide)) dL_law_1436 ?_
        refine tope ea2 ?_
        refine lv_aload_n hx hb dL_law_1437 rfl (lv_at hl 0 rfl) ?_
        refine lv_iload_n hx hb dL_law_1438 rfl (lv_at hl 3 rfl) ?_
        refine lv_iconst (v := (3 : Int32)) hx hb dL_law_1439 (by decide) ?_
        refine lv_iadd hx hb dL_law_1440 ?_
        refine va_sld hx hb hX hbl hbA hS (law_ix (j := 3) ex3 hgo hL20 (by decide)) dL_law_1441 ?_
        refine tope ea3 ?_
        refine law_I (u' := u') hCB hS hPM hapB (law_run (As := [.int a1, .int a2, .int a3]) (rest := []) okB hCB hx hb hml hown hts hPB hS (c_X9_chance l evB a1 a2 a3 u h1 H.size) kv_X9_chance ml_L_154 (rvB0 evB u) hl.1 rfl rfl (Nat.le_of_ble_eq_true rfl) ⟨Nat.le_of_ble_eq_true rfl, Nat.le_of_ble_eq_true rfl⟩ dL_law_1442 ⟨hkc, hks⟩) (fun H locs hPB hPM hS => ?_)
        refine lv_pop hx hb dL_law_1445 rfl ?_
        refine lv_aload_n hx hb dL_law_1446 rfl (lv_at hl 2 rfl) ?_
        refine lv_aload_n hx hb dL_law_1447 rfl (lv_at hl 0 rfl) ?_
        refine lv_iload_n hx hb dL_law_1448 rfl (lv_at hl 3 rfl) ?_
        refine lv_iconst (v := (1 : Int32)) hx hb dL_law_1449 (by decide) ?_
        refine lv_iadd hx hb dL_law_1450 ?_
        refine va_sld hx hb hX hbl hbA hS (law_ix (j := 1) ex3 hgo hL20 (by decide)) dL_law_1451 ?_
        refine tope ea1 ?_
        refine lv_aload_n hx hb dL_law_1452 rfl (lv_at hl 0 rfl) ?_
        refine lv_iload_n hx hb dL_law_1453 rfl (lv_at hl 3 rfl) ?_
        refine lv_iconst (v := (2 : Int32)) hx hb dL_law_1454 (by decide) ?_
        refine lv_iadd hx hb dL_law_1455 ?_
        refine va_sld hx hb hX hbl hbA hS (law_ix (j := 2) ex3 hgo hL20 (by decide)) dL_law_1456 ?_
        refine tope ea2 ?_
        refine lv_aload_n hx hb dL_law_1457 rfl (lv_at hl 0 rfl) ?_
        refine lv_iload_n hx hb dL_law_1458 rfl (lv_at hl 3 rfl) ?_
        refine lv_iconst (v := (3 : Int32)) hx hb dL_law_1459 (by decide) ?_
        refine lv_iadd hx hb dL_law_1460 ?_
        refine va_sld hx hb hX hbl hbA hS (law_ix (j := 3) ex3 hgo hL20 (by decide)) dL_law_1461 ?_
        refine tope ea3 ?_
        refine law_I (u' := v') hCM hS hPB hapM (law_run (As := [.int a1, .int a2, .int a3]) (rest := []) okM hCM hx hb hml hown hts hPM hS (c_X10_chance l evM a1 a2 a3 v h2 H.size) kv_X10_chance ml_L_157 (rvM0 evM v) hl.1 rfl rfl (Nat.le_of_ble_eq_true rfl) ⟨Nat.le_of_ble_eq_true rfl, Nat.le_of_ble_eq_true rfl⟩ dL_law_1462 ⟨hkc, hks⟩) (fun H locs hPM hPB hS => ?_)
        refine lv_pop hx hb dL_law_1465 rfl ?_
        refine lv_goto (tgt := 1617) hx hb dL_law_1466 (by decide) ?_
        exact hnext _ _ _ _ ls hPB hPM hS hRel hl
      by_cases y33 : w0 = (33 : Int32)
      · refine lv_tableIn (tgt := 1469) (off := 1436) hx hb dL_law_33 (by rw [y33]; decide) (by rw [y33]; decide) (by rw [y33]; decide) (by decide) ?_
        obtain ⟨r, u', r2, v', h1, h2, hRel, he⟩ := hst.2.2.2.2.2.2.2.2.2.2.2.2.2.2.2.2.2.2.2.2.2.2.2.2.2.2.2.2.2.2.2.2.2.1 k u v a1 a2 (by omega) hRel
        refine lv_aload_n hx hb dL_law_1469 rfl (lv_at hl 1 rfl) ?_
        refine lv_aload_n hx hb dL_law_1470 rfl (lv_at hl 0 rfl) ?_
        refine lv_iload_n hx hb dL_law_1471 rfl (lv_at hl 3 rfl) ?_
        refine lv_iconst (v := (1 : Int32)) hx hb dL_law_1472 (by decide) ?_
        refine lv_iadd hx hb dL_law_1473 ?_
        refine va_sld hx hb hX hbl hbA hS (law_ix (j := 1) ex3 hgo hL20 (by decide)) dL_law_1474 ?_
        refine tope ea1 ?_
        refine lv_aload_n hx hb dL_law_1475 rfl (lv_at hl 0 rfl) ?_
        refine lv_iload_n hx hb dL_law_1476 rfl (lv_at hl 3 rfl) ?_
        refine lv_iconst (v := (2 : Int32)) hx hb dL_law_1477 (by decide) ?_
        refine lv_iadd hx hb dL_law_1478 ?_
        refine va_sld hx hb hX hbl hbA hS (law_ix (j := 2) ex3 hgo hL20 (by decide)) dL_law_1479 ?_
        refine tope ea2 ?_
        refine law_I (u' := u') hCB hS hPM hapB (law_run (As := [.int a1, .int a2]) (rest := []) okB hCB hx hb hml hown hts hPB hS (c_X9_ring l evB a1 a2 u h1 H.size) kv_X9_ring ml_L_158 (rvB0 evB u) hl.1 rfl rfl (Nat.le_of_ble_eq_true rfl) ⟨Nat.le_of_ble_eq_true rfl, Nat.le_of_ble_eq_true rfl⟩ dL_law_1480 ⟨hkc, hks⟩) (fun H locs hPB hPM hS => ?_)
        refine lv_pop hx hb dL_law_1483 rfl ?_
        refine lv_aload_n hx hb dL_law_1484 rfl (lv_at hl 2 rfl) ?_
        refine lv_aload_n hx hb dL_law_1485 rfl (lv_at hl 0 rfl) ?_
        refine lv_iload_n hx hb dL_law_1486 rfl (lv_at hl 3 rfl) ?_
        refine lv_iconst (v := (1 : Int32)) hx hb dL_law_1487 (by decide) ?_
        refine lv_iadd hx hb dL_law_1488 ?_
        refine va_sld hx hb hX hbl hbA hS (law_ix (j := 1) ex3 hgo hL20 (by decide)) dL_law_1489 ?_
        refine tope ea1 ?_
        refine lv_aload_n hx hb dL_law_1490 rfl (lv_at hl 0 rfl) ?_
        refine lv_iload_n hx hb dL_law_1491 rfl (lv_at hl 3 rfl) ?_
        refine lv_iconst (v := (2 : Int32)) hx hb dL_law_1492 (by decide) ?_
        refine lv_iadd hx hb dL_law_1493 ?_
        refine va_sld hx hb hX hbl hbA hS (law_ix (j := 2) ex3 hgo hL20 (by decide)) dL_law_1494 ?_
        refine tope ea2 ?_
        refine law_I (u' := v') hCM hS hPB hapM (law_run (As := [.int a1, .int a2]) (rest := []) okM hCM hx hb hml hown hts hPM hS (c_X10_ring l evM a1 a2 v h2 H.size) kv_X10_ring ml_L_161 (rvM0 evM v) hl.1 rfl rfl (Nat.le_of_ble_eq_true rfl) ⟨Nat.le_of_ble_eq_true rfl, Nat.le_of_ble_eq_true rfl⟩ dL_law_1495 ⟨hkc, hks⟩) (fun H locs hPM hPB hS => ?_)
        refine lv_pop hx hb dL_law_1498 rfl ?_
        refine lv_goto (tgt := 1617) hx hb dL_law_1499 (by decide) ?_
        exact hnext _ _ _ _ ls hPB hPM hS hRel hl
      by_cases y34 : w0 = (34 : Int32)
      · refine lv_tableIn (tgt := 1502) (off := 1469) hx hb dL_law_33 (by rw [y34]; decide) (by rw [y34]; decide) (by rw [y34]; decide) (by decide) ?_
        obtain ⟨r, u', r2, v', h1, h2, hRel, he⟩ := hst.2.2.2.2.2.2.2.2.2.2.2.2.2.2.2.2.2.2.2.2.2.2.2.2.2.2.2.2.2.2.2.2.2.2.1 k u v a1 a2 (by omega) hRel
        refine lv_aload_n hx hb dL_law_1502 rfl (lv_at hl 1 rfl) ?_
        refine lv_aload_n hx hb dL_law_1503 rfl (lv_at hl 0 rfl) ?_
        refine lv_iload_n hx hb dL_law_1504 rfl (lv_at hl 3 rfl) ?_
        refine lv_iconst (v := (1 : Int32)) hx hb dL_law_1505 (by decide) ?_
        refine lv_iadd hx hb dL_law_1506 ?_
        refine va_sld hx hb hX hbl hbA hS (law_ix (j := 1) ex3 hgo hL20 (by decide)) dL_law_1507 ?_
        refine tope ea1 ?_
        refine lv_aload_n hx hb dL_law_1508 rfl (lv_at hl 0 rfl) ?_
        refine lv_iload_n hx hb dL_law_1509 rfl (lv_at hl 3 rfl) ?_
        refine lv_iconst (v := (2 : Int32)) hx hb dL_law_1510 (by decide) ?_
        refine lv_iadd hx hb dL_law_1511 ?_
        refine va_sld hx hb hX hbl hbA hS (law_ix (j := 2) ex3 hgo hL20 (by decide)) dL_law_1512 ?_
        refine tope ea2 ?_
        refine law_I (u' := u') hCB hS hPM hapB (law_run (As := [.int a1, .int a2]) (rest := []) okB hCB hx hb hml hown hts hPB hS (c_X9_join l evB a1 a2 u h1 H.size) kv_X9_join ml_L_162 (rvB0 evB u) hl.1 rfl rfl (Nat.le_of_ble_eq_true rfl) ⟨Nat.le_of_ble_eq_true rfl, Nat.le_of_ble_eq_true rfl⟩ dL_law_1513 ⟨hkc, hks⟩) (fun H locs hPB hPM hS => ?_)
        refine lv_pop hx hb dL_law_1516 rfl ?_
        refine lv_aload_n hx hb dL_law_1517 rfl (lv_at hl 2 rfl) ?_
        refine lv_aload_n hx hb dL_law_1518 rfl (lv_at hl 0 rfl) ?_
        refine lv_iload_n hx hb dL_law_1519 rfl (lv_at hl 3 rfl) ?_
        refine lv_iconst (v := (1 : Int32)) hx hb dL_law_1520 (by decide) ?_
        refine lv_iadd hx hb dL_law_1521 ?_
        refine va_sld hx hb hX hbl hbA hS (law_ix (j := 1) ex3 hgo hL20 (by decide)) dL_law_1522 ?_
        refine tope ea1 ?_
        refine lv_aload_n hx hb dL_law_1523 rfl (lv_at hl 0 rfl) ?_
        refine lv_iload_n hx hb dL_law_1524 rfl (lv_at hl 3 rfl) ?_
        refine lv_iconst (v := (2 : Int32)) hx hb dL_law_1525 (by decide) ?_
        refine lv_iadd hx hb dL_law_1526 ?_
        refine va_sld hx hb hX hbl hbA hS (law_ix (j := 2) ex3 hgo hL20 (by decide)) dL_law_1527 ?_
        refine tope ea2 ?_
        refine law_I (u' := v') hCM hS hPB hapM (law_run (As := [.int a1, .int a2]) (rest := []) okM hCM hx hb hml hown hts hPM hS (c_X10_join l evM a1 a2 v h2 H.size) kv_X10_join ml_L_165 (rvM0 evM v) hl.1 rfl rfl (Nat.le_of_ble_eq_true rfl) ⟨Nat.le_of_ble_eq_true rfl, Nat.le_of_ble_eq_true rfl⟩ dL_law_1528 ⟨hkc, hks⟩) (fun H locs hPM hPB hS => ?_)
        refine lv_pop hx hb dL_law_1531 rfl ?_
        refine lv_goto (tgt := 1617) hx hb dL_law_1532 (by decide) ?_
        exact hnext _ _ _ _ ls hPB hPM hS hRel hl
      by_cases y35 : w0 = (35 : Int32)
      · refine lv_tableIn (tgt := 1535) (off := 1502) hx hb dL_law_33 (by rw [y35]; decide) (by rw [y35]; decide) (by rw [y35]; decide) (by decide) ?_
        obtain ⟨r, u', r2, v', h1, h2, hRel, he⟩ := hst.2.2.2.2.2.2.2.2.2.2.2.2.2.2.2.2.2.2.2.2.2.2.2.2.2.2.2.2.2.2.2.2.2.2.2.1 k u v a1 (by omega) hRel
        refine lv_aload_n hx hb dL_law_1535 rfl (lv_at hl 1 rfl) ?_
        refine lv_aload_n hx hb dL_law_1536 rfl (lv_at hl 0 rfl) ?_
        refine lv_iload_n hx hb dL_law_1537 rfl (lv_at hl 3 rfl) ?_
        refine lv_iconst (v := (1 : Int32)) hx hb dL_law_1538 (by decide) ?_
        refine lv_iadd hx hb dL_law_1539 ?_
        refine va_sld hx hb hX hbl hbA hS (law_ix (j := 1) ex3 hgo hL20 (by decide)) dL_law_1540 ?_
        refine tope ea1 ?_
        refine law_I (u' := u') hCB hS hPM hapB (law_run (As := [.int a1]) (rest := []) okB hCB hx hb hml hown hts hPB hS (c_X9_call l evB a1 u h1 H.size) kv_X9_call ml_L_166 (rvB0 evB u) hl.1 rfl rfl (Nat.le_of_ble_eq_true rfl) ⟨Nat.le_of_ble_eq_true rfl, Nat.le_of_ble_eq_true rfl⟩ dL_law_1541 ⟨hkc, hks⟩) (fun H locs hPB hPM hS => ?_)
        refine lv_pop hx hb dL_law_1544 rfl ?_
        refine lv_aload_n hx hb dL_law_1545 rfl (lv_at hl 2 rfl) ?_
        refine lv_aload_n hx hb dL_law_1546 rfl (lv_at hl 0 rfl) ?_
        refine lv_iload_n hx hb dL_law_1547 rfl (lv_at hl 3 rfl) ?_
        refine lv_iconst (v := (1 : Int32)) hx hb dL_law_1548 (by decide) ?_
        refine lv_iadd hx hb dL_law_1549 ?_
        refine va_sld hx hb hX hbl hbA hS (law_ix (j := 1) ex3 hgo hL20 (by decide)) dL_law_1550 ?_
        refine tope ea1 ?_
        refine law_I (u' := v') hCM hS hPB hapM (law_run (As := [.int a1]) (rest := []) okM hCM hx hb hml hown hts hPM hS (c_X10_call l evM a1 v h2 H.size) kv_X10_call ml_L_169 (rvM0 evM v) hl.1 rfl rfl (Nat.le_of_ble_eq_true rfl) ⟨Nat.le_of_ble_eq_true rfl, Nat.le_of_ble_eq_true rfl⟩ dL_law_1551 ⟨hkc, hks⟩) (fun H locs hPM hPB hS => ?_)
        refine lv_pop hx hb dL_law_1554 rfl ?_
        refine lv_goto (tgt := 1617) hx hb dL_law_1555 (by decide) ?_
        exact hnext _ _ _ _ ls hPB hPM hS hRel hl
      by_cases y36 : w0 = (36 : Int32)
      · refine lv_tableIn (tgt := 1558) (off := 1525) hx hb dL_law_33 (by rw [y36]; decide) (by rw [y36]; decide) (by rw [y36]; decide) (by decide) ?_
        obtain ⟨r, u', r2, v', h1, h2, hRel, he⟩ := hst.2.2.2.2.2.2.2.2.2.2.2.2.2.2.2.2.2.2.2.2.2.2.2.2.2.2.2.2.2.2.2.2.2.2.2.2.1 k u v  (by omega) hRel
        refine lv_aload_n hx hb dL_law_1558 rfl (lv_at hl 1 rfl) ?_
        refine law_I (u' := u') hCB hS hPM hapB (law_run (As := []) (rest := []) okB hCB hx hb hml hown hts hPB hS (c_X9_decline l evB  u h1 H.size) kv_X9_decline ml_L_170 (rvB0 evB u) hl.1 rfl rfl (Nat.le_of_ble_eq_true rfl) ⟨Nat.le_of_ble_eq_true rfl, Nat.le_of_ble_eq_true rfl⟩ dL_law_1559 ⟨hkc, hks⟩) (fun H locs hPB hPM hS => ?_)
        refine lv_pop hx hb dL_law_1562 rfl ?_
        refine lv_aload_n hx hb dL_law_1563 rfl (lv_at hl 2 rfl) ?_
        refine law_I (u' := v') hCM hS hPB hapM (law_run (As := []) (rest := []) okM hCM hx hb hml hown hts hPM hS (c_X10_decline l evM  v h2 H.size) kv_X10_decline ml_L_173 (rvM0 evM v) hl.1 rfl rfl (Nat.le_of_ble_eq_true rfl) ⟨Nat.le_of_ble_eq_true rfl, Nat.le_of_ble_eq_true rfl⟩ dL_law_1564 ⟨hkc, hks⟩) (fun H locs hPM hPB hS => ?_)
        refine lv_pop hx hb dL_law_1567 rfl ?_
        refine lv_goto (tgt := 1617) hx hb dL_law_1568 (by decide) ?_
        exact hnext _ _ _ _ ls hPB hPM hS hRel hl
      by_cases y37 : w0 = (37 : Int32)
      · refine lv_tableIn (tgt := 1571) (off := 1538) hx hb dL_law_33 (by rw [y37]; decide) (by rw [y37]; decide) (by rw [y37]; decide) (by decide) ?_
        obtain ⟨r, u', r2, v', h1, h2, hRel, he⟩ := hst.2.2.2.2.2.2.2.2.2.2.2.2.2.2.2.2.2.2.2.2.2.2.2.2.2.2.2.2.2.2.2.2.2.2.2.2.2.1 k u v a1 (by omega) hRel
        subst he
        refine lv_aload_n hx hb dL_law_1571 rfl (lv_at hl 1 rfl) ?_
        refine lv_aload_n hx hb dL_law_1572 rfl (lv_at hl 0 rfl) ?_
        refine lv_iload_n hx hb dL_law_1573 rfl (lv_at hl 3 rfl) ?_
        refine lv_iconst (v := (1 : Int32)) hx hb dL_law_1574 (by decide) ?_
        refine lv_iadd hx hb dL_law_1575 ?_
        refine va_sld hx hb hX hbl hbA hS (law_ix (j := 1) ex3 hgo hL20 (by decide)) dL_law_1576 ?_
        refine tope ea1 ?_
        refine law_I (u' := u') hCB hS hPM hapB (law_run (As := [.int a1]) (rest := []) okB hCB hx hb hml hown hts hPB hS (c_X9_room l evB a1 u h1 H.size) kv_X9_room ml_L_174 (rvB0 evB u) hl.1 rfl rfl (Nat.le_of_ble_eq_true rfl) ⟨Nat.le_of_ble_eq_true rfl, Nat.le_of_ble_eq_true rfl⟩ dL_law_1577 ⟨hkc, hks⟩) (fun H locs hPB hPM hS => ?_)
        refine lv_aload_n hx hb dL_law_1580 rfl (lv_at hl 2 rfl) ?_
        refine lv_aload_n hx hb dL_law_1581 rfl (lv_at hl 0 rfl) ?_
        refine lv_iload_n hx hb dL_law_1582 rfl (lv_at hl 3 rfl) ?_
        refine lv_iconst (v := (1 : Int32)) hx hb dL_law_1583 (by decide) ?_
        refine lv_iadd hx hb dL_law_1584 ?_
        refine va_sld hx hb hX hbl hbA hS (law_ix (j := 1) ex3 hgo hL20 (by decide)) dL_law_1585 ?_
        refine tope ea1 ?_
        refine law_I (u' := v') hCM hS hPB hapM (law_run (As := [.int a1]) (rest := [.int r]) okM hCM hx hb hml hown hts hPM hS (c_X10_room l evM a1 v h2 H.size) kv_X10_room ml_L_177 (rvM0 evM v) hl.1 rfl rfl (Nat.le_of_ble_eq_true rfl) ⟨Nat.le_of_ble_eq_true rfl, Nat.le_of_ble_eq_true rfl⟩ dL_law_1586 ⟨hkc, hks⟩) (fun H locs hPM hPB hS => ?_)
        refine lv_icmp_eq (tgt := 1617) hx hb dL_law_1589 (by decide) (fun _ => ?_) (fun z => absurd rfl z)
        exact hnext _ _ _ _ ls hPB hPM hS hRel hl
      by_cases y38 : w0 = (38 : Int32)
      · refine lv_tableIn (tgt := 1594) (off := 1561) hx hb dL_law_33 (by rw [y38]; decide) (by rw [y38]; decide) (by rw [y38]; decide) (by decide) ?_
        obtain ⟨r, u', r2, v', h1, h2, hRel, he⟩ := hst.2.2.2.2.2.2.2.2.2.2.2.2.2.2.2.2.2.2.2.2.2.2.2.2.2.2.2.2.2.2.2.2.2.2.2.2.2.2.1 k u v a1 (by omega) hRel
        refine lv_aload_n hx hb dL_law_1594 rfl (lv_at hl 1 rfl) ?_
        refine lv_aload_n hx hb dL_law_1595 rfl (lv_at hl 0 rfl) ?_
        refine lv_iload_n hx hb dL_law_1596 rfl (lv_at hl 3 rfl) ?_
        refine lv_iconst (v := (1 : Int32)) hx hb dL_law_1597 (by decide) ?_
        refine lv_iadd hx hb dL_law_1598 ?_
        refine va_sld hx hb hX hbl hbA hS (law_ix (j := 1) ex3 hgo hL20 (by decide)) dL_law_1599 ?_
        refine tope ea1 ?_
        refine law_I (u' := u') hCB hS hPM hapB (law_run (As := [.int a1]) (rest := []) okB hCB hx hb hml hown hts hPB hS (c_X9_count l evB a1 u h1 H.size) kv_X9_count ml_L_178 (rvB0 evB u) hl.1 rfl rfl (Nat.le_of_ble_eq_true rfl) ⟨Nat.le_of_ble_eq_true rfl, Nat.le_of_ble_eq_true rfl⟩ dL_law_1600 ⟨hkc, hks⟩) (fun H locs hPB hPM hS => ?_)
        refine lv_pop hx hb dL_law_1603 rfl ?_
        refine lv_aload_n hx hb dL_law_1604 rfl (lv_at hl 2 rfl) ?_
        refine lv_aload_n hx hb dL_law_1605 rfl (lv_at hl 0 rfl) ?_
        refine lv_iload_n hx hb dL_law_1606 rfl (lv_at hl 3 rfl) ?_
        refine lv_iconst (v := (1 : Int32)) hx hb dL_law_1607 (by decide) ?_
        refine lv_iadd hx hb dL_law_1608 ?_
        refine va_sld hx hb hX hbl hbA hS (law_ix (j := 1) ex3 hgo hL20 (by decide)) dL_law_1609 ?_
        refine tope ea1 ?_
        refine law_I (u' := v') hCM hS hPB hapM (law_run (As := [.int a1]) (rest := []) okM hCM hx hb hml hown hts hPM hS (c_X10_count l evM a1 v h2 H.size) kv_X10_count ml_L_181 (rvM0 evM v) hl.1 rfl rfl (Nat.le_of_ble_eq_true rfl) ⟨Nat.le_of_ble_eq_true rfl, Nat.le_of_ble_eq_true rfl⟩ dL_law_1610 ⟨hkc, hks⟩) (fun H locs hPM hPB hS => ?_)
        refine lv_pop hx hb dL_law_1613 rfl ?_
        refine lv_goto (tgt := 1617) hx hb dL_law_1614 (by decide) ?_
        exact hnext _ _ _ _ ls hPB hPM hS hRel hl
      exact absurd (tab_out z0 y0 y1 y2 y3 y4 y5 y6 y7 y8 y9 y10 y11 y12 y13 y14 y15 y16 y17 y18 y19 y20 y21 y22 y23 y24 y25 y26 y27 y28 y29 y30 y31 y32 y33 y34 y35 y36 y37 y38) id
