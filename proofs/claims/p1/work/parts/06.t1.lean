theorem ct_X9_66 : Cond.constant RX9 66 (999999) ∈ lw_g := mg 454 (by decide +kernel) (by decide +kernel)
theorem fl_X9_12 : Cond.fieldLink RX9 12 "BidsJudged" "book" "LBidsJudged$Book;" ∈ lw_g := mg 421 (by decide +kernel) (by decide +kernel)
theorem fl_X9_67 : Cond.fieldLink RX9 67 "BidsJudged$Book" "now" "I" ∈ lw_g := mg 114 (by decide +kernel) (by decide +kernel)
theorem fl_X9_58 : Cond.fieldLink RX9 58 "BidsJudged" "refusals" "[I" ∈ lw_g := mg 428 (by decide +kernel) (by decide +kernel)
theorem kv_X9_refuse : lkV yX9_refuse cX9_refuse 2 (some .int) 1 := ⟨mg 452 (by decide +kernel) (by decide +kernel), mg 0 (by decide +kernel) (by decide +kernel), mg 66 (by decide +kernel) (by decide +kernel), mg 453 (by decide +kernel) (by decide +kernel), ⟨by decide +kernel, by decide +kernel, by decide +kernel⟩⟩
theorem ml_X9_62 : Cond.methodLink RX9 62 yX9_refuse ∈ lw_g := mg 450 (by decide +kernel) (by decide +kernel)
theorem fl_X1_40 : Cond.fieldLink RX1 40 "BidsJudged$Book" "closingAt" "I" ∈ lw_g := mg 115 (by decide +kernel) (by decide +kernel)
theorem fl_X1_47 : Cond.fieldLink RX1 47 "BidsJudged$Book" "now" "I" ∈ lw_g := mg 113 (by decide +kernel) (by decide +kernel)
theorem kv_X1_isOpen : lkV yX1_isOpen cX1_isOpen 1 (some .boolean) 0 := ⟨mg 460 (by decide +kernel) (by decide +kernel), mg 461 (by decide +kernel) (by decide +kernel), mg 67 (by decide +kernel) (by decide +kernel), mg 462 (by decide +kernel) (by decide +kernel), ⟨by decide +kernel, by decide +kernel, by decide +kernel⟩⟩
theorem ml_X9_71 : Cond.methodLink RX9 71 yX1_isOpen ∈ lw_g := mg 459 (by decide +kernel) (by decide +kernel)
theorem ct_X9_75 : Cond.constant RX9 75 (100000) ∈ lw_g := mg 463 (by decide +kernel) (by decide +kernel)
theorem ks_X9_inRange : lkS yX9_inRange cX9_inRange 3 (some .int) 3 := ⟨mg 465 (by decide +kernel) (by decide +kernel), mg 66 (by decide +kernel) (by decide +kernel), mg 466 (by decide +kernel) (by decide +kernel), ⟨by decide +kernel, by decide +kernel, by decide +kernel⟩⟩
theorem ml_X9_76 : Cond.methodLink RX9 76 yX9_inRange ∈ lw_g := mg 464 (by decide +kernel) (by decide +kernel)
theorem fl_X9_80 : Cond.fieldLink RX9 80 "BidsJudged$Book" "rates" "[I" ∈ lw_g := mg 99 (by decide +kernel) (by decide +kernel)
theorem fl_X9_83 : Cond.fieldLink RX9 83 "BidsJudged$Book" "lotCount" "I" ∈ lw_g := mg 118 (by decide +kernel) (by decide +kernel)
theorem fl_X1_44 : Cond.fieldLink RX1 44 "BidsJudged$Book" "lotCount" "I" ∈ lw_g := mg 117 (by decide +kernel) (by decide +kernel)
theorem fl_X1_18 : Cond.fieldLink RX1 18 "BidsJudged$Book" "there" "[Z" ∈ lw_g := mg 100 (by decide +kernel) (by decide +kernel)
theorem fl_X1_25 : Cond.fieldLink RX1 25 "BidsJudged$Book" "askedUntil" "[I" ∈ lw_g := mg 106 (by decide +kernel) (by decide +kernel)
theorem kv_X1_drop : lkV yX1_drop cX1_drop 2 none 1 := ⟨mg 476 (by decide +kernel) (by decide +kernel), mg 477 (by decide +kernel) (by decide +kernel), mg 67 (by decide +kernel) (by decide +kernel), mg 478 (by decide +kernel) (by decide +kernel), ⟨by decide +kernel, by decide +kernel, by decide +kernel⟩⟩
theorem ml_X1_50 : Cond.methodLink RX1 50 yX1_drop ∈ lw_g := mg 475 (by decide +kernel) (by decide +kernel)
theorem kv_X1_keepLots : lkV yX1_keepLots cX1_keepLots 3 none 1 := ⟨mg 472 (by decide +kernel) (by decide +kernel), mg 473 (by decide +kernel) (by decide +kernel), mg 67 (by decide +kernel) (by decide +kernel), mg 474 (by decide +kernel) (by decide +kernel), ⟨by decide +kernel, by decide +kernel, by decide +kernel⟩⟩
theorem ml_X9_86 : Cond.methodLink RX9 86 yX1_keepLots ∈ lw_g := mg 471 (by decide +kernel) (by decide +kernel)
def FU : Nat := 600000
def f_X9_refuse (a1 : Int32) (u : SS) : Option (Int32 × SS) :=
  if 0 ≤ a1 then (some (a1, u)) else (if (8 : Int32) ≤ (-a1) then (some (a1, u)) else (oi (-a1) 8 (oi (-a1) 8 (lt (tA u 0 (-a1) ((gA u 0 (-a1).toNatClampNeg) + (1 : Int32))) fun u1 => some (a1, u1)))))
set_option maxHeartbeats 4000000 in
set_option maxRecDepth 100000 in
theorem c_X9_refuse (l : Launch) (ev : EV) (a1 : Int32) (u : SS) {r : Int32} {u' : SS} (hf : f_X9_refuse a1 u = some (r, u')) : MI wdB l yX9_refuse cX9_refuse 2 (some .int) 0 ev [.ref (ev.2.1 0), .int a1] u r u' := by
  refine bodyI (by decide +kernel) rfl (Nat.le_of_ble_eq_true rfl) ?_
  intro p e s m below meth cd ls H locs hc hr hlk hw hl
  generalize hav : (List.toArray [.ref (ev.2.1 0), .int a1] : Array Value) = av at hc ⊢
  obtain ⟨hx, hb, hml, hown, hts, hK, hZ⟩ := id hc
  have hl : lv_has ls 2 [(0, .ref (ev.2.1 0)), (1, .int a1)] := hl
  unfold f_X9_refuse at hf
  refine lv_iload_n hx hb dX9_refuse_0 rfl (lv_at hl 1 rfl) ?_
  refine lv_if_ge (tgt := 25) hx hb dX9_refuse_1 (by decide) (fun z => ?_) (fun z => ?_)
  · have hf := it_pos z hf
    refine lv_iload_n hx hb dX9_refuse_25 rfl (lv_at hl 1 rfl) ?_
    exact retI hc hr hlk hw hf dX9_refuse_26
  · have hf := it_neg z hf
    refine lv_iload_n hx hb dX9_refuse_4 rfl (lv_at hl 1 rfl) ?_
    refine lv_ineg hx hb dX9_refuse_5 ?_
    refine lv_aload_n hx hb dX9_refuse_6 rfl (lv_at hl 0 rfl) ?_
    refine gB0_7 hc hw fl_X9_58 dX9_refuse_7 ?_
    refine nB9 hc hw dX9_refuse_10 ?_
    refine lv_icmp_ge (tgt := 25) hx hb dX9_refuse_11 (by decide) (fun z => ?_) (fun z => ?_)
    · have hf := it_pos z hf
      refine lv_iload_n hx hb dX9_refuse_25 rfl (lv_at hl 1 rfl) ?_
      exact retI hc hr hlk hw hf dX9_refuse_26
    · have hf := it_neg z hf
      refine lv_aload_n hx hb dX9_refuse_14 rfl (lv_at hl 0 rfl) ?_
      refine gB0_7 hc hw fl_X9_58 dX9_refuse_15 ?_
      refine lv_iload_n hx hb dX9_refuse_18 rfl (lv_at hl 1 rfl) ?_
      refine lv_ineg hx hb dX9_refuse_19 ?_
      refine lv_dup2_11 hx hb dX9_refuse_20 rfl rfl ?_
      obtain ⟨z, hf⟩ := oi_some hf
      refine aB9 hc hw z dX9_refuse_21 ?_
      refine lv_iconst (v := (1 : Int32)) hx hb dX9_refuse_22 (by decide) ?_
      refine lv_iadd hx hb dX9_refuse_23 ?_
      obtain ⟨z, hf⟩ := oi_some hf
      refine tB9 hc hw z dX9_refuse_24 (fun H locs hw => ?_)
      obtain ⟨u1, eu1, hf⟩ := lt_some hf
      have hw := VW.nm eu1 hw
      refine lv_iload_n hx hb dX9_refuse_25 rfl (lv_at hl 1 rfl) ?_
      exact retI hc hr hlk hw hf dX9_refuse_26

def f_X9_time (a1 : Int32) (u : SS) : Option (Int32 × SS) :=
  if (1 : Int32) ≤ a1 then (if a1 ≤ ((999999 : Int32) - (gI u 0)) then (lt (sI u 0 ((gI u 0) + a1)) fun u1 => some ((gI u1 0), u1)) else (ob (f_X9_refuse (-6 : Int32) u) fun r4 u3 => some (r4, u3))) else (ob (f_X9_refuse (-4 : Int32) u) fun r7 u6 => some (r7, u6))
set_option maxHeartbeats 4000000 in
set_option maxRecDepth 100000 in
theorem c_X9_time (l : Launch) (ev : EV) (a1 : Int32) (u : SS) {r : Int32} {u' : SS} (hf : f_X9_time a1 u = some (r, u')) : MI wdB l yX9_time cX9_time 2 (some .int) 1 ev [.ref (ev.2.1 0), .int a1] u r u' := by
  refine bodyI (by decide +kernel) rfl (Nat.le_of_ble_eq_true rfl) ?_
  intro p e s m below meth cd ls H locs hc hr hlk hw hl
  generalize hav : (List.toArray [.ref (ev.2.1 0), .int a1] : Array Value) = av at hc ⊢
  obtain ⟨hx, hb, hml, hown, hts, hK, hZ⟩ := id hc
  have hl : lv_has ls 2 [(0, .ref (ev.2.1 0)), (1, .int a1)] := hl
  unfold f_X9_time at hf
  refine lv_iload_n hx hb dX9_time_0 rfl (lv_at hl 1 rfl) ?_
  refine lv_iconst (v := (1 : Int32)) hx hb dX9_time_1 (by decide) ?_
  refine lv_icmp_ge (tgt := 12) hx hb dX9_time_2 (by decide) (fun z => ?_) (fun z => ?_)
  · have hf := it_pos z hf
    refine lv_iload_n hx hb dX9_time_12 rfl (lv_at hl 1 rfl) ?_
    refine lv_ldc (v := (999999 : Int32)) hx hb hown (hts _ ct_X9_66) dX9_time_13 ?_
    refine lv_aload_n hx hb dX9_time_15 rfl (lv_at hl 0 rfl) ?_
    refine gB0_0 hc hw fl_X9_12 dX9_time_16 ?_
    refine gB1_9 hc hw fl_X9_67 dX9_time_19 ?_
    refine lv_isub hx hb dX9_time_22 ?_
    refine lv_icmp_le (tgt := 33) hx hb dX9_time_23 (by decide) (fun z => ?_) (fun z => ?_)
    · have hf := it_pos z hf
      refine lv_aload_n hx hb dX9_time_33 rfl (lv_at hl 0 rfl) ?_
      refine gB0_0 hc hw fl_X9_12 dX9_time_34 ?_
      refine lv_dup hx hb dX9_time_37 rfl ?_
      refine gB1_9 hc hw fl_X9_67 dX9_time_38 ?_
      refine lv_iload_n hx hb dX9_time_41 rfl (lv_at hl 1 rfl) ?_
      refine lv_iadd hx hb dX9_time_42 ?_
      refine pB1_9 hc hw fl_X9_67 dX9_time_43 (fun H locs hw => ?_)
      obtain ⟨u1, eu1, hf⟩ := lt_some hf
      have hw := VW.nm eu1 hw
      refine lv_aload_n hx hb dX9_time_46 rfl (lv_at hl 0 rfl) ?_
      refine gB0_0 hc hw fl_X9_12 dX9_time_47 ?_
      refine gB1_9 hc hw fl_X9_67 dX9_time_50 ?_
      exact retI hc hr hlk hw hf dX9_time_53
    · have hf := it_neg z hf
      refine lv_aload_n hx hb dX9_time_26 rfl (lv_at hl 0 rfl) ?_
      refine lv_bipush (v := (-6 : Int32)) hx hb dX9_time_27 (by decide) ?_
      obtain ⟨r4, u3, h2, hf⟩ := ob_some hf
      refine endI okB hw (runV_ok (As := [.int (-6 : Int32)]) (rest := []) okB hc hw (c_X9_refuse l ev (-6 : Int32) u h2 H.size) kv_X9_refuse ml_X9_62 (rvB0 ev u) hl.1 rfl rfl (Nat.le_of_ble_eq_true rfl) (rm_le (by decide) (by decide)) dX9_time_29) (fun H locs hw => ?_)
      exact retI hc hr hlk hw hf dX9_time_32
  · have hf := it_neg z hf
    refine lv_aload_n hx hb dX9_time_5 rfl (lv_at hl 0 rfl) ?_
    refine lv_bipush (v := (-4 : Int32)) hx hb dX9_time_6 (by decide) ?_
    obtain ⟨r7, u6, h5, hf⟩ := ob_some hf
    refine endI okB hw (runV_ok (As := [.int (-4 : Int32)]) (rest := []) okB hc hw (c_X9_refuse l ev (-4 : Int32) u h5 H.size) kv_X9_refuse ml_X9_62 (rvB0 ev u) hl.1 rfl rfl (Nat.le_of_ble_eq_true rfl) (rm_le (by decide) (by decide)) dX9_time_8) (fun H locs hw => ?_)
    exact retI hc hr hlk hw hf dX9_time_11

def f_X1_isOpen (u : SS) : Option (Int32 × SS) :=
  if (gI u 1) = (-1 : Int32) then (some ((1 : Int32), u)) else (if (gI u 1) < (gI u 0) then (some ((0 : Int32), u)) else (some ((1 : Int32), u)))
set_option maxHeartbeats 4000000 in
set_option maxRecDepth 100000 in
theorem c_X1_isOpen (l : Launch) (ev : EV) (u : SS) {r : Int32} {u' : SS} (hf : f_X1_isOpen  u = some (r, u')) : MI wdB l yX1_isOpen cX1_isOpen 1 (some .boolean) 0 ev [.ref (ev.2.1 1)] u r u' := by
  refine bodyI (by decide +kernel) rfl (Nat.le_of_ble_eq_true rfl) ?_
  intro p e s m below meth cd ls H locs hc hr hlk hw hl
  generalize hav : (List.toArray [.ref (ev.2.1 1)] : Array Value) = av at hc ⊢
  obtain ⟨hx, hb, hml, hown, hts, hK, hZ⟩ := id hc
  have hl : lv_has ls 1 [(0, .ref (ev.2.1 1))] := hl
  unfold f_X1_isOpen at hf
  refine lv_aload_n hx hb dX1_isOpen_0 rfl (lv_at hl 0 rfl) ?_
  refine gB1_10 hc hw fl_X1_40 dX1_isOpen_1 ?_
  refine lv_iconst (v := (-1 : Int32)) hx hb dX1_isOpen_4 (by decide) ?_
  refine lv_icmp_eq (tgt := 19) hx hb dX1_isOpen_5 (by decide) (fun z => ?_) (fun z => ?_)
  · have hf := it_pos z hf
    refine lv_iconst (v := (1 : Int32)) hx hb dX1_isOpen_19 (by decide) ?_
    refine lv_goto (tgt := 24) hx hb dX1_isOpen_20 (by decide) ?_
    exact retZ hc hr hlk hw nz1 hf dX1_isOpen_24
  · have hf := it_neg z hf
    refine lv_aload_n hx hb dX1_isOpen_8 rfl (lv_at hl 0 rfl) ?_
    refine gB1_9 hc hw fl_X1_47 dX1_isOpen_9 ?_
    refine lv_aload_n hx hb dX1_isOpen_12 rfl (lv_at hl 0 rfl) ?_
    refine gB1_10 hc hw fl_X1_40 dX1_isOpen_13 ?_
    refine lv_icmp_gt (tgt := 23) hx hb dX1_isOpen_16 (by decide) (fun z => ?_) (fun z => ?_)
    · have hf := it_pos z hf
      refine lv_iconst (v := (0 : Int32)) hx hb dX1_isOpen_23 (by decide) ?_
      exact retZ hc hr hlk hw nz0 hf dX1_isOpen_24
    · have hf := it_neg z hf
      refine lv_iconst (v := (1 : Int32)) hx hb dX1_isOpen_19 (by decide) ?_
      refine lv_goto (tgt := 24) hx hb dX1_isOpen_20 (by decide) ?_
      exact retZ hc hr hlk hw nz1 hf dX1_isOpen_24

def f_X9_inRange (a0 : Int32) (a1 : Int32) (a2 : Int32) (u : SS) : Option (Int32 × SS) :=
  if a1 ≤ a0 then (if a0 ≤ a2 then (some ((0 : Int32), u)) else (some ((-6 : Int32), u))) else (some ((-4 : Int32), u))
set_option maxHeartbeats 4000000 in
set_option maxRecDepth 100000 in
theorem c_X9_inRange (l : Launch) (ev : EV) (a0 : Int32) (a1 : Int32) (a2 : Int32) (u : SS) {r : Int32} {u' : SS} (hf : f_X9_inRange a0 a1 a2 u = some (r, u')) : MI wdB l yX9_inRange cX9_inRange 3 (some .int) 0 ev [.int a0, .int a1, .int a2] u r u' := by
  refine bodyI (by decide +kernel) rfl (Nat.le_of_ble_eq_true rfl) ?_
  intro p e s m below meth cd ls H locs hc hr hlk hw hl
  generalize hav : (List.toArray [.int a0, .int a1, .int a2] : Array Value) = av at hc ⊢
  obtain ⟨hx, hb, hml, hown, hts, hK, hZ⟩ := id hc
  have hl : lv_has ls 3 [(0, .int a0), (1, .int a1), (2, .int a2)] := hl
  unfold f_X9_inRange at hf
  refine lv_iload_n hx hb dX9_inRange_0 rfl (lv_at hl 0 rfl) ?_
  refine lv_iload_n hx hb dX9_inRange_1 rfl (lv_at hl 1 rfl) ?_
  refine lv_icmp_ge (tgt := 8) hx hb dX9_inRange_2 (by decide) (fun z => ?_) (fun z => ?_)
  · have hf := it_pos z hf
    refine lv_iload_n hx hb dX9_inRange_8 rfl (lv_at hl 0 rfl) ?_
    refine lv_iload_n hx hb dX9_inRange_9 rfl (lv_at hl 2 rfl) ?_
    refine lv_icmp_le (tgt := 18) hx hb dX9_inRange_10 (by decide) (fun z => ?_) (fun z => ?_)
    · have hf := it_pos z hf
      refine lv_iconst (v := (0 : Int32)) hx hb dX9_inRange_18 (by decide) ?_
      exact retI hc hr hlk hw hf dX9_inRange_19
    · have hf := it_neg z hf
      refine lv_bipush (v := (-6 : Int32)) hx hb dX9_inRange_13 (by decide) ?_
      refine lv_goto (tgt := 19) hx hb dX9_inRange_15 (by decide) ?_
      exact retI hc hr hlk hw hf dX9_inRange_19
  · have hf := it_neg z hf
    refine lv_bipush (v := (-4 : Int32)) hx hb dX9_inRange_5 (by decide) ?_
    exact retI hc hr hlk hw hf dX9_inRange_7

def f_X9_rate_L10 (u : SS) : Option (Int32 × SS) :=
  ob (f_X9_refuse (-1 : Int32) u) fun r3 u2 => some (r3, u2)
def f_X9_rate (a1 : Int32) (a2 : Int32) (u : SS) : Option (Int32 × SS) :=
  if a1 < (1 : Int32) then (f_X9_rate_L10 u) else (if a1 < (4 : Int32) then (ob (f_X1_isOpen u) fun r6 u5 => if r6 = 0 then (ob (f_X9_refuse (-3 : Int32) u5) fun r17 u16 => some (r17, u16)) else (ob (f_X9_inRange a2 (1 : Int32) (100000 : Int32) u5) fun r9 u8 => if r9 = 0 then (oi a1 4 (lt (gA u8 2 a1.toNatClampNeg) fun x10 => oi a1 4 (lt (tA u8 2 a1 a2) fun u11 => some (x10, u11)))) else (ob (f_X9_refuse r9 u8) fun r14 u13 => some (r14, u13)))) else (f_X9_rate_L10 u))
set_option maxHeartbeats 4000000 in
set_option maxRecDepth 100000 in
theorem c_X9_rate (l : Launch) (ev : EV) (a1 : Int32) (a2 : Int32) (u : SS) {r : Int32} {u' : SS} (hf : f_X9_rate a1 a2 u = some (r, u')) : MI wdB l yX9_rate cX9_rate 5 (some .int) 1 ev [.ref (ev.2.1 0), .int a1, .int a2] u r u' := by
  refine bodyI (by decide +kernel) rfl (Nat.le_of_ble_eq_true rfl) ?_
  intro p e s m below meth cd ls H locs hc hr hlk hw hl
  generalize hav : (List.toArray [.ref (ev.2.1 0), .int a1, .int a2] : Array Value) = av at hc ⊢
  obtain ⟨hx, hb, hml, hown, hts, hK, hZ⟩ := id hc
  have hl : lv_has ls 5 [(0, .ref (ev.2.1 0)), (1, .int a1), (2, .int a2)] := hl
  have wL10 : ∀ (u : SS) (H : Heap) (locs : List Loc) (ls : Array Slot), VW wdB ev s u H locs → lv_has ls 5 [(0, .ref (ev.2.1 0))] → f_X9_rate_L10  u = some (r, u') → W p l e (rmk 1) s m av below meth cd H locs 0 0 (ZI wdB ev s below av r u') (F0 m 10 ls []) := by
    intro  u H locs ls hw hl hf
    unfold f_X9_rate_L10 at hf
    refine lv_aload_n hx hb dX9_rate_10 rfl (lv_at hl 0 rfl) ?_
    refine lv_iconst (v := (-1 : Int32)) hx hb dX9_rate_11 (by decide) ?_
    obtain ⟨r3, u2, h1, hf⟩ := ob_some hf
    refine endI okB hw (runV_ok (As := [.int (-1 : Int32)]) (rest := []) okB hc hw (c_X9_refuse l ev (-1 : Int32) u h1 H.size) kv_X9_refuse ml_X9_62 (rvB0 ev u) hl.1 rfl rfl (Nat.le_of_ble_eq_true rfl) (rm_le (by decide) (by decide)) dX9_rate_12) (fun H locs hw => ?_)
    exact retI hc hr hlk hw hf dX9_rate_15
  unfold f_X9_rate at hf
  refine lv_iload_n hx hb dX9_rate_0 rfl (lv_at hl 1 rfl) ?_
  refine lv_iconst (v := (1 : Int32)) hx hb dX9_rate_1 (by decide) ?_
  refine lv_icmp_lt (tgt := 10) hx hb dX9_rate_2 (by decide) (fun z => ?_) (fun z => ?_)
  · have hf := it_pos z hf
    exact wL10 u H locs ls hw (lv_sub hl [0] rfl) hf
  · have hf := it_neg z hf
    refine lv_iload_n hx hb dX9_rate_5 rfl (lv_at hl 1 rfl) ?_
    refine lv_iconst (v := (4 : Int32)) hx hb dX9_rate_6 (by decide) ?_
    refine lv_icmp_lt (tgt := 16) hx hb dX9_rate_7 (by decide) (fun z => ?_) (fun z => ?_)
    · have hf := it_pos z hf
      refine lv_aload_n hx hb dX9_rate_16 rfl (lv_at hl 0 rfl) ?_
      refine gB0_0 hc hw fl_X9_12 dX9_rate_17 ?_
      obtain ⟨r6, u5, h4, hf⟩ := ob_some hf
      refine endI okB hw (runV_ok (As := []) (rest := []) okB hc hw (c_X1_isOpen l ev u h4 H.size) kv_X1_isOpen ml_X9_71 (rvB1 ev u) hl.1 rfl rfl (Nat.le_of_ble_eq_true rfl) (rm_le (by decide) (by decide)) dX9_rate_20) (fun H locs hw => ?_)
      refine lv_if_ne (tgt := 33) hx hb dX9_rate_23 (by decide) (fun z => ?_) (fun z => ?_)
      · have hf := it_neg z hf
        refine lv_iload_n hx hb dX9_rate_33 rfl (lv_at hl 2 rfl) ?_
        refine lv_iconst (v := (1 : Int32)) hx hb dX9_rate_34 (by decide) ?_
        refine lv_ldc (v := (100000 : Int32)) hx hb hown (hts _ ct_X9_75) dX9_rate_35 ?_
        obtain ⟨r9, u8, h7, hf⟩ := ob_some hf
        refine endI okB hw (runS_ok (As := [.int a2, .int (1 : Int32), .int (100000 : Int32)]) (rest := []) okB hc hw (c_X9_inRange l ev a2 (1 : Int32) (100000 : Int32) u5 h7 H.size) ks_X9_inRange ml_X9_76 hl.1 rfl rfl (Nat.le_of_ble_eq_true rfl) (rm_le (by decide) (by decide)) dX9_rate_37) (fun H locs hw => ?_)
        refine lv_istore_n (lv' := [(3, .int r9), (0, .ref (ev.2.1 0)), (1, .int a1), (2, .int a2)]) hx hb dX9_rate_40 rfl hl (by decide) rfl (fun ls hl => ?_)
        refine lv_iload_n hx hb dX9_rate_41 rfl (lv_at hl 0 rfl) ?_
        refine lv_if_eq (tgt := 51) hx hb dX9_rate_42 (by decide) (fun z => ?_) (fun z => ?_)
        · have hf := it_pos z hf
          refine lv_aload_n hx hb dX9_rate_51 rfl (lv_at hl 1 rfl) ?_
          refine gB0_0 hc hw fl_X9_12 dX9_rate_52 ?_
          refine gB1_1 hc hw fl_X9_80 dX9_rate_55 ?_
          refine lv_iload_n hx hb dX9_rate_58 rfl (lv_at hl 2 rfl) ?_
          obtain ⟨z, hf⟩ := oi_some hf
          refine aB11 hc hw z dX9_rate_59 ?_
          obtain ⟨x10, ex10, hf⟩ := lt_some hf
          refine tope ex10 ?_
          refine lv_istore (lv' := [(4, .int x10), (3, .int r9), (0, .ref (ev.2.1 0)), (1, .int a1), (2, .int a2)]) hx hb dX9_rate_60 hl (by decide) rfl (fun ls hl => ?_)
          refine lv_aload_n hx hb dX9_rate_62 rfl (lv_at hl 2 rfl) ?_
          refine gB0_0 hc hw fl_X9_12 dX9_rate_63 ?_
          refine gB1_1 hc hw fl_X9_80 dX9_rate_66 ?_
          refine lv_iload_n hx hb dX9_rate_69 rfl (lv_at hl 3 rfl) ?_
          refine lv_iload_n hx hb dX9_rate_70 rfl (lv_at hl 4 rfl) ?_
          obtain ⟨z, hf⟩ := oi_some hf
          refine tB11 hc hw z dX9_rate_71 (fun H locs hw => ?_)
          obtain ⟨u11, eu11, hf⟩ := lt_some hf
          have hw := VW.nm eu11 hw
          refine lv_iload hx hb dX9_rate_72 (lv_at hl 0 rfl) ?_
          exact retI hc hr hlk hw hf dX9_rate_74
        · have hf := it_neg z hf
          refine lv_aload_n hx hb dX9_rate_45 rfl (lv_at hl 1 rfl) ?_
          refine lv_iload_n hx hb dX9_rate_46 rfl (lv_at hl 0 rfl) ?_
          obtain ⟨r14, u13, h12, hf⟩ := ob_some hf
          refine endI okB hw (runV_ok (As := [.int r9]) (rest := []) okB hc hw (c_X9_refuse l ev r9 u8 h12 H.size) kv_X9_refuse ml_X9_62 (rvB0 ev u8) hl.1 rfl rfl (Nat.le_of_ble_eq_true rfl) (rm_le (by decide) (by decide)) dX9_rate_47) (fun H locs hw => ?_)
          exact retI hc hr hlk hw hf dX9_rate_50
      · have hf := it_pos z hf
        refine lv_aload_n hx hb dX9_rate_26 rfl (lv_at hl 0 rfl) ?_
        refine lv_bipush (v := (-3 : Int32)) hx hb dX9_rate_27 (by decide) ?_
        obtain ⟨r17, u16, h15, hf⟩ := ob_some hf
        refine endI okB hw (runV_ok (As := [.int (-3 : Int32)]) (rest := []) okB hc hw (c_X9_refuse l ev (-3 : Int32) u5 h15 H.size) kv_X9_refuse ml_X9_62 (rvB0 ev u5) hl.1 rfl rfl (Nat.le_of_ble_eq_true rfl) (rm_le (by decide) (by decide)) dX9_rate_29) (fun H locs hw => ?_)
        exact retI hc hr hlk hw hf dX9_rate_32
    · have hf := it_neg z hf
      exact wL10 u H locs ls hw (lv_sub hl [0] rfl) hf

def f_X1_drop (a1 : Int32) (u : SS) : Option SS :=
  oi a1 48 (lt (tZ u 3 a1 (0 : Int32)) fun u1 => oi a1 48 (lt (tA u1 5 a1 (0 : Int32)) fun u2 => some u2))
set_option maxHeartbeats 4000000 in
set_option maxRecDepth 100000 in
theorem c_X1_drop (l : Launch) (ev : EV) (a1 : Int32) (u : SS) {u' : SS} (hf : f_X1_drop a1 u = some u') : MV wdB l yX1_drop cX1_drop 2 none 0 ev [.ref (ev.2.1 1), .int a1] u u' := by
  refine bodyV (by decide +kernel) rfl (Nat.le_of_ble_eq_true rfl) ?_
  intro p e s m below meth cd ls H locs hc hr hlk hw hl
  generalize hav : (List.toArray [.ref (ev.2.1 1), .int a1] : Array Value) = av at hc ⊢
  obtain ⟨hx, hb, hml, hown, hts, hK, hZ⟩ := id hc
  have hl : lv_has ls 2 [(0, .ref (ev.2.1 1)), (1, .int a1)] := hl
  unfold f_X1_drop at hf
  refine lv_aload_n hx hb dX1_drop_0 rfl (lv_at hl 0 rfl) ?_
  refine gB1_2 hc hw fl_X1_18 dX1_drop_1 ?_
  refine lv_iload_n hx hb dX1_drop_4 rfl (lv_at hl 1 rfl) ?_
  refine lv_iconst (v := (0 : Int32)) hx hb dX1_drop_5 (by decide) ?_
  obtain ⟨z, hf⟩ := oi_some hf
  refine tB12 hc hw z dX1_drop_6 (fun H locs hw => ?_)
  obtain ⟨u1, eu1, hf⟩ := lt_some hf
  have hw := VW.nm eu1 hw
  refine lv_aload_n hx hb dX1_drop_7 rfl (lv_at hl 0 rfl) ?_
  refine gB1_4 hc hw fl_X1_25 dX1_drop_8 ?_
  refine lv_iload_n hx hb dX1_drop_11 rfl (lv_at hl 1 rfl) ?_
  refine lv_iconst (v := (0 : Int32)) hx hb dX1_drop_12 (by decide) ?_
  obtain ⟨z, hf⟩ := oi_some hf
  refine tB14 hc hw z dX1_drop_13 (fun H locs hw => ?_)
  obtain ⟨u2, eu2, hf⟩ := lt_some hf
  have hw := VW.nm eu2 hw
  exact retV hc hr hlk hw hf dX1_drop_14

def f_X1_keepLots_L21 (k2 : Int32 → Int32 → SS → Option SS) (b1 : Int32) (b2 : Int32) (u : SS) : Option SS :=
  lt (b2 + (1 : Int32)) fun x2 => k2 b1 x2 u
def b_X1_keepLots_L2 (k2 : Int32 → Int32 → SS → Option SS) (b1 : Int32) (b2 : Int32) (u : SS) : Option SS :=
  if (48 : Int32) ≤ b2 then (lt (sI u 2 b1) fun u1 => some u1) else (if (b2 - b2 / (6 : Int32) * (6 : Int32)) < b1 then (f_X1_keepLots_L21 k2 b1 b2 u) else (ov (f_X1_drop b2 u) fun u4 => f_X1_keepLots_L21 k2 b1 b2 u4))
def f_X1_keepLots_L2 : Nat → Int32 → Int32 → SS → Option SS
  | 0 => fun _ _ _ => none
  | n + 1 => b_X1_keepLots_L2 (f_X1_keepLots_L2 n)
def f_X1_keepLots (a1 : Int32) (u : SS) : Option SS :=
  f_X1_keepLots_L2 FU a1 (0 : Int32) u
set_option maxHeartbeats 4000000 in
set_option maxRecDepth 100000 in
theorem c_X1_keepLots (l : Launch) (ev : EV) (a1 : Int32) (u : SS) {u' : SS} (hf : f_X1_keepLots a1 u = some u') : MV wdB l yX1_keepLots cX1_keepLots 3 none 1 ev [.ref (ev.2.1 1), .int a1] u u' := by
  refine bodyV (by decide +kernel) rfl (Nat.le_of_ble_eq_true rfl) ?_
  intro p e s m below meth cd ls H locs hc hr hlk hw hl
  generalize hav : (List.toArray [.ref (ev.2.1 1), .int a1] : Array Value) = av at hc ⊢
  obtain ⟨hx, hb, hml, hown, hts, hK, hZ⟩ := id hc
  have hl : lv_has ls 3 [(0, .ref (ev.2.1 1)), (1, .int a1)] := hl
  have wL21 : ∀ (k2 : Int32 → Int32 → SS → Option SS) (hk2 : ∀ (b1 : Int32) (b2 : Int32) (u : SS) (H : Heap) (locs : List Loc) (ls : Array Slot), VW wdB ev s u H locs → lv_has ls 3 [(0, .ref (ev.2.1 1)), (1, .int b1), (2, .int b2)] → k2 b1 b2 u = some u' → W p l e (rmk 1) s m av below meth cd H locs 0 0 (ZV wdB ev s below av u') (F0 m 2 ls [])) (b1 : Int32) (b2 : Int32) (u : SS) (H : Heap) (locs : List Loc) (ls : Array Slot), VW wdB ev s u H locs → lv_has ls 3 [(0, .ref (ev.2.1 1)), (1, .int b1), (2, .int b2)] → f_X1_keepLots_L21 k2 b1 b2 u = some u' → W p l e (rmk 1) s m av below meth cd H locs 0 0 (ZV wdB ev s below av u') (F0 m 21 ls []) := by
    intro k2 hk2 b1 b2 u H locs ls hw hl hf
    unfold f_X1_keepLots_L21 at hf
    obtain ⟨x2, ex2, hf⟩ := lt_some hf
    refine lv_iinc (v := x2) (lv' := [(2, .int x2), (0, .ref (ev.2.1 1)), (1, .int b1)]) hx hb dX1_keepLots_21 hl (k := 2) rfl (by rw [ex2]; rfl) (by decide) rfl (fun ls hl => ?_)
    refine lv_goto (tgt := 2) hx hb dX1_keepLots_24 (by decide) ?_
    exact hk2 b1 x2 u H locs ls hw (lv_sub hl [1, 2, 0] rfl) hf
  have wL2 : ∀ (n : Nat) (b1 : Int32) (b2 : Int32) (u : SS) (H : Heap) (locs : List Loc) (ls : Array Slot), VW wdB ev s u H locs → lv_has ls 3 [(0, .ref (ev.2.1 1)), (1, .int b1), (2, .int b2)] → f_X1_keepLots_L2 n b1 b2 u = some u' → W p l e (rmk 1) s m av below meth cd H locs 0 0 (ZV wdB ev s below av u') (F0 m 2 ls []) := by
    intro n
    induction n with
    | zero =>
      intro b1 b2 u H locs ls hw hl hf
      cases hf
    | succ n hk2 =>
      intro b1 b2 u H locs ls hw hl hf
      have hf : b_X1_keepLots_L2 (f_X1_keepLots_L2 n) b1 b2 u = some u' := hf
      unfold b_X1_keepLots_L2 at hf
      refine lv_iload_n hx hb dX1_keepLots_2 rfl (lv_at hl 2 rfl) ?_
      refine lv_bipush (v := (48 : Int32)) hx hb dX1_keepLots_3 (by decide) ?_
      refine lv_icmp_ge (tgt := 27) hx hb dX1_keepLots_5 (by decide) (fun z => ?_) (fun z => ?_)
      · have hf := it_pos z hf
        refine lv_aload_n hx hb dX1_keepLots_27 rfl (lv_at hl 0 rfl) ?_
        refine lv_iload_n hx hb dX1_keepLots_28 rfl (lv_at hl 1 rfl) ?_
        refine pB1_11 hc hw fl_X1_44 dX1_keepLots_29 (fun H locs hw => ?_)
        obtain ⟨u1, eu1, hf⟩ := lt_some hf
        have hw := VW.nm eu1 hw
        exact retV hc hr hlk hw hf dX1_keepLots_32
      · have hf := it_neg z hf
        refine lv_iload_n hx hb dX1_keepLots_8 rfl (lv_at hl 2 rfl) ?_
        refine lv_bipush (v := (6 : Int32)) hx hb dX1_keepLots_9 (by decide) ?_
        refine lv_irem hx hb dX1_keepLots_11 (by decide) ?_
        refine lv_iload_n hx hb dX1_keepLots_12 rfl (lv_at hl 1 rfl) ?_
        refine lv_icmp_lt (tgt := 21) hx hb dX1_keepLots_13 (by decide) (fun z => ?_) (fun z => ?_)
        · have hf := it_pos z hf
          exact wL21 (f_X1_keepLots_L2 n) hk2 b1 b2 u H locs ls hw (lv_sub hl [0, 1, 2] rfl) hf
        · have hf := it_neg z hf
          refine lv_aload_n hx hb dX1_keepLots_16 rfl (lv_at hl 0 rfl) ?_
          refine lv_iload_n hx hb dX1_keepLots_17 rfl (lv_at hl 2 rfl) ?_
          obtain ⟨u4, h3, hf⟩ := ov_some hf
          refine endV okB hw (runV_ok (As := [.int b2]) (rest := []) okB hc hw (c_X1_drop l ev b2 u h3 H.size) kv_X1_drop ml_X1_50 (rvB1 ev u) hl.1 rfl rfl (Nat.le_of_ble_eq_true rfl) (rm_le (by decide) (by decide)) dX1_keepLots_18) (fun H locs hw => ?_)
          exact wL21 (f_X1_keepLots_L2 n) hk2 b1 b2 u4 H locs ls hw (lv_sub hl [0, 1, 2] rfl) hf
  unfold f_X1_keepLots at hf
  refine lv_iconst (v := (0 : Int32)) hx hb dX1_keepLots_0 (by decide) ?_
  refine lv_istore_n (lv' := [(2, .int (0 : Int32)), (0, .ref (ev.2.1 1)), (1, .int a1)]) hx hb dX1_keepLots_1 rfl hl (by decide) rfl (fun ls hl => ?_)
  exact wL2 FU a1 (0 : Int32) u H locs ls hw (lv_sub hl [1, 2, 0] rfl) hf

def f_X9_lots (a1 : Int32) (u : SS) : Option (Int32 × SS) :=
  ob (f_X1_isOpen u) fun r3 u2 => if r3 = 0 then (ob (f_X9_refuse (-3 : Int32) u2) fun r15 u14 => some (r15, u14)) else (ob (f_X9_inRange a1 (1 : Int32) (6 : Int32) u2) fun r6 u5 => if r6 = 0 then (lt (gI u5 2) fun x7 => ov (f_X1_keepLots a1 u5) fun u9 => some (x7, u9)) else (ob (f_X9_refuse r6 u5) fun r12 u11 => some (r12, u11)))
set_option maxHeartbeats 4000000 in
set_option maxRecDepth 100000 in
theorem c_X9_lots (l : Launch) (ev : EV) (a1 : Int32) (u : SS) {r : Int32} {u' : SS} (hf : f_X9_lots a1 u = some (r, u')) : MI wdB l yX9_lots cX9_lots 4 (some .int) 2 ev [.ref (ev.2.1 0), .int a1] u r u' := by
  refine bodyI (by decide +kernel) rfl (Nat.le_of_ble_eq_true rfl) ?_
  intro p e s m below meth cd ls H locs hc hr hlk hw hl
  generalize hav : (List.toArray [.ref (ev.2.1 0), .int a1] : Array Value) = av at hc ⊢
  obtain ⟨hx, hb, hml, hown, hts, hK, hZ⟩ := id hc
  have hl : lv_has ls 4 [(0, .ref (ev.2.1 0)), (1, .int a1)] := hl
  unfold f_X9_lots at hf
  refine lv_aload_n hx hb dX9_lots_0 rfl (lv_at hl 0 rfl) ?_
  refine gB0_0 hc hw fl_X9_12 dX9_lots_1 ?_
  obtain ⟨r3, u2, h1, hf⟩ := ob_some hf
  refine endI okB hw (runV_ok (As := []) (rest := []) okB hc hw (c_X1_isOpen l ev u h1 H.size) kv_X1_isOpen ml_X9_71 (rvB1 ev u) hl.1 rfl rfl (Nat.le_of_ble_eq_true rfl) (rm_le (by decide) (by decide)) dX9_lots_4) (fun H locs hw => ?_)
  refine lv_if_ne (tgt := 17) hx hb dX9_lots_7 (by decide) (fun z => ?_) (fun z => ?_)
  · have hf := it_neg z hf
    refine lv_iload_n hx hb dX9_lots_17 rfl (lv_at hl 1 rfl) ?_
    refine lv_iconst (v := (1 : Int32)) hx hb dX9_lots_18 (by decide) ?_
    refine lv_bipush (v := (6 : Int32)) hx hb dX9_lots_19 (by decide) ?_
    obtain ⟨r6, u5, h4, hf⟩ := ob_some hf
    refine endI okB hw (runS_ok (As := [.int a1, .int (1 : Int32), .int (6 : Int32)]) (rest := []) okB hc hw (c_X9_inRange l ev a1 (1 : Int32) (6 : Int32) u2 h4 H.size) ks_X9_inRange ml_X9_76 hl.1 rfl rfl (Nat.le_of_ble_eq_true rfl) (rm_le (by decide) (by decide)) dX9_lots_21) (fun H locs hw => ?_)
    refine lv_istore_n (lv' := [(2, .int r6), (0, .ref (ev.2.1 0)), (1, .int a1)]) hx hb dX9_lots_24 rfl hl (by decide) rfl (fun ls hl => ?_)
    refine lv_iload_n hx hb dX9_lots_25 rfl (lv_at hl 0 rfl) ?_
    refine lv_if_eq (tgt := 35) hx hb dX9_lots_26 (by decide) (fun z => ?_) (fun z => ?_)
    · have hf := it_pos z hf
      refine lv_aload_n hx hb dX9_lots_35 rfl (lv_at hl 1 rfl) ?_
      refine gB0_0 hc hw fl_X9_12 dX9_lots_36 ?_
      refine gB1_11 hc hw fl_X9_83 dX9_lots_39 ?_
      obtain ⟨x7, ex7, hf⟩ := lt_some hf
      refine tope ex7 ?_
      refine lv_istore_n (lv' := [(3, .int x7), (2, .int r6), (0, .ref (ev.2.1 0)), (1, .int a1)]) hx hb dX9_lots_42 rfl hl (by decide) rfl (fun ls hl => ?_)
      refine lv_aload_n hx hb dX9_lots_43 rfl (lv_at hl 2 rfl) ?_
      refine gB0_0 hc hw fl_X9_12 dX9_lots_44 ?_
      refine lv_iload_n hx hb dX9_lots_47 rfl (lv_at hl 3 rfl) ?_
      obtain ⟨u9, h8, hf⟩ := ov_some hf
      refine endV okB hw (runV_ok (As := [.int a1]) (rest := []) okB hc hw (c_X1_keepLots l ev a1 u5 h8 H.size) kv_X1_keepLots ml_X9_86 (rvB1 ev u5) hl.1 rfl rfl (Nat.le_of_ble_eq_true rfl) (rm_le (by decide) (by decide)) dX9_lots_48) (fun H locs hw => ?_)
      refine lv_iload_n hx hb dX9_lots_51 rfl (lv_at hl 0 rfl) ?_
      exact retI hc hr hlk hw hf dX9_lots_52
    · have hf := it_neg z hf
      refine lv_aload_n hx hb dX9_lots_29 rfl (lv_at hl 1 rfl) ?_
      refine lv_iload_n hx hb dX9_lots_30 rfl (lv_at hl 0 rfl) ?_
      obtain ⟨r12, u11, h10, hf⟩ := ob_some hf
      refine endI okB hw (runV_ok (As := [.int r6]) (rest := []) okB hc hw (c_X9_refuse l ev r6 u5 h10 H.size) kv_X9_refuse ml_X9_62 (rvB0 ev u5) hl.1 rfl rfl (Nat.le_of_ble_eq_true rfl) (rm_le (by decide) (by decide)) dX9_lots_31) (fun H locs hw => ?_)
      exact retI hc hr hlk hw hf dX9_lots_34
  · have hf := it_pos z hf
    refine lv_aload_n hx hb dX9_lots_10 rfl (lv_at hl 0 rfl) ?_
    refine lv_bipush (v := (-3 : Int32)) hx hb dX9_lots_11 (by decide) ?_
    obtain ⟨r15, u14, h13, hf⟩ := ob_some hf
    refine endI okB hw (runV_ok (As := [.int (-3 : Int32)]) (rest := []) okB hc hw (c_X9_refuse l ev (-3 : Int32) u2 h13 H.size) kv_X9_refuse ml_X9_62 (rvB0 ev u2) hl.1 rfl rfl (Nat.le_of_ble_eq_true rfl) (rm_le (by decide) (by decide)) dX9_lots_13) (fun H locs hw => ?_)
    exact retI hc hr hlk hw hf dX9_lots_16
