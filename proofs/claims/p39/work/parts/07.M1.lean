def f_X10_in (a0 : Int32) (a1 : Int32) (a2 : Int32) (u : SS) : Option (Int32 × SS) :=
  if a0 < a1 then (some ((0 : Int32), u)) else (if a2 < a0 then (some ((0 : Int32), u)) else (some ((1 : Int32), u)))
set_option maxHeartbeats 4000000 in
set_option maxRecDepth 100000 in
theorem c_X10_in (l : Launch) (ev : EV) (a0 : Int32) (a1 : Int32) (a2 : Int32) (u : SS) {r : Int32} {u' : SS} (hf : f_X10_in a0 a1 a2 u = some (r, u')) : MI wdM l yX10_in cX10_in 3 (some .boolean) 0 ev [.int a0, .int a1, .int a2] u r u' := by
  refine bodyI (by decide +kernel) rfl (Nat.le_of_ble_eq_true rfl) ?_
  intro p e s m below meth cd ls H locs hc hr hlk hw hl
  generalize hav : (List.toArray [.int a0, .int a1, .int a2] : Array Value) = av at hc ⊢
  obtain ⟨hx, hb, hml, hown, hts, hK, hZ⟩ := id hc
  have hl : lv_has ls 3 [(0, .int a0), (1, .int a1), (2, .int a2)] := hl
  unfold f_X10_in at hf
  refine lv_iload_n hx hb dX10_in_0 rfl (lv_at hl 0 rfl) ?_
  refine lv_iload_n hx hb dX10_in_1 rfl (lv_at hl 1 rfl) ?_
  refine lv_icmp_lt (tgt := 14) hx hb dX10_in_2 (by decide) (fun z => ?_) (fun z => ?_)
  · have hf := it_pos z hf
    refine lv_iconst (v := (0 : Int32)) hx hb dX10_in_14 (by decide) ?_
    exact retZ hc hr hlk hw nz0 hf dX10_in_15
  · have hf := it_neg z hf
    refine lv_iload_n hx hb dX10_in_5 rfl (lv_at hl 0 rfl) ?_
    refine lv_iload_n hx hb dX10_in_6 rfl (lv_at hl 2 rfl) ?_
    refine lv_icmp_gt (tgt := 14) hx hb dX10_in_7 (by decide) (fun z => ?_) (fun z => ?_)
    · have hf := it_pos z hf
      refine lv_iconst (v := (0 : Int32)) hx hb dX10_in_14 (by decide) ?_
      exact retZ hc hr hlk hw nz0 hf dX10_in_15
    · have hf := it_neg z hf
      refine lv_iconst (v := (1 : Int32)) hx hb dX10_in_10 (by decide) ?_
      refine lv_goto (tgt := 15) hx hb dX10_in_11 (by decide) ?_
      exact retZ hc hr hlk hw nz1 hf dX10_in_15
def f_X10_refuse (a1 : Int32) (u : SS) : Option (Int32 × SS) :=
  oi (-a1) 8 (oi (-a1) 8 (lt (tA u 11 (-a1) ((gA u 11 (-a1).toNatClampNeg) + (1 : Int32))) fun u1 => some (a1, u1)))
set_option maxHeartbeats 4000000 in
set_option maxRecDepth 100000 in
theorem c_X10_refuse (l : Launch) (ev : EV) (a1 : Int32) (u : SS) {r : Int32} {u' : SS} (hf : f_X10_refuse a1 u = some (r, u')) : MI wdM l yX10_refuse cX10_refuse 2 (some .int) 0 ev [.ref (ev.2.1 0), .int a1] u r u' := by
  refine bodyI (by decide +kernel) rfl (Nat.le_of_ble_eq_true rfl) ?_
  intro p e s m below meth cd ls H locs hc hr hlk hw hl
  generalize hav : (List.toArray [.ref (ev.2.1 0), .int a1] : Array Value) = av at hc ⊢
  obtain ⟨hx, hb, hml, hown, hts, hK, hZ⟩ := id hc
  have hl : lv_has ls 2 [(0, .ref (ev.2.1 0)), (1, .int a1)] := hl
  unfold f_X10_refuse at hf
  refine lv_aload_n hx hb dX10_refuse_0 rfl (lv_at hl 0 rfl) ?_
  refine gM0_15 hc hw fl_X10_51 dX10_refuse_1 ?_
  refine lv_iload_n hx hb dX10_refuse_4 rfl (lv_at hl 1 rfl) ?_
  refine lv_ineg hx hb dX10_refuse_5 ?_
  refine lv_dup2_11 hx hb dX10_refuse_6 rfl rfl ?_
  obtain ⟨z, hf⟩ := oi_some hf
  refine aM12 hc hw z dX10_refuse_7 ?_
  refine lv_iconst (v := (1 : Int32)) hx hb dX10_refuse_8 (by decide) ?_
  refine lv_iadd hx hb dX10_refuse_9 ?_
  obtain ⟨z, hf⟩ := oi_some hf
  refine tM12 hc hw z dX10_refuse_10 (fun H locs hw => ?_)
  obtain ⟨u1, eu1, hf⟩ := lt_some hf
  have hw := VW.nm eu1 hw
  refine lv_iload_n hx hb dX10_refuse_11 rfl (lv_at hl 1 rfl) ?_
  exact retI hc hr hlk hw hf dX10_refuse_12
def f_X10_refuseFar (a1 : Int32) (u : SS) : Option (Int64 × SS) :=
  oi (-a1) 8 (oi (-a1) 8 (lt (tA u 11 (-a1) ((gA u 11 (-a1).toNatClampNeg) + (1 : Int32))) fun u1 => some (((4000000000000000000 : Int64) - (a1.toInt64)), u1)))
set_option maxHeartbeats 4000000 in
set_option maxRecDepth 100000 in
theorem c_X10_refuseFar (l : Launch) (ev : EV) (a1 : Int32) (u : SS) {r : Int64} {u' : SS} (hf : f_X10_refuseFar a1 u = some (r, u')) : ML wdM l yX10_refuseFar cX10_refuseFar 2 (some .long) 0 ev [.ref (ev.2.1 0), .int a1] u r u' := by
  refine bodyL (by decide +kernel) rfl (Nat.le_of_ble_eq_true rfl) ?_
  intro p e s m below meth cd ls H locs hc hr hlk hw hl
  generalize hav : (List.toArray [.ref (ev.2.1 0), .int a1] : Array Value) = av at hc ⊢
  obtain ⟨hx, hb, hml, hown, hts, hK, hZ⟩ := id hc
  have hl : lv_has ls 2 [(0, .ref (ev.2.1 0)), (1, .int a1)] := hl
  unfold f_X10_refuseFar at hf
  refine lv_aload_n hx hb dX10_refuseFar_0 rfl (lv_at hl 0 rfl) ?_
  refine gM0_15 hc hw fl_X10_51 dX10_refuseFar_1 ?_
  refine lv_iload_n hx hb dX10_refuseFar_4 rfl (lv_at hl 1 rfl) ?_
  refine lv_ineg hx hb dX10_refuseFar_5 ?_
  refine lv_dup2_11 hx hb dX10_refuseFar_6 rfl rfl ?_
  obtain ⟨z, hf⟩ := oi_some hf
  refine aM12 hc hw z dX10_refuseFar_7 ?_
  refine lv_iconst (v := (1 : Int32)) hx hb dX10_refuseFar_8 (by decide) ?_
  refine lv_iadd hx hb dX10_refuseFar_9 ?_
  obtain ⟨z, hf⟩ := oi_some hf
  refine tM12 hc hw z dX10_refuseFar_10 (fun H locs hw => ?_)
  obtain ⟨u1, eu1, hf⟩ := lt_some hf
  have hw := VW.nm eu1 hw
  refine lv_ldc2 (v := (4000000000000000000 : Int64)) hx hb hown (hts _ ct_X10_142) dX10_refuseFar_11 ?_
  refine lv_iload_n hx hb dX10_refuseFar_14 rfl (lv_at hl 1 rfl) ?_
  refine lv_i2l (v := a1.toInt64) hx hb dX10_refuseFar_15 rfl ?_
  refine lv_lsub hx hb dX10_refuseFar_16 ?_
  exact retL hc hr hlk hw hf dX10_refuseFar_17
def f_X10_isBidder (a0 : Int32) (u : SS) : Option (Int32 × SS) :=
  ob (f_X10_in a0 (0 : Int32) (7 : Int32) u) fun r3 u2 => if ¬ (r3 = 0 ∨ r3 = 1) then none else some (r3, u2)
set_option maxHeartbeats 4000000 in
set_option maxRecDepth 100000 in
theorem c_X10_isBidder (l : Launch) (ev : EV) (a0 : Int32) (u : SS) {r : Int32} {u' : SS} (hf : f_X10_isBidder a0 u = some (r, u')) : MI wdM l yX10_isBidder cX10_isBidder 1 (some .boolean) 1 ev [.int a0] u r u' := by
  refine bodyI (by decide +kernel) rfl (Nat.le_of_ble_eq_true rfl) ?_
  intro p e s m below meth cd ls H locs hc hr hlk hw hl
  generalize hav : (List.toArray [.int a0] : Array Value) = av at hc ⊢
  obtain ⟨hx, hb, hml, hown, hts, hK, hZ⟩ := id hc
  have hl : lv_has ls 1 [(0, .int a0)] := hl
  unfold f_X10_isBidder at hf
  refine lv_iload_n hx hb dX10_isBidder_0 rfl (lv_at hl 0 rfl) ?_
  refine lv_iconst (v := (0 : Int32)) hx hb dX10_isBidder_1 (by decide) ?_
  refine lv_bipush (v := (7 : Int32)) hx hb dX10_isBidder_2 (by decide) ?_
  obtain ⟨r3, u2, h1, hf⟩ := ob_some hf
  refine endI okM hw (runS_ok (As := [.int a0, .int (0 : Int32), .int (7 : Int32)]) (rest := []) okM hc hw (c_X10_in l ev a0 (0 : Int32) (7 : Int32) u h1 H.size) ks_X10_in ml_X10_144 hl.1 rfl rfl (Nat.le_of_ble_eq_true rfl) (rm_le (by decide) (by decide)) dX10_isBidder_4) (fun H locs hw => ?_)
  obtain ⟨z, hf⟩ := it_none hf
  exact retZ hc hr hlk hw (bo_nar z) hf dX10_isBidder_7
def f_X10_isLot (a1 : Int32) (u : SS) : Option (Int32 × SS) :=
  ob (f_X10_in a1 (0 : Int32) ((gI u 2) - (1 : Int32)) u) fun r3 u2 => if ¬ (r3 = 0 ∨ r3 = 1) then none else some (r3, u2)
set_option maxHeartbeats 4000000 in
set_option maxRecDepth 100000 in
theorem c_X10_isLot (l : Launch) (ev : EV) (a1 : Int32) (u : SS) {r : Int32} {u' : SS} (hf : f_X10_isLot a1 u = some (r, u')) : MI wdM l yX10_isLot cX10_isLot 2 (some .boolean) 1 ev [.ref (ev.2.1 0), .int a1] u r u' := by
  refine bodyI (by decide +kernel) rfl (Nat.le_of_ble_eq_true rfl) ?_
  intro p e s m below meth cd ls H locs hc hr hlk hw hl
  generalize hav : (List.toArray [.ref (ev.2.1 0), .int a1] : Array Value) = av at hc ⊢
  obtain ⟨hx, hb, hml, hown, hts, hK, hZ⟩ := id hc
  have hl : lv_has ls 2 [(0, .ref (ev.2.1 0)), (1, .int a1)] := hl
  unfold f_X10_isLot at hf
  refine lv_iload_n hx hb dX10_isLot_0 rfl (lv_at hl 1 rfl) ?_
  refine lv_iconst (v := (0 : Int32)) hx hb dX10_isLot_1 (by decide) ?_
  refine lv_aload_n hx hb dX10_isLot_2 rfl (lv_at hl 0 rfl) ?_
  refine gM0_3 hc hw fl_X10_17 dX10_isLot_3 ?_
  refine lv_iconst (v := (1 : Int32)) hx hb dX10_isLot_6 (by decide) ?_
  refine lv_isub hx hb dX10_isLot_7 ?_
  obtain ⟨r3, u2, h1, hf⟩ := ob_some hf
  refine endI okM hw (runS_ok (As := [.int a1, .int (0 : Int32), .int ((gI u 2) - (1 : Int32))]) (rest := []) okM hc hw (c_X10_in l ev a1 (0 : Int32) ((gI u 2) - (1 : Int32)) u h1 H.size) ks_X10_in ml_X10_144 hl.1 rfl rfl (Nat.le_of_ble_eq_true rfl) (rm_le (by decide) (by decide)) dX10_isLot_8) (fun H locs hw => ?_)
  obtain ⟨z, hf⟩ := it_none hf
  exact retZ hc hr hlk hw (bo_nar z) hf dX10_isLot_11
def f_X10_isOpen (u : SS) : Option (Int32 × SS) :=
  if (gI u 1) < 0 then (some ((1 : Int32), u)) else (if (gI u 1) < (gI u 0) then (some ((0 : Int32), u)) else (some ((1 : Int32), u)))
set_option maxHeartbeats 4000000 in
set_option maxRecDepth 100000 in
theorem c_X10_isOpen (l : Launch) (ev : EV) (u : SS) {r : Int32} {u' : SS} (hf : f_X10_isOpen  u = some (r, u')) : MI wdM l yX10_isOpen cX10_isOpen 1 (some .boolean) 0 ev [.ref (ev.2.1 0)] u r u' := by
  refine bodyI (by decide +kernel) rfl (Nat.le_of_ble_eq_true rfl) ?_
  intro p e s m below meth cd ls H locs hc hr hlk hw hl
  generalize hav : (List.toArray [.ref (ev.2.1 0)] : Array Value) = av at hc ⊢
  obtain ⟨hx, hb, hml, hown, hts, hK, hZ⟩ := id hc
  have hl : lv_has ls 1 [(0, .ref (ev.2.1 0))] := hl
  unfold f_X10_isOpen at hf
  refine lv_aload_n hx hb dX10_isOpen_0 rfl (lv_at hl 0 rfl) ?_
  refine gM0_1 hc hw fl_X10_7 dX10_isOpen_1 ?_
  refine lv_if_lt (tgt := 18) hx hb dX10_isOpen_4 (by decide) (fun z => ?_) (fun z => ?_)
  · have hf := it_pos z hf
    refine lv_iconst (v := (1 : Int32)) hx hb dX10_isOpen_18 (by decide) ?_
    refine lv_goto (tgt := 23) hx hb dX10_isOpen_19 (by decide) ?_
    exact retZ hc hr hlk hw nz1 hf dX10_isOpen_23
  · have hf := it_neg z hf
    refine lv_aload_n hx hb dX10_isOpen_7 rfl (lv_at hl 0 rfl) ?_
    refine gM0_0 hc hw fl_X10_148 dX10_isOpen_8 ?_
    refine lv_aload_n hx hb dX10_isOpen_11 rfl (lv_at hl 0 rfl) ?_
    refine gM0_1 hc hw fl_X10_7 dX10_isOpen_12 ?_
    refine lv_icmp_gt (tgt := 22) hx hb dX10_isOpen_15 (by decide) (fun z => ?_) (fun z => ?_)
    · have hf := it_pos z hf
      refine lv_iconst (v := (0 : Int32)) hx hb dX10_isOpen_22 (by decide) ?_
      exact retZ hc hr hlk hw nz0 hf dX10_isOpen_23
    · have hf := it_neg z hf
      refine lv_iconst (v := (1 : Int32)) hx hb dX10_isOpen_18 (by decide) ?_
      refine lv_goto (tgt := 23) hx hb dX10_isOpen_19 (by decide) ?_
      exact retZ hc hr hlk hw nz1 hf dX10_isOpen_23
def f_X10_time (a1 : Int32) (u : SS) : Option (Int32 × SS) :=
  if (1 : Int32) ≤ a1 then (if a1 ≤ ((999999 : Int32) - (gI u 0)) then (lt (sI u 0 ((gI u 0) + a1)) fun u1 => lt (sI u1 16 (0 : Int32)) fun u2 => some ((gI u2 0), u2)) else (ob (f_X10_refuse (-6 : Int32) u) fun r5 u4 => some (r5, u4))) else (ob (f_X10_refuse (-4 : Int32) u) fun r8 u7 => some (r8, u7))
set_option maxHeartbeats 4000000 in
set_option maxRecDepth 100000 in
theorem c_X10_time (l : Launch) (ev : EV) (a1 : Int32) (u : SS) {r : Int32} {u' : SS} (hf : f_X10_time a1 u = some (r, u')) : MI wdM l yX10_time cX10_time 2 (some .int) 1 ev [.ref (ev.2.1 0), .int a1] u r u' := by
  refine bodyI (by decide +kernel) rfl (Nat.le_of_ble_eq_true rfl) ?_
  intro p e s m below meth cd ls H locs hc hr hlk hw hl
  generalize hav : (List.toArray [.ref (ev.2.1 0), .int a1] : Array Value) = av at hc ⊢
  obtain ⟨hx, hb, hml, hown, hts, hK, hZ⟩ := id hc
  have hl : lv_has ls 2 [(0, .ref (ev.2.1 0)), (1, .int a1)] := hl
  unfold f_X10_time at hf
  refine lv_iload_n hx hb dX10_time_0 rfl (lv_at hl 1 rfl) ?_
  refine lv_iconst (v := (1 : Int32)) hx hb dX10_time_1 (by decide) ?_
  refine lv_icmp_ge (tgt := 12) hx hb dX10_time_2 (by decide) (fun z => ?_) (fun z => ?_)
  · have hf := it_pos z hf
    refine lv_iload_n hx hb dX10_time_12 rfl (lv_at hl 1 rfl) ?_
    refine lv_ldc (v := (999999 : Int32)) hx hb hown (hts _ ct_X10_155) dX10_time_13 ?_
    refine lv_aload_n hx hb dX10_time_15 rfl (lv_at hl 0 rfl) ?_
    refine gM0_0 hc hw fl_X10_148 dX10_time_16 ?_
    refine lv_isub hx hb dX10_time_19 ?_
    refine lv_icmp_le (tgt := 30) hx hb dX10_time_20 (by decide) (fun z => ?_) (fun z => ?_)
    · have hf := it_pos z hf
      refine lv_aload_n hx hb dX10_time_30 rfl (lv_at hl 0 rfl) ?_
      refine lv_dup hx hb dX10_time_31 rfl ?_
      refine gM0_0 hc hw fl_X10_148 dX10_time_32 ?_
      refine lv_iload_n hx hb dX10_time_35 rfl (lv_at hl 1 rfl) ?_
      refine lv_iadd hx hb dX10_time_36 ?_
      refine pM0_0 hc hw fl_X10_148 dX10_time_37 (fun H locs hw => ?_)
      obtain ⟨u1, eu1, hf⟩ := lt_some hf
      have hw := VW.nm eu1 hw
      refine lv_aload_n hx hb dX10_time_40 rfl (lv_at hl 0 rfl) ?_
      refine lv_iconst (v := (0 : Int32)) hx hb dX10_time_41 (by decide) ?_
      refine pM0_40 hc hw fl_X10_156 nz0 fz0 dX10_time_42 (fun H locs hw => ?_)
      obtain ⟨u2, eu2, hf⟩ := lt_some hf
      have hw := VW.nm eu2 hw
      refine lv_aload_n hx hb dX10_time_45 rfl (lv_at hl 0 rfl) ?_
      refine gM0_0 hc hw fl_X10_148 dX10_time_46 ?_
      exact retI hc hr hlk hw hf dX10_time_49
    · have hf := it_neg z hf
      refine lv_aload_n hx hb dX10_time_23 rfl (lv_at hl 0 rfl) ?_
      refine lv_bipush (v := (-6 : Int32)) hx hb dX10_time_24 (by decide) ?_
      obtain ⟨r5, u4, h3, hf⟩ := ob_some hf
      refine endI okM hw (runV_ok (As := [.int (-6 : Int32)]) (rest := []) okM hc hw (c_X10_refuse l ev (-6 : Int32) u h3 H.size) kv_X10_refuse ml_X10_151 (rvM0 ev u) hl.1 rfl rfl (Nat.le_of_ble_eq_true rfl) (rm_le (by decide) (by decide)) dX10_time_26) (fun H locs hw => ?_)
      exact retI hc hr hlk hw hf dX10_time_29
  · have hf := it_neg z hf
    refine lv_aload_n hx hb dX10_time_5 rfl (lv_at hl 0 rfl) ?_
    refine lv_bipush (v := (-4 : Int32)) hx hb dX10_time_6 (by decide) ?_
    obtain ⟨r8, u7, h6, hf⟩ := ob_some hf
    refine endI okM hw (runV_ok (As := [.int (-4 : Int32)]) (rest := []) okM hc hw (c_X10_refuse l ev (-4 : Int32) u h6 H.size) kv_X10_refuse ml_X10_151 (rvM0 ev u) hl.1 rfl rfl (Nat.le_of_ble_eq_true rfl) (rm_le (by decide) (by decide)) dX10_time_8) (fun H locs hw => ?_)
    exact retI hc hr hlk hw hf dX10_time_11
def f_X10_rate (a1 : Int32) (a2 : Int32) (u : SS) : Option (Int32 × SS) :=
  ob (f_X10_in a1 (1 : Int32) (3 : Int32) u) fun r3 u2 => if r3 = 0 then (ob (f_X10_refuse (-1 : Int32) u2) fun r20 u19 => some (r20, u19)) else (ob (f_X10_isOpen u2) fun r6 u5 => if r6 = 0 then (ob (f_X10_refuse (-3 : Int32) u5) fun r17 u16 => some (r17, u16)) else (if (1 : Int32) ≤ a2 then (if a2 ≤ (100000 : Int32) then (oi a1 4 (lt (gA u5 0 a1.toNatClampNeg) fun x7 => oi a1 4 (lt (tA u5 0 a1 a2) fun u8 => some (x7, u8)))) else (ob (f_X10_refuse (-6 : Int32) u5) fun r11 u10 => some (r11, u10))) else (ob (f_X10_refuse (-4 : Int32) u5) fun r14 u13 => some (r14, u13))))
set_option maxHeartbeats 4000000 in
set_option maxRecDepth 100000 in
theorem c_X10_rate (l : Launch) (ev : EV) (a1 : Int32) (a2 : Int32) (u : SS) {r : Int32} {u' : SS} (hf : f_X10_rate a1 a2 u = some (r, u')) : MI wdM l yX10_rate cX10_rate 4 (some .int) 1 ev [.ref (ev.2.1 0), .int a1, .int a2] u r u' := by
  refine bodyI (by decide +kernel) rfl (Nat.le_of_ble_eq_true rfl) ?_
  intro p e s m below meth cd ls H locs hc hr hlk hw hl
  generalize hav : (List.toArray [.ref (ev.2.1 0), .int a1, .int a2] : Array Value) = av at hc ⊢
  obtain ⟨hx, hb, hml, hown, hts, hK, hZ⟩ := id hc
  have hl : lv_has ls 4 [(0, .ref (ev.2.1 0)), (1, .int a1), (2, .int a2)] := hl
  unfold f_X10_rate at hf
  refine lv_iload_n hx hb dX10_rate_0 rfl (lv_at hl 1 rfl) ?_
  refine lv_iconst (v := (1 : Int32)) hx hb dX10_rate_1 (by decide) ?_
  refine lv_iconst (v := (3 : Int32)) hx hb dX10_rate_2 (by decide) ?_
  obtain ⟨r3, u2, h1, hf⟩ := ob_some hf
  refine endI okM hw (runS_ok (As := [.int a1, .int (1 : Int32), .int (3 : Int32)]) (rest := []) okM hc hw (c_X10_in l ev a1 (1 : Int32) (3 : Int32) u h1 H.size) ks_X10_in ml_X10_144 hl.1 rfl rfl (Nat.le_of_ble_eq_true rfl) (rm_le (by decide) (by decide)) dX10_rate_3) (fun H locs hw => ?_)
  refine lv_if_ne (tgt := 15) hx hb dX10_rate_6 (by decide) (fun z => ?_) (fun z => ?_)
  · have hf := it_neg z hf
    refine lv_aload_n hx hb dX10_rate_15 rfl (lv_at hl 0 rfl) ?_
    obtain ⟨r6, u5, h4, hf⟩ := ob_some hf
    refine endI okM hw (runV_ok (As := []) (rest := []) okM hc hw (c_X10_isOpen l ev u2 h4 H.size) kv_X10_isOpen ml_X10_160 (rvM0 ev u2) hl.1 rfl rfl (Nat.le_of_ble_eq_true rfl) (rm_le (by decide) (by decide)) dX10_rate_16) (fun H locs hw => ?_)
    refine lv_if_ne (tgt := 29) hx hb dX10_rate_19 (by decide) (fun z => ?_) (fun z => ?_)
    · have hf := it_neg z hf
      refine lv_iload_n hx hb dX10_rate_29 rfl (lv_at hl 2 rfl) ?_
      refine lv_iconst (v := (1 : Int32)) hx hb dX10_rate_30 (by decide) ?_
      refine lv_icmp_ge (tgt := 41) hx hb dX10_rate_31 (by decide) (fun z => ?_) (fun z => ?_)
      · have hf := it_pos z hf
        refine lv_iload_n hx hb dX10_rate_41 rfl (lv_at hl 2 rfl) ?_
        refine lv_ldc (v := (100000 : Int32)) hx hb hown (hts _ ct_X10_164) dX10_rate_42 ?_
        refine lv_icmp_le (tgt := 54) hx hb dX10_rate_44 (by decide) (fun z => ?_) (fun z => ?_)
        · have hf := it_pos z hf
          refine lv_aload_n hx hb dX10_rate_54 rfl (lv_at hl 0 rfl) ?_
          refine gM0_2 hc hw fl_X10_13 dX10_rate_55 ?_
          refine lv_iload_n hx hb dX10_rate_58 rfl (lv_at hl 1 rfl) ?_
          obtain ⟨z, hf⟩ := oi_some hf
          refine aM1 hc hw z dX10_rate_59 ?_
          obtain ⟨x7, ex7, hf⟩ := lt_some hf
          refine tope ex7 ?_
          refine lv_istore_n (lv' := [(3, .int x7), (0, .ref (ev.2.1 0)), (1, .int a1), (2, .int a2)]) hx hb dX10_rate_60 rfl hl (by decide) rfl (fun ls hl => ?_)
          refine lv_aload_n hx hb dX10_rate_61 rfl (lv_at hl 1 rfl) ?_
          refine gM0_2 hc hw fl_X10_13 dX10_rate_62 ?_
          refine lv_iload_n hx hb dX10_rate_65 rfl (lv_at hl 2 rfl) ?_
          refine lv_iload_n hx hb dX10_rate_66 rfl (lv_at hl 3 rfl) ?_
          obtain ⟨z, hf⟩ := oi_some hf
          refine tM1 hc hw z dX10_rate_67 (fun H locs hw => ?_)
          obtain ⟨u8, eu8, hf⟩ := lt_some hf
          have hw := VW.nm eu8 hw
          refine lv_iload_n hx hb dX10_rate_68 rfl (lv_at hl 0 rfl) ?_
          exact retI hc hr hlk hw hf dX10_rate_69
        · have hf := it_neg z hf
          refine lv_aload_n hx hb dX10_rate_47 rfl (lv_at hl 0 rfl) ?_
          refine lv_bipush (v := (-6 : Int32)) hx hb dX10_rate_48 (by decide) ?_
          obtain ⟨r11, u10, h9, hf⟩ := ob_some hf
          refine endI okM hw (runV_ok (As := [.int (-6 : Int32)]) (rest := []) okM hc hw (c_X10_refuse l ev (-6 : Int32) u5 h9 H.size) kv_X10_refuse ml_X10_151 (rvM0 ev u5) hl.1 rfl rfl (Nat.le_of_ble_eq_true rfl) (rm_le (by decide) (by decide)) dX10_rate_50) (fun H locs hw => ?_)
          exact retI hc hr hlk hw hf dX10_rate_53
      · have hf := it_neg z hf
        refine lv_aload_n hx hb dX10_rate_34 rfl (lv_at hl 0 rfl) ?_
        refine lv_bipush (v := (-4 : Int32)) hx hb dX10_rate_35 (by decide) ?_
        obtain ⟨r14, u13, h12, hf⟩ := ob_some hf
        refine endI okM hw (runV_ok (As := [.int (-4 : Int32)]) (rest := []) okM hc hw (c_X10_refuse l ev (-4 : Int32) u5 h12 H.size) kv_X10_refuse ml_X10_151 (rvM0 ev u5) hl.1 rfl rfl (Nat.le_of_ble_eq_true rfl) (rm_le (by decide) (by decide)) dX10_rate_37) (fun H locs hw => ?_)
        exact retI hc hr hlk hw hf dX10_rate_40
    · have hf := it_pos z hf
      refine lv_aload_n hx hb dX10_rate_22 rfl (lv_at hl 0 rfl) ?_
      refine lv_bipush (v := (-3 : Int32)) hx hb dX10_rate_23 (by decide) ?_
      obtain ⟨r17, u16, h15, hf⟩ := ob_some hf
      refine endI okM hw (runV_ok (As := [.int (-3 : Int32)]) (rest := []) okM hc hw (c_X10_refuse l ev (-3 : Int32) u5 h15 H.size) kv_X10_refuse ml_X10_151 (rvM0 ev u5) hl.1 rfl rfl (Nat.le_of_ble_eq_true rfl) (rm_le (by decide) (by decide)) dX10_rate_25) (fun H locs hw => ?_)
      exact retI hc hr hlk hw hf dX10_rate_28
  · have hf := it_pos z hf
    refine lv_aload_n hx hb dX10_rate_9 rfl (lv_at hl 0 rfl) ?_
    refine lv_iconst (v := (-1 : Int32)) hx hb dX10_rate_10 (by decide) ?_
    obtain ⟨r20, u19, h18, hf⟩ := ob_some hf
    refine endI okM hw (runV_ok (As := [.int (-1 : Int32)]) (rest := []) okM hc hw (c_X10_refuse l ev (-1 : Int32) u2 h18 H.size) kv_X10_refuse ml_X10_151 (rvM0 ev u2) hl.1 rfl rfl (Nat.le_of_ble_eq_true rfl) (rm_le (by decide) (by decide)) dX10_rate_11) (fun H locs hw => ?_)
    exact retI hc hr hlk hw hf dX10_rate_14
def b_X10_lots_L54 (k54 : Int32 → Int32 → SS → Option (Int32 × SS)) (b2 : Int32) (b3 : Int32) (u : SS) : Option (Int32 × SS) :=
  if (48 : Int32) ≤ b3 then (some (b2, u)) else (oi b3 48 (lt (tZ u 1 b3 (0 : Int32)) fun u7 => oi b3 48 (lt (tA u7 7 b3 (-1 : Int32)) fun u8 => lt (b3 + (1 : Int32)) fun x9 => k54 b2 x9 u8)))
def f_X10_lots_L54 : Nat → Int32 → Int32 → SS → Option (Int32 × SS)
  | 0 => fun _ _ _ => none
  | n + 1 => b_X10_lots_L54 (f_X10_lots_L54 n)
def f_X10_lots (a1 : Int32) (u : SS) : Option (Int32 × SS) :=
  ob (f_X10_isOpen u) fun r3 u2 => if r3 = 0 then (ob (f_X10_refuse (-3 : Int32) u2) fun r18 u17 => some (r18, u17)) else (if (1 : Int32) ≤ a1 then (if a1 ≤ (6 : Int32) then (lt (gI u2 2) fun x4 => lt (sI u2 2 a1) fun u5 => lt ((8 : Int32) * a1) fun x6 => f_X10_lots_L54 FU x4 x6 u5) else (ob (f_X10_refuse (-6 : Int32) u2) fun r12 u11 => some (r12, u11))) else (ob (f_X10_refuse (-4 : Int32) u2) fun r15 u14 => some (r15, u14)))
set_option maxHeartbeats 4000000 in
set_option maxRecDepth 100000 in
theorem c_X10_lots (l : Launch) (ev : EV) (a1 : Int32) (u : SS) {r : Int32} {u' : SS} (hf : f_X10_lots a1 u = some (r, u')) : MI wdM l yX10_lots cX10_lots 4 (some .int) 1 ev [.ref (ev.2.1 0), .int a1] u r u' := by
  refine bodyI (by decide +kernel) rfl (Nat.le_of_ble_eq_true rfl) ?_
  intro p e s m below meth cd ls H locs hc hr hlk hw hl
  generalize hav : (List.toArray [.ref (ev.2.1 0), .int a1] : Array Value) = av at hc ⊢
  obtain ⟨hx, hb, hml, hown, hts, hK, hZ⟩ := id hc
  have hl : lv_has ls 4 [(0, .ref (ev.2.1 0)), (1, .int a1)] := hl
  have wL54 : ∀ (n : Nat) (b2 : Int32) (b3 : Int32) (u : SS) (H : Heap) (locs : List Loc) (ls : Array Slot), VW wdM ev s u H locs → lv_has ls 4 [(0, .ref (ev.2.1 0)), (2, .int b2), (3, .int b3)] → f_X10_lots_L54 n b2 b3 u = some (r, u') → W p l e (rmk 1) s m av below meth cd H locs 0 0 (ZI wdM ev s below av r u') (F0 m 54 ls []) := by
    intro n
    induction n with
    | zero =>
      intro b2 b3 u H locs ls hw hl hf
      cases hf
    | succ n hk54 =>
      intro b2 b3 u H locs ls hw hl hf
      have hf : b_X10_lots_L54 (f_X10_lots_L54 n) b2 b3 u = some (r, u') := hf
      unfold b_X10_lots_L54 at hf
      refine lv_iload_n hx hb dX10_lots_54 rfl (lv_at hl 2 rfl) ?_
      refine lv_bipush (v := (48 : Int32)) hx hb dX10_lots_55 (by decide) ?_
      refine lv_icmp_ge (tgt := 80) hx hb dX10_lots_57 (by decide) (fun z => ?_) (fun z => ?_)
      · have hf := it_pos z hf
        refine lv_iload_n hx hb dX10_lots_80 rfl (lv_at hl 1 rfl) ?_
        exact retI hc hr hlk hw hf dX10_lots_81
      · have hf := it_neg z hf
        refine lv_aload_n hx hb dX10_lots_60 rfl (lv_at hl 0 rfl) ?_
        refine gM0_4 hc hw fl_X10_20 dX10_lots_61 ?_
        refine lv_iload_n hx hb dX10_lots_64 rfl (lv_at hl 2 rfl) ?_
        refine lv_iconst (v := (0 : Int32)) hx hb dX10_lots_65 (by decide) ?_
        obtain ⟨z, hf⟩ := oi_some hf
        refine tM2 hc hw z dX10_lots_66 (fun H locs hw => ?_)
        obtain ⟨u7, eu7, hf⟩ := lt_some hf
        have hw := VW.nm eu7 hw
        refine lv_aload_n hx hb dX10_lots_67 rfl (lv_at hl 0 rfl) ?_
        refine gM0_10 hc hw fl_X10_39 dX10_lots_68 ?_
        refine lv_iload_n hx hb dX10_lots_71 rfl (lv_at hl 2 rfl) ?_
        refine lv_iconst (v := (-1 : Int32)) hx hb dX10_lots_72 (by decide) ?_
        obtain ⟨z, hf⟩ := oi_some hf
        refine tM8 hc hw z dX10_lots_73 (fun H locs hw => ?_)
        obtain ⟨u8, eu8, hf⟩ := lt_some hf
        have hw := VW.nm eu8 hw
        obtain ⟨x9, ex9, hf⟩ := lt_some hf
        refine lv_iinc (v := x9) (lv' := [(3, .int x9), (0, .ref (ev.2.1 0)), (2, .int b2)]) hx hb dX10_lots_74 hl (k := 2) rfl (by rw [ex9]; rfl) (by decide) rfl (fun ls hl => ?_)
        refine lv_goto (tgt := 54) hx hb dX10_lots_77 (by decide) ?_
        exact hk54 b2 x9 u8 H locs ls hw (lv_sub hl [1, 2, 0] rfl) hf
  unfold f_X10_lots at hf
  refine lv_aload_n hx hb dX10_lots_0 rfl (lv_at hl 0 rfl) ?_
  obtain ⟨r3, u2, h1, hf⟩ := ob_some hf
  refine endI okM hw (runV_ok (As := []) (rest := []) okM hc hw (c_X10_isOpen l ev u h1 H.size) kv_X10_isOpen ml_X10_160 (rvM0 ev u) hl.1 rfl rfl (Nat.le_of_ble_eq_true rfl) (rm_le (by decide) (by decide)) dX10_lots_1) (fun H locs hw => ?_)
  refine lv_if_ne (tgt := 14) hx hb dX10_lots_4 (by decide) (fun z => ?_) (fun z => ?_)
  · have hf := it_neg z hf
    refine lv_iload_n hx hb dX10_lots_14 rfl (lv_at hl 1 rfl) ?_
    refine lv_iconst (v := (1 : Int32)) hx hb dX10_lots_15 (by decide) ?_
    refine lv_icmp_ge (tgt := 26) hx hb dX10_lots_16 (by decide) (fun z => ?_) (fun z => ?_)
    · have hf := it_pos z hf
      refine lv_iload_n hx hb dX10_lots_26 rfl (lv_at hl 1 rfl) ?_
      refine lv_bipush (v := (6 : Int32)) hx hb dX10_lots_27 (by decide) ?_
      refine lv_icmp_le (tgt := 39) hx hb dX10_lots_29 (by decide) (fun z => ?_) (fun z => ?_)
      · have hf := it_pos z hf
        refine lv_aload_n hx hb dX10_lots_39 rfl (lv_at hl 0 rfl) ?_
        refine gM0_3 hc hw fl_X10_17 dX10_lots_40 ?_
        obtain ⟨x4, ex4, hf⟩ := lt_some hf
        refine tope ex4 ?_
        refine lv_istore_n (lv' := [(2, .int x4), (0, .ref (ev.2.1 0)), (1, .int a1)]) hx hb dX10_lots_43 rfl hl (by decide) rfl (fun ls hl => ?_)
        refine lv_aload_n hx hb dX10_lots_44 rfl (lv_at hl 1 rfl) ?_
        refine lv_iload_n hx hb dX10_lots_45 rfl (lv_at hl 2 rfl) ?_
        refine pM0_3 hc hw fl_X10_17 dX10_lots_46 (fun H locs hw => ?_)
        obtain ⟨u5, eu5, hf⟩ := lt_some hf
        have hw := VW.nm eu5 hw
        refine lv_bipush (v := (8 : Int32)) hx hb dX10_lots_49 (by decide) ?_
        refine lv_iload_n hx hb dX10_lots_51 rfl (lv_at hl 2 rfl) ?_
        refine lv_imul hx hb dX10_lots_52 ?_
        obtain ⟨x6, ex6, hf⟩ := lt_some hf
        refine tope ex6 ?_
        refine lv_istore_n (lv' := [(3, .int x6), (2, .int x4), (0, .ref (ev.2.1 0)), (1, .int a1)]) hx hb dX10_lots_53 rfl hl (by decide) rfl (fun ls hl => ?_)
        exact wL54 FU x4 x6 u5 H locs ls hw (lv_sub hl [2, 1, 0] rfl) hf
      · have hf := it_neg z hf
        refine lv_aload_n hx hb dX10_lots_32 rfl (lv_at hl 0 rfl) ?_
        refine lv_bipush (v := (-6 : Int32)) hx hb dX10_lots_33 (by decide) ?_
        obtain ⟨r12, u11, h10, hf⟩ := ob_some hf
        refine endI okM hw (runV_ok (As := [.int (-6 : Int32)]) (rest := []) okM hc hw (c_X10_refuse l ev (-6 : Int32) u2 h10 H.size) kv_X10_refuse ml_X10_151 (rvM0 ev u2) hl.1 rfl rfl (Nat.le_of_ble_eq_true rfl) (rm_le (by decide) (by decide)) dX10_lots_35) (fun H locs hw => ?_)
        exact retI hc hr hlk hw hf dX10_lots_38
    · have hf := it_neg z hf
      refine lv_aload_n hx hb dX10_lots_19 rfl (lv_at hl 0 rfl) ?_
      refine lv_bipush (v := (-4 : Int32)) hx hb dX10_lots_20 (by decide) ?_
      obtain ⟨r15, u14, h13, hf⟩ := ob_some hf
      refine endI okM hw (runV_ok (As := [.int (-4 : Int32)]) (rest := []) okM hc hw (c_X10_refuse l ev (-4 : Int32) u2 h13 H.size) kv_X10_refuse ml_X10_151 (rvM0 ev u2) hl.1 rfl rfl (Nat.le_of_ble_eq_true rfl) (rm_le (by decide) (by decide)) dX10_lots_22) (fun H locs hw => ?_)
      exact retI hc hr hlk hw hf dX10_lots_25
  · have hf := it_pos z hf
    refine lv_aload_n hx hb dX10_lots_7 rfl (lv_at hl 0 rfl) ?_
    refine lv_bipush (v := (-3 : Int32)) hx hb dX10_lots_8 (by decide) ?_
    obtain ⟨r18, u17, h16, hf⟩ := ob_some hf
    refine endI okM hw (runV_ok (As := [.int (-3 : Int32)]) (rest := []) okM hc hw (c_X10_refuse l ev (-3 : Int32) u2 h16 H.size) kv_X10_refuse ml_X10_151 (rvM0 ev u2) hl.1 rfl rfl (Nat.le_of_ble_eq_true rfl) (rm_le (by decide) (by decide)) dX10_lots_10) (fun H locs hw => ?_)
    exact retI hc hr hlk hw hf dX10_lots_13
def f_X10_closing (a1 : Int32) (u : SS) : Option (Int32 × SS) :=
  if (gI u 1) < 0 then (if (gI u 0) ≤ a1 then (if a1 ≤ (999999 : Int32) then (lt (sI u 1 a1) fun u1 => some ((1 : Int32), u1)) else (ob (f_X10_refuse (-6 : Int32) u) fun r4 u3 => some (r4, u3))) else (ob (f_X10_refuse (-4 : Int32) u) fun r7 u6 => some (r7, u6))) else (ob (f_X10_refuse (-3 : Int32) u) fun r10 u9 => some (r10, u9))
set_option maxHeartbeats 4000000 in
set_option maxRecDepth 100000 in
theorem c_X10_closing (l : Launch) (ev : EV) (a1 : Int32) (u : SS) {r : Int32} {u' : SS} (hf : f_X10_closing a1 u = some (r, u')) : MI wdM l yX10_closing cX10_closing 2 (some .int) 1 ev [.ref (ev.2.1 0), .int a1] u r u' := by
  refine bodyI (by decide +kernel) rfl (Nat.le_of_ble_eq_true rfl) ?_
  intro p e s m below meth cd ls H locs hc hr hlk hw hl
  generalize hav : (List.toArray [.ref (ev.2.1 0), .int a1] : Array Value) = av at hc ⊢
  obtain ⟨hx, hb, hml, hown, hts, hK, hZ⟩ := id hc
  have hl : lv_has ls 2 [(0, .ref (ev.2.1 0)), (1, .int a1)] := hl
  unfold f_X10_closing at hf
  refine lv_aload_n hx hb dX10_closing_0 rfl (lv_at hl 0 rfl) ?_
  refine gM0_1 hc hw fl_X10_7 dX10_closing_1 ?_
  refine lv_if_lt (tgt := 14) hx hb dX10_closing_4 (by decide) (fun z => ?_) (fun z => ?_)
  · have hf := it_pos z hf
    refine lv_iload_n hx hb dX10_closing_14 rfl (lv_at hl 1 rfl) ?_
    refine lv_aload_n hx hb dX10_closing_15 rfl (lv_at hl 0 rfl) ?_
    refine gM0_0 hc hw fl_X10_148 dX10_closing_16 ?_
    refine lv_icmp_ge (tgt := 29) hx hb dX10_closing_19 (by decide) (fun z => ?_) (fun z => ?_)
    · have hf := it_pos z hf
      refine lv_iload_n hx hb dX10_closing_29 rfl (lv_at hl 1 rfl) ?_
      refine lv_ldc (v := (999999 : Int32)) hx hb hown (hts _ ct_X10_155) dX10_closing_30 ?_
      refine lv_icmp_le (tgt := 42) hx hb dX10_closing_32 (by decide) (fun z => ?_) (fun z => ?_)
      · have hf := it_pos z hf
        refine lv_aload_n hx hb dX10_closing_42 rfl (lv_at hl 0 rfl) ?_
        refine lv_iload_n hx hb dX10_closing_43 rfl (lv_at hl 1 rfl) ?_
        refine pM0_1 hc hw fl_X10_7 dX10_closing_44 (fun H locs hw => ?_)
        obtain ⟨u1, eu1, hf⟩ := lt_some hf
        have hw := VW.nm eu1 hw
        refine lv_iconst (v := (1 : Int32)) hx hb dX10_closing_47 (by decide) ?_
        exact retI hc hr hlk hw hf dX10_closing_48
      · have hf := it_neg z hf
        refine lv_aload_n hx hb dX10_closing_35 rfl (lv_at hl 0 rfl) ?_
        refine lv_bipush (v := (-6 : Int32)) hx hb dX10_closing_36 (by decide) ?_
        obtain ⟨r4, u3, h2, hf⟩ := ob_some hf
        refine endI okM hw (runV_ok (As := [.int (-6 : Int32)]) (rest := []) okM hc hw (c_X10_refuse l ev (-6 : Int32) u h2 H.size) kv_X10_refuse ml_X10_151 (rvM0 ev u) hl.1 rfl rfl (Nat.le_of_ble_eq_true rfl) (rm_le (by decide) (by decide)) dX10_closing_38) (fun H locs hw => ?_)
        exact retI hc hr hlk hw hf dX10_closing_41
    · have hf := it_neg z hf
      refine lv_aload_n hx hb dX10_closing_22 rfl (lv_at hl 0 rfl) ?_
      refine lv_bipush (v := (-4 : Int32)) hx hb dX10_closing_23 (by decide) ?_
      obtain ⟨r7, u6, h5, hf⟩ := ob_some hf
      refine endI okM hw (runV_ok (As := [.int (-4 : Int32)]) (rest := []) okM hc hw (c_X10_refuse l ev (-4 : Int32) u h5 H.size) kv_X10_refuse ml_X10_151 (rvM0 ev u) hl.1 rfl rfl (Nat.le_of_ble_eq_true rfl) (rm_le (by decide) (by decide)) dX10_closing_25) (fun H locs hw => ?_)
      exact retI hc hr hlk hw hf dX10_closing_28
  · have hf := it_neg z hf
    refine lv_aload_n hx hb dX10_closing_7 rfl (lv_at hl 0 rfl) ?_
    refine lv_bipush (v := (-3 : Int32)) hx hb dX10_closing_8 (by decide) ?_
    obtain ⟨r10, u9, h8, hf⟩ := ob_some hf
    refine endI okM hw (runV_ok (As := [.int (-3 : Int32)]) (rest := []) okM hc hw (c_X10_refuse l ev (-3 : Int32) u h8 H.size) kv_X10_refuse ml_X10_151 (rvM0 ev u) hl.1 rfl rfl (Nat.le_of_ble_eq_true rfl) (rm_le (by decide) (by decide)) dX10_closing_10) (fun H locs hw => ?_)
    exact retI hc hr hlk hw hf dX10_closing_13
def f_X10_wrongBid (a1 : Int32) (a2 : Int32) (a3 : Int32) (a4 : Int32) (a5 : Int32) (a6 : Int32) (a7 : Int32) (u : SS) : Option (Int32 × SS) :=
  ob (f_X10_in a1 (0 : Int32) (3 : Int32) u) fun r3 u2 => if r3 = 0 then (some ((-1 : Int32), u2)) else (if a2 < 0 then (some ((-4 : Int32), u2)) else (if a3 < 0 then (some ((-4 : Int32), u2)) else (if a4 < 0 then (some ((-4 : Int32), u2)) else (if a5 < 0 then (some ((-4 : Int32), u2)) else (if a6 < 0 then (some ((-4 : Int32), u2)) else (if 0 ≤ a7 then (if (99999 : Int32) < a2 then (some ((-6 : Int32), u2)) else (if (99999 : Int32) < a3 then (some ((-6 : Int32), u2)) else (if (99999 : Int32) < a4 then (some ((-6 : Int32), u2)) else (if (99999 : Int32) < a5 then (some ((-6 : Int32), u2)) else (if (999999 : Int32) < a6 then (some ((-6 : Int32), u2)) else (if a7 ≤ (99999 : Int32) then (some ((0 : Int32), u2)) else (some ((-6 : Int32), u2)))))))) else (some ((-4 : Int32), u2))))))))
set_option maxHeartbeats 4000000 in
set_option maxRecDepth 100000 in
theorem c_X10_wrongBid (l : Launch) (ev : EV) (a1 : Int32) (a2 : Int32) (a3 : Int32) (a4 : Int32) (a5 : Int32) (a6 : Int32) (a7 : Int32) (u : SS) {r : Int32} {u' : SS} (hf : f_X10_wrongBid a1 a2 a3 a4 a5 a6 a7 u = some (r, u')) : MI wdM l yX10_wrongBid cX10_wrongBid 8 (some .int) 1 ev [.ref (ev.2.1 0), .int a1, .int a2, .int a3, .int a4, .int a5, .int a6, .int a7] u r u' := by
  refine bodyI (by decide +kernel) rfl (Nat.le_of_ble_eq_true rfl) ?_
  intro p e s m below meth cd ls H locs hc hr hlk hw hl
  generalize hav : (List.toArray [.ref (ev.2.1 0), .int a1, .int a2, .int a3, .int a4, .int a5, .int a6, .int a7] : Array Value) = av at hc ⊢
  obtain ⟨hx, hb, hml, hown, hts, hK, hZ⟩ := id hc
  have hl : lv_has ls 8 [(0, .ref (ev.2.1 0)), (1, .int a1), (2, .int a2), (3, .int a3), (4, .int a4), (5, .int a5), (6, .int a6), (7, .int a7)] := hl
  unfold f_X10_wrongBid at hf
  refine lv_iload_n hx hb dX10_wrongBid_0 rfl (lv_at hl 1 rfl) ?_
  refine lv_iconst (v := (0 : Int32)) hx hb dX10_wrongBid_1 (by decide) ?_
  refine lv_iconst (v := (3 : Int32)) hx hb dX10_wrongBid_2 (by decide) ?_
  obtain ⟨r3, u2, h1, hf⟩ := ob_some hf
  refine endI okM hw (runS_ok (As := [.int a1, .int (0 : Int32), .int (3 : Int32)]) (rest := []) okM hc hw (c_X10_in l ev a1 (0 : Int32) (3 : Int32) u h1 H.size) ks_X10_in ml_X10_144 hl.1 rfl rfl (Nat.le_of_ble_eq_true rfl) (rm_le (by decide) (by decide)) dX10_wrongBid_3) (fun H locs hw => ?_)
  refine lv_if_ne (tgt := 11) hx hb dX10_wrongBid_6 (by decide) (fun z => ?_) (fun z => ?_)
  · have hf := it_neg z hf
    refine lv_iload_n hx hb dX10_wrongBid_11 rfl (lv_at hl 2 rfl) ?_
    refine lv_if_lt (tgt := 39) hx hb dX10_wrongBid_12 (by decide) (fun z => ?_) (fun z => ?_)
    · have hf := it_pos z hf
      refine lv_bipush (v := (-4 : Int32)) hx hb dX10_wrongBid_39 (by decide) ?_
      exact retI hc hr hlk hw hf dX10_wrongBid_41
    · have hf := it_neg z hf
      refine lv_iload_n hx hb dX10_wrongBid_15 rfl (lv_at hl 3 rfl) ?_
      refine lv_if_lt (tgt := 39) hx hb dX10_wrongBid_16 (by decide) (fun z => ?_) (fun z => ?_)
      · have hf := it_pos z hf
        refine lv_bipush (v := (-4 : Int32)) hx hb dX10_wrongBid_39 (by decide) ?_
        exact retI hc hr hlk hw hf dX10_wrongBid_41
      · have hf := it_neg z hf
        refine lv_iload hx hb dX10_wrongBid_19 (lv_at hl 4 rfl) ?_
        refine lv_if_lt (tgt := 39) hx hb dX10_wrongBid_21 (by decide) (fun z => ?_) (fun z => ?_)
        · have hf := it_pos z hf
          refine lv_bipush (v := (-4 : Int32)) hx hb dX10_wrongBid_39 (by decide) ?_
          exact retI hc hr hlk hw hf dX10_wrongBid_41
        · have hf := it_neg z hf
          refine lv_iload hx hb dX10_wrongBid_24 (lv_at hl 5 rfl) ?_
          refine lv_if_lt (tgt := 39) hx hb dX10_wrongBid_26 (by decide) (fun z => ?_) (fun z => ?_)
          · have hf := it_pos z hf
            refine lv_bipush (v := (-4 : Int32)) hx hb dX10_wrongBid_39 (by decide) ?_
            exact retI hc hr hlk hw hf dX10_wrongBid_41
          · have hf := it_neg z hf
            refine lv_iload hx hb dX10_wrongBid_29 (lv_at hl 6 rfl) ?_
            refine lv_if_lt (tgt := 39) hx hb dX10_wrongBid_31 (by decide) (fun z => ?_) (fun z => ?_)
            · have hf := it_pos z hf
              refine lv_bipush (v := (-4 : Int32)) hx hb dX10_wrongBid_39 (by decide) ?_
              exact retI hc hr hlk hw hf dX10_wrongBid_41
            · have hf := it_neg z hf
              refine lv_iload hx hb dX10_wrongBid_34 (lv_at hl 7 rfl) ?_
              refine lv_if_ge (tgt := 42) hx hb dX10_wrongBid_36 (by decide) (fun z => ?_) (fun z => ?_)
              · have hf := it_pos z hf
                refine lv_iload_n hx hb dX10_wrongBid_42 rfl (lv_at hl 2 rfl) ?_
                refine lv_ldc (v := (99999 : Int32)) hx hb hown (hts _ ct_X10_165) dX10_wrongBid_43 ?_
                refine lv_icmp_gt (tgt := 82) hx hb dX10_wrongBid_45 (by decide) (fun z => ?_) (fun z => ?_)
                · have hf := it_pos z hf
                  refine lv_bipush (v := (-6 : Int32)) hx hb dX10_wrongBid_82 (by decide) ?_
                  refine lv_goto (tgt := 88) hx hb dX10_wrongBid_84 (by decide) ?_
                  exact retI hc hr hlk hw hf dX10_wrongBid_88
                · have hf := it_neg z hf
                  refine lv_iload_n hx hb dX10_wrongBid_48 rfl (lv_at hl 3 rfl) ?_
                  refine lv_ldc (v := (99999 : Int32)) hx hb hown (hts _ ct_X10_165) dX10_wrongBid_49 ?_
                  refine lv_icmp_gt (tgt := 82) hx hb dX10_wrongBid_51 (by decide) (fun z => ?_) (fun z => ?_)
                  · have hf := it_pos z hf
                    refine lv_bipush (v := (-6 : Int32)) hx hb dX10_wrongBid_82 (by decide) ?_
                    refine lv_goto (tgt := 88) hx hb dX10_wrongBid_84 (by decide) ?_
                    exact retI hc hr hlk hw hf dX10_wrongBid_88
                  · have hf := it_neg z hf
                    refine lv_iload hx hb dX10_wrongBid_54 (lv_at hl 4 rfl) ?_
                    refine lv_ldc (v := (99999 : Int32)) hx hb hown (hts _ ct_X10_165) dX10_wrongBid_56 ?_
                    refine lv_icmp_gt (tgt := 82) hx hb dX10_wrongBid_58 (by decide) (fun z => ?_) (fun z => ?_)
                    · have hf := it_pos z hf
                      refine lv_bipush (v := (-6 : Int32)) hx hb dX10_wrongBid_82 (by decide) ?_
                      refine lv_goto (tgt := 88) hx hb dX10_wrongBid_84 (by decide) ?_
                      exact retI hc hr hlk hw hf dX10_wrongBid_88
                    · have hf := it_neg z hf
                      refine lv_iload hx hb dX10_wrongBid_61 (lv_at hl 5 rfl) ?_
                      refine lv_ldc (v := (99999 : Int32)) hx hb hown (hts _ ct_X10_165) dX10_wrongBid_63 ?_
                      refine lv_icmp_gt (tgt := 82) hx hb dX10_wrongBid_65 (by decide) (fun z => ?_) (fun z => ?_)
                      · have hf := it_pos z hf
                        refine lv_bipush (v := (-6 : Int32)) hx hb dX10_wrongBid_82 (by decide) ?_
                        refine lv_goto (tgt := 88) hx hb dX10_wrongBid_84 (by decide) ?_
                        exact retI hc hr hlk hw hf dX10_wrongBid_88
                      · have hf := it_neg z hf
                        refine lv_iload hx hb dX10_wrongBid_68 (lv_at hl 6 rfl) ?_
                        refine lv_ldc (v := (999999 : Int32)) hx hb hown (hts _ ct_X10_155) dX10_wrongBid_70 ?_
                        refine lv_icmp_gt (tgt := 82) hx hb dX10_wrongBid_72 (by decide) (fun z => ?_) (fun z => ?_)
                        · have hf := it_pos z hf
                          refine lv_bipush (v := (-6 : Int32)) hx hb dX10_wrongBid_82 (by decide) ?_
                          refine lv_goto (tgt := 88) hx hb dX10_wrongBid_84 (by decide) ?_
                          exact retI hc hr hlk hw hf dX10_wrongBid_88
                        · have hf := it_neg z hf
                          refine lv_iload hx hb dX10_wrongBid_75 (lv_at hl 7 rfl) ?_
                          refine lv_ldc (v := (99999 : Int32)) hx hb hown (hts _ ct_X10_165) dX10_wrongBid_77 ?_
                          refine lv_icmp_le (tgt := 87) hx hb dX10_wrongBid_79 (by decide) (fun z => ?_) (fun z => ?_)
                          · have hf := it_pos z hf
                            refine lv_iconst (v := (0 : Int32)) hx hb dX10_wrongBid_87 (by decide) ?_
                            exact retI hc hr hlk hw hf dX10_wrongBid_88
                          · have hf := it_neg z hf
                            refine lv_bipush (v := (-6 : Int32)) hx hb dX10_wrongBid_82 (by decide) ?_
                            refine lv_goto (tgt := 88) hx hb dX10_wrongBid_84 (by decide) ?_
                            exact retI hc hr hlk hw hf dX10_wrongBid_88
              · have hf := it_neg z hf
                refine lv_bipush (v := (-4 : Int32)) hx hb dX10_wrongBid_39 (by decide) ?_
                exact retI hc hr hlk hw hf dX10_wrongBid_41
  · have hf := it_pos z hf
    refine lv_iconst (v := (-1 : Int32)) hx hb dX10_wrongBid_9 (by decide) ?_
    exact retI hc hr hlk hw hf dX10_wrongBid_10
def f_X10_bid_L36 (b1 : Int32) (b2 : Int32) (b3 : Int32) (b4 : Int32) (b5 : Int32) (b6 : Int32) (b7 : Int32) (b8 : Int32) (b9 : Int32) (q0 : Int32) (u : SS) : Option (Int32 × SS) :=
  if 0 ≤ q0 then (ob (f_X10_isOpen u) fun r6 u5 => if r6 = 0 then (lt (sI u5 3 ((gI u5 3) + (1 : Int32))) fun u18 => some ((-9 : Int32), u18)) else (lt (((8 : Int32) * b2) + b1) fun x7 => oi x7 48 (lt (gA u5 1 x7.toNatClampNeg) fun x8 => oi x7 48 (lt (tZ u5 1 x7 (1 : Int32)) fun u9 => oi x7 48 (lt (tA u9 7 x7 (-1 : Int32)) fun u10 => oi x7 48 (lt (tA u10 2 x7 b3) fun u11 => oi ((4 : Int32) * x7) 192 (lt (tA u11 3 ((4 : Int32) * x7) b4) fun u12 => oi (((4 : Int32) * x7) + (1 : Int32)) 192 (lt (tA u12 3 (((4 : Int32) * x7) + (1 : Int32)) b5) fun u13 => oi (((4 : Int32) * x7) + (2 : Int32)) 192 (lt (tA u13 3 (((4 : Int32) * x7) + (2 : Int32)) b6) fun u14 => oi (((4 : Int32) * x7) + (3 : Int32)) 192 (lt (tA u14 3 (((4 : Int32) * x7) + (3 : Int32)) b7) fun u15 => oi x7 48 (lt (tA u15 4 x7 b8) fun u16 => oi x7 48 (lt (tA u16 5 x7 b9) fun u17 => if x8 = 0 then (some ((1 : Int32), u17)) else (some ((0 : Int32), u17)))))))))))))) else (ob (f_X10_refuse q0 u) fun r21 u20 => some (r21, u20))
def f_X10_bid_L15 (b1 : Int32) (b2 : Int32) (b3 : Int32) (b4 : Int32) (b5 : Int32) (b6 : Int32) (b7 : Int32) (b8 : Int32) (b9 : Int32) (u : SS) : Option (Int32 × SS) :=
  f_X10_bid_L36 b1 b2 b3 b4 b5 b6 b7 b8 b9 (-1 : Int32) u
def f_X10_bid (a1 : Int32) (a2 : Int32) (a3 : Int32) (a4 : Int32) (a5 : Int32) (a6 : Int32) (a7 : Int32) (a8 : Int32) (a9 : Int32) (u : SS) : Option (Int32 × SS) :=
  ob (f_X10_isBidder a1 u) fun r3 u2 => if r3 = 0 then (f_X10_bid_L15 a1 a2 a3 a4 a5 a6 a7 a8 a9 u2) else (ob (f_X10_isLot a2 u2) fun r24 u23 => if r24 = 0 then (f_X10_bid_L15 a1 a2 a3 a4 a5 a6 a7 a8 a9 u23) else (ob (f_X10_wrongBid a3 a4 a5 a6 a7 a8 a9 u23) fun r27 u26 => f_X10_bid_L36 a1 a2 a3 a4 a5 a6 a7 a8 a9 r27 u26))
set_option maxHeartbeats 4000000 in
set_option maxRecDepth 100000 in
theorem c_X10_bid (l : Launch) (ev : EV) (a1 : Int32) (a2 : Int32) (a3 : Int32) (a4 : Int32) (a5 : Int32) (a6 : Int32) (a7 : Int32) (a8 : Int32) (a9 : Int32) (u : SS) {r : Int32} {u' : SS} (hf : f_X10_bid a1 a2 a3 a4 a5 a6 a7 a8 a9 u = some (r, u')) : MI wdM l yX10_bid cX10_bid 13 (some .int) 2 ev [.ref (ev.2.1 0), .int a1, .int a2, .int a3, .int a4, .int a5, .int a6, .int a7, .int a8, .int a9] u r u' := by
  refine bodyI (by decide +kernel) rfl (Nat.le_of_ble_eq_true rfl) ?_
  intro p e s m below meth cd ls H locs hc hr hlk hw hl
  generalize hav : (List.toArray [.ref (ev.2.1 0), .int a1, .int a2, .int a3, .int a4, .int a5, .int a6, .int a7, .int a8, .int a9] : Array Value) = av at hc ⊢
  obtain ⟨hx, hb, hml, hown, hts, hK, hZ⟩ := id hc
  have hl : lv_has ls 13 [(0, .ref (ev.2.1 0)), (1, .int a1), (2, .int a2), (3, .int a3), (4, .int a4), (5, .int a5), (6, .int a6), (7, .int a7), (8, .int a8), (9, .int a9)] := hl
  have wL36 : ∀ (b1 : Int32) (b2 : Int32) (b3 : Int32) (b4 : Int32) (b5 : Int32) (b6 : Int32) (b7 : Int32) (b8 : Int32) (b9 : Int32) (q0 : Int32) (u : SS) (H : Heap) (locs : List Loc) (ls : Array Slot), VW wdM ev s u H locs → lv_has ls 13 [(0, .ref (ev.2.1 0)), (1, .int b1), (2, .int b2), (3, .int b3), (4, .int b4), (5, .int b5), (6, .int b6), (7, .int b7), (8, .int b8), (9, .int b9)] → f_X10_bid_L36 b1 b2 b3 b4 b5 b6 b7 b8 b9 q0 u = some (r, u') → W p l e (rmk 2) s m av below meth cd H locs 0 0 (ZI wdM ev s below av r u') (F0 m 36 ls [.int q0]) := by
    intro b1 b2 b3 b4 b5 b6 b7 b8 b9 q0 u H locs ls hw hl hf
    unfold f_X10_bid_L36 at hf
    refine lv_istore (lv' := [(10, .int q0), (0, .ref (ev.2.1 0)), (1, .int b1), (2, .int b2), (3, .int b3), (4, .int b4), (5, .int b5), (6, .int b6), (7, .int b7), (8, .int b8), (9, .int b9)]) hx hb dX10_bid_36 hl (by decide) rfl (fun ls hl => ?_)
    refine lv_iload hx hb dX10_bid_38 (lv_at hl 0 rfl) ?_
    refine lv_if_ge (tgt := 50) hx hb dX10_bid_40 (by decide) (fun z => ?_) (fun z => ?_)
    · have hf := it_pos z hf
      refine lv_aload_n hx hb dX10_bid_50 rfl (lv_at hl 1 rfl) ?_
      obtain ⟨r6, u5, h4, hf⟩ := ob_some hf
      refine endI okM hw (runV_ok (As := []) (rest := []) okM hc hw (c_X10_isOpen l ev u h4 H.size) kv_X10_isOpen ml_X10_160 (rvM0 ev u) hl.1 rfl rfl (Nat.le_of_ble_eq_true rfl) (rm_le (by decide) (by decide)) dX10_bid_51) (fun H locs hw => ?_)
      refine lv_if_ne (tgt := 70) hx hb dX10_bid_54 (by decide) (fun z => ?_) (fun z => ?_)
      · have hf := it_neg z hf
        refine lv_bipush (v := (8 : Int32)) hx hb dX10_bid_70 (by decide) ?_
        refine lv_iload_n hx hb dX10_bid_72 rfl (lv_at hl 3 rfl) ?_
        refine lv_imul hx hb dX10_bid_73 ?_
        refine lv_iload_n hx hb dX10_bid_74 rfl (lv_at hl 2 rfl) ?_
        refine lv_iadd hx hb dX10_bid_75 ?_
        obtain ⟨x7, ex7, hf⟩ := lt_some hf
        refine tope ex7 ?_
        refine lv_istore (lv' := [(11, .int x7), (10, .int q0), (0, .ref (ev.2.1 0)), (1, .int b1), (2, .int b2), (3, .int b3), (4, .int b4), (5, .int b5), (6, .int b6), (7, .int b7), (8, .int b8), (9, .int b9)]) hx hb dX10_bid_76 hl (by decide) rfl (fun ls hl => ?_)
        refine lv_aload_n hx hb dX10_bid_78 rfl (lv_at hl 2 rfl) ?_
        refine gM0_4 hc hw fl_X10_20 dX10_bid_79 ?_
        refine lv_iload hx hb dX10_bid_82 (lv_at hl 0 rfl) ?_
        obtain ⟨z, hf⟩ := oi_some hf
        refine aM2 hc hw z dX10_bid_84 ?_
        obtain ⟨x8, ex8, hf⟩ := lt_some hf
        refine tope ex8 ?_
        refine lv_istore (lv' := [(12, .int x8), (11, .int x7), (10, .int q0), (0, .ref (ev.2.1 0)), (1, .int b1), (2, .int b2), (3, .int b3), (4, .int b4), (5, .int b5), (6, .int b6), (7, .int b7), (8, .int b8), (9, .int b9)]) hx hb dX10_bid_85 hl (by decide) rfl (fun ls hl => ?_)
        refine lv_aload_n hx hb dX10_bid_87 rfl (lv_at hl 3 rfl) ?_
        refine gM0_4 hc hw fl_X10_20 dX10_bid_88 ?_
        refine lv_iload hx hb dX10_bid_91 (lv_at hl 1 rfl) ?_
        refine lv_iconst (v := (1 : Int32)) hx hb dX10_bid_93 (by decide) ?_
        obtain ⟨z, hf⟩ := oi_some hf
        refine tM2 hc hw z dX10_bid_94 (fun H locs hw => ?_)
        obtain ⟨u9, eu9, hf⟩ := lt_some hf
        have hw := VW.nm eu9 hw
        refine lv_aload_n hx hb dX10_bid_95 rfl (lv_at hl 3 rfl) ?_
        refine gM0_10 hc hw fl_X10_39 dX10_bid_96 ?_
        refine lv_iload hx hb dX10_bid_99 (lv_at hl 1 rfl) ?_
        refine lv_iconst (v := (-1 : Int32)) hx hb dX10_bid_101 (by decide) ?_
        obtain ⟨z, hf⟩ := oi_some hf
        refine tM8 hc hw z dX10_bid_102 (fun H locs hw => ?_)
        obtain ⟨u10, eu10, hf⟩ := lt_some hf
        have hw := VW.nm eu10 hw
        refine lv_aload_n hx hb dX10_bid_103 rfl (lv_at hl 3 rfl) ?_
        refine gM0_5 hc hw fl_X10_24 dX10_bid_104 ?_
        refine lv_iload hx hb dX10_bid_107 (lv_at hl 1 rfl) ?_
        refine lv_iload_n hx hb dX10_bid_109 rfl (lv_at hl 6 rfl) ?_
        obtain ⟨z, hf⟩ := oi_some hf
        refine tM3 hc hw z dX10_bid_110 (fun H locs hw => ?_)
        obtain ⟨u11, eu11, hf⟩ := lt_some hf
        have hw := VW.nm eu11 hw
        refine lv_aload_n hx hb dX10_bid_111 rfl (lv_at hl 3 rfl) ?_
        refine gM0_6 hc hw fl_X10_27 dX10_bid_112 ?_
        refine lv_iconst (v := (4 : Int32)) hx hb dX10_bid_115 (by decide) ?_
        refine lv_iload hx hb dX10_bid_116 (lv_at hl 1 rfl) ?_
        refine lv_imul hx hb dX10_bid_118 ?_
        refine lv_iload hx hb dX10_bid_119 (lv_at hl 7 rfl) ?_
        obtain ⟨z, hf⟩ := oi_some hf
        refine tM4 hc hw z dX10_bid_121 (fun H locs hw => ?_)
        obtain ⟨u12, eu12, hf⟩ := lt_some hf
        have hw := VW.nm eu12 hw
        refine lv_aload_n hx hb dX10_bid_122 rfl (lv_at hl 3 rfl) ?_
        refine gM0_6 hc hw fl_X10_27 dX10_bid_123 ?_
        refine lv_iconst (v := (4 : Int32)) hx hb dX10_bid_126 (by decide) ?_
        refine lv_iload hx hb dX10_bid_127 (lv_at hl 1 rfl) ?_
        refine lv_imul hx hb dX10_bid_129 ?_
        refine lv_iconst (v := (1 : Int32)) hx hb dX10_bid_130 (by decide) ?_
        refine lv_iadd hx hb dX10_bid_131 ?_
        refine lv_iload hx hb dX10_bid_132 (lv_at hl 8 rfl) ?_
        obtain ⟨z, hf⟩ := oi_some hf
        refine tM4 hc hw z dX10_bid_134 (fun H locs hw => ?_)
        obtain ⟨u13, eu13, hf⟩ := lt_some hf
        have hw := VW.nm eu13 hw
        refine lv_aload_n hx hb dX10_bid_135 rfl (lv_at hl 3 rfl) ?_
        refine gM0_6 hc hw fl_X10_27 dX10_bid_136 ?_
        refine lv_iconst (v := (4 : Int32)) hx hb dX10_bid_139 (by decide) ?_
        refine lv_iload hx hb dX10_bid_140 (lv_at hl 1 rfl) ?_
        refine lv_imul hx hb dX10_bid_142 ?_
        refine lv_iconst (v := (2 : Int32)) hx hb dX10_bid_143 (by decide) ?_
        refine lv_iadd hx hb dX10_bid_144 ?_
        refine lv_iload hx hb dX10_bid_145 (lv_at hl 9 rfl) ?_
        obtain ⟨z, hf⟩ := oi_some hf
        refine tM4 hc hw z dX10_bid_147 (fun H locs hw => ?_)
        obtain ⟨u14, eu14, hf⟩ := lt_some hf
        have hw := VW.nm eu14 hw
        refine lv_aload_n hx hb dX10_bid_148 rfl (lv_at hl 3 rfl) ?_
        refine gM0_6 hc hw fl_X10_27 dX10_bid_149 ?_
        refine lv_iconst (v := (4 : Int32)) hx hb dX10_bid_152 (by decide) ?_
        refine lv_iload hx hb dX10_bid_153 (lv_at hl 1 rfl) ?_
        refine lv_imul hx hb dX10_bid_155 ?_
        refine lv_iconst (v := (3 : Int32)) hx hb dX10_bid_156 (by decide) ?_
        refine lv_iadd hx hb dX10_bid_157 ?_
        refine lv_iload hx hb dX10_bid_158 (lv_at hl 10 rfl) ?_
        obtain ⟨z, hf⟩ := oi_some hf
        refine tM4 hc hw z dX10_bid_160 (fun H locs hw => ?_)
        obtain ⟨u15, eu15, hf⟩ := lt_some hf
        have hw := VW.nm eu15 hw
        refine lv_aload_n hx hb dX10_bid_161 rfl (lv_at hl 3 rfl) ?_
        refine gM0_7 hc hw fl_X10_30 dX10_bid_162 ?_
        refine lv_iload hx hb dX10_bid_165 (lv_at hl 1 rfl) ?_
        refine lv_iload hx hb dX10_bid_167 (lv_at hl 11 rfl) ?_
        obtain ⟨z, hf⟩ := oi_some hf
        refine tM5 hc hw z dX10_bid_169 (fun H locs hw => ?_)
        obtain ⟨u16, eu16, hf⟩ := lt_some hf
        have hw := VW.nm eu16 hw
        refine lv_aload_n hx hb dX10_bid_170 rfl (lv_at hl 3 rfl) ?_
        refine gM0_8 hc hw fl_X10_33 dX10_bid_171 ?_
        refine lv_iload hx hb dX10_bid_174 (lv_at hl 1 rfl) ?_
        refine lv_iload hx hb dX10_bid_176 (lv_at hl 12 rfl) ?_
        obtain ⟨z, hf⟩ := oi_some hf
        refine tM6 hc hw z dX10_bid_178 (fun H locs hw => ?_)
        obtain ⟨u17, eu17, hf⟩ := lt_some hf
        have hw := VW.nm eu17 hw
        refine lv_iload hx hb dX10_bid_179 (lv_at hl 0 rfl) ?_
        refine lv_if_eq (tgt := 188) hx hb dX10_bid_181 (by decide) (fun z => ?_) (fun z => ?_)
        · have hf := it_pos z hf
          refine lv_iconst (v := (1 : Int32)) hx hb dX10_bid_188 (by decide) ?_
          exact retI hc hr hlk hw hf dX10_bid_189
        · have hf := it_neg z hf
          refine lv_iconst (v := (0 : Int32)) hx hb dX10_bid_184 (by decide) ?_
          refine lv_goto (tgt := 189) hx hb dX10_bid_185 (by decide) ?_
          exact retI hc hr hlk hw hf dX10_bid_189
      · have hf := it_pos z hf
        refine lv_aload_n hx hb dX10_bid_57 rfl (lv_at hl 1 rfl) ?_
        refine lv_dup hx hb dX10_bid_58 rfl ?_
        refine gM0_14 hc hw fl_X10_177 dX10_bid_59 ?_
        refine lv_iconst (v := (1 : Int32)) hx hb dX10_bid_62 (by decide) ?_
        refine lv_iadd hx hb dX10_bid_63 ?_
        refine pM0_14 hc hw fl_X10_177 dX10_bid_64 (fun H locs hw => ?_)
        obtain ⟨u18, eu18, hf⟩ := lt_some hf
        have hw := VW.nm eu18 hw
        refine lv_bipush (v := (-9 : Int32)) hx hb dX10_bid_67 (by decide) ?_
        exact retI hc hr hlk hw hf dX10_bid_69
    · have hf := it_neg z hf
      refine lv_aload_n hx hb dX10_bid_43 rfl (lv_at hl 1 rfl) ?_
      refine lv_iload hx hb dX10_bid_44 (lv_at hl 0 rfl) ?_
      obtain ⟨r21, u20, h19, hf⟩ := ob_some hf
      refine endI okM hw (runV_ok (As := [.int q0]) (rest := []) okM hc hw (c_X10_refuse l ev q0 u h19 H.size) kv_X10_refuse ml_X10_151 (rvM0 ev u) hl.1 rfl rfl (Nat.le_of_ble_eq_true rfl) (rm_le (by decide) (by decide)) dX10_bid_46) (fun H locs hw => ?_)
      exact retI hc hr hlk hw hf dX10_bid_49
  have wL15 : ∀ (b1 : Int32) (b2 : Int32) (b3 : Int32) (b4 : Int32) (b5 : Int32) (b6 : Int32) (b7 : Int32) (b8 : Int32) (b9 : Int32) (u : SS) (H : Heap) (locs : List Loc) (ls : Array Slot), VW wdM ev s u H locs → lv_has ls 13 [(0, .ref (ev.2.1 0)), (1, .int b1), (2, .int b2), (3, .int b3), (4, .int b4), (5, .int b5), (6, .int b6), (7, .int b7), (8, .int b8), (9, .int b9)] → f_X10_bid_L15 b1 b2 b3 b4 b5 b6 b7 b8 b9 u = some (r, u') → W p l e (rmk 2) s m av below meth cd H locs 0 0 (ZI wdM ev s below av r u') (F0 m 15 ls []) := by
    intro b1 b2 b3 b4 b5 b6 b7 b8 b9 u H locs ls hw hl hf
    unfold f_X10_bid_L15 at hf
    refine lv_iconst (v := (-1 : Int32)) hx hb dX10_bid_15 (by decide) ?_
    refine lv_goto (tgt := 36) hx hb dX10_bid_16 (by decide) ?_
    exact wL36 b1 b2 b3 b4 b5 b6 b7 b8 b9 (-1 : Int32) u H locs ls hw (lv_sub hl [0, 1, 2, 3, 4, 5, 6, 7, 8, 9] rfl) hf
  unfold f_X10_bid at hf
  refine lv_iload_n hx hb dX10_bid_0 rfl (lv_at hl 1 rfl) ?_
  obtain ⟨r3, u2, h1, hf⟩ := ob_some hf
  refine endI okM hw (runS_ok (As := [.int a1]) (rest := []) okM hc hw (c_X10_isBidder l ev a1 u h1 H.size) ks_X10_isBidder ml_X10_166 hl.1 rfl rfl (Nat.le_of_ble_eq_true rfl) (rm_le (by decide) (by decide)) dX10_bid_1) (fun H locs hw => ?_)
  refine lv_if_eq (tgt := 15) hx hb dX10_bid_4 (by decide) (fun z => ?_) (fun z => ?_)
  · have hf := it_pos z hf
    exact wL15 a1 a2 a3 a4 a5 a6 a7 a8 a9 u2 H locs ls hw (lv_sub hl [0, 1, 2, 3, 4, 5, 6, 7, 8, 9] rfl) hf
  · have hf := it_neg z hf
    refine lv_aload_n hx hb dX10_bid_7 rfl (lv_at hl 0 rfl) ?_
    refine lv_iload_n hx hb dX10_bid_8 rfl (lv_at hl 2 rfl) ?_
    obtain ⟨r24, u23, h22, hf⟩ := ob_some hf
    refine endI okM hw (runV_ok (As := [.int a2]) (rest := []) okM hc hw (c_X10_isLot l ev a2 u2 h22 H.size) kv_X10_isLot ml_X10_170 (rvM0 ev u2) hl.1 rfl rfl (Nat.le_of_ble_eq_true rfl) (rm_le (by decide) (by decide)) dX10_bid_9) (fun H locs hw => ?_)
    refine lv_if_ne (tgt := 19) hx hb dX10_bid_12 (by decide) (fun z => ?_) (fun z => ?_)
    · have hf := it_neg z hf
      refine lv_aload_n hx hb dX10_bid_19 rfl (lv_at hl 0 rfl) ?_
      refine lv_iload_n hx hb dX10_bid_20 rfl (lv_at hl 3 rfl) ?_
      refine lv_iload hx hb dX10_bid_21 (lv_at hl 4 rfl) ?_
      refine lv_iload hx hb dX10_bid_23 (lv_at hl 5 rfl) ?_
      refine lv_iload hx hb dX10_bid_25 (lv_at hl 6 rfl) ?_
      refine lv_iload hx hb dX10_bid_27 (lv_at hl 7 rfl) ?_
      refine lv_iload hx hb dX10_bid_29 (lv_at hl 8 rfl) ?_
      refine lv_iload hx hb dX10_bid_31 (lv_at hl 9 rfl) ?_
      obtain ⟨r27, u26, h25, hf⟩ := ob_some hf
      refine endI okM hw (runV_ok (As := [.int a3, .int a4, .int a5, .int a6, .int a7, .int a8, .int a9]) (rest := []) okM hc hw (c_X10_wrongBid l ev a3 a4 a5 a6 a7 a8 a9 u23 h25 H.size) kv_X10_wrongBid ml_X10_173 (rvM0 ev u23) hl.1 rfl rfl (Nat.le_of_ble_eq_true rfl) (rm_le (by decide) (by decide)) dX10_bid_33) (fun H locs hw => ?_)
      exact wL36 a1 a2 a3 a4 a5 a6 a7 a8 a9 r27 u26 H locs ls hw (lv_sub hl [0, 1, 2, 3, 4, 5, 6, 7, 8, 9] rfl) hf
    · have hf := it_pos z hf
      exact wL15 a1 a2 a3 a4 a5 a6 a7 a8 a9 u23 H locs ls hw (lv_sub hl [0, 1, 2, 3, 4, 5, 6, 7, 8, 9] rfl) hf
def f_X10_lacks (a1 : Int32) (a2 : Int32) (u : SS) : Option (Int32 × SS) :=
  ob (f_X10_isBidder a1 u) fun r3 u2 => if r3 = 0 then (some ((-1 : Int32), u2)) else (ob (f_X10_isLot a2 u2) fun r6 u5 => if r6 = 0 then (some ((-1 : Int32), u5)) else (oi (((8 : Int32) * a2) + a1) 48 (if (gA u5 1 (((8 : Int32) * a2) + a1).toNatClampNeg) = 0 then (some ((-5 : Int32), u5)) else (some ((0 : Int32), u5)))))
set_option maxHeartbeats 4000000 in
set_option maxRecDepth 100000 in
theorem c_X10_lacks (l : Launch) (ev : EV) (a1 : Int32) (a2 : Int32) (u : SS) {r : Int32} {u' : SS} (hf : f_X10_lacks a1 a2 u = some (r, u')) : MI wdM l yX10_lacks cX10_lacks 3 (some .int) 2 ev [.ref (ev.2.1 0), .int a1, .int a2] u r u' := by
  refine bodyI (by decide +kernel) rfl (Nat.le_of_ble_eq_true rfl) ?_
  intro p e s m below meth cd ls H locs hc hr hlk hw hl
  generalize hav : (List.toArray [.ref (ev.2.1 0), .int a1, .int a2] : Array Value) = av at hc ⊢
  obtain ⟨hx, hb, hml, hown, hts, hK, hZ⟩ := id hc
  have hl : lv_has ls 3 [(0, .ref (ev.2.1 0)), (1, .int a1), (2, .int a2)] := hl
  unfold f_X10_lacks at hf
  refine lv_iload_n hx hb dX10_lacks_0 rfl (lv_at hl 1 rfl) ?_
  obtain ⟨r3, u2, h1, hf⟩ := ob_some hf
  refine endI okM hw (runS_ok (As := [.int a1]) (rest := []) okM hc hw (c_X10_isBidder l ev a1 u h1 H.size) ks_X10_isBidder ml_X10_166 hl.1 rfl rfl (Nat.le_of_ble_eq_true rfl) (rm_le (by decide) (by decide)) dX10_lacks_1) (fun H locs hw => ?_)
  refine lv_if_eq (tgt := 15) hx hb dX10_lacks_4 (by decide) (fun z => ?_) (fun z => ?_)
  · have hf := it_pos z hf
    refine lv_iconst (v := (-1 : Int32)) hx hb dX10_lacks_15 (by decide) ?_
    refine lv_goto (tgt := 39) hx hb dX10_lacks_16 (by decide) ?_
    exact retI hc hr hlk hw hf dX10_lacks_39
  · have hf := it_neg z hf
    refine lv_aload_n hx hb dX10_lacks_7 rfl (lv_at hl 0 rfl) ?_
    refine lv_iload_n hx hb dX10_lacks_8 rfl (lv_at hl 2 rfl) ?_
    obtain ⟨r6, u5, h4, hf⟩ := ob_some hf
    refine endI okM hw (runV_ok (As := [.int a2]) (rest := []) okM hc hw (c_X10_isLot l ev a2 u2 h4 H.size) kv_X10_isLot ml_X10_170 (rvM0 ev u2) hl.1 rfl rfl (Nat.le_of_ble_eq_true rfl) (rm_le (by decide) (by decide)) dX10_lacks_9) (fun H locs hw => ?_)
    refine lv_if_ne (tgt := 19) hx hb dX10_lacks_12 (by decide) (fun z => ?_) (fun z => ?_)
    · have hf := it_neg z hf
      refine lv_aload_n hx hb dX10_lacks_19 rfl (lv_at hl 0 rfl) ?_
      refine gM0_4 hc hw fl_X10_20 dX10_lacks_20 ?_
      refine lv_bipush (v := (8 : Int32)) hx hb dX10_lacks_23 (by decide) ?_
      refine lv_iload_n hx hb dX10_lacks_25 rfl (lv_at hl 2 rfl) ?_
      refine lv_imul hx hb dX10_lacks_26 ?_
      refine lv_iload_n hx hb dX10_lacks_27 rfl (lv_at hl 1 rfl) ?_
      refine lv_iadd hx hb dX10_lacks_28 ?_
      obtain ⟨z, hf⟩ := oi_some hf
      refine aM2 hc hw z dX10_lacks_29 ?_
      refine lv_if_eq (tgt := 37) hx hb dX10_lacks_30 (by decide) (fun z => ?_) (fun z => ?_)
      · have hf := it_pos z hf
        refine lv_bipush (v := (-5 : Int32)) hx hb dX10_lacks_37 (by decide) ?_
        exact retI hc hr hlk hw hf dX10_lacks_39
      · have hf := it_neg z hf
        refine lv_iconst (v := (0 : Int32)) hx hb dX10_lacks_33 (by decide) ?_
        refine lv_goto (tgt := 39) hx hb dX10_lacks_34 (by decide) ?_
        exact retI hc hr hlk hw hf dX10_lacks_39
    · have hf := it_pos z hf
      refine lv_iconst (v := (-1 : Int32)) hx hb dX10_lacks_15 (by decide) ?_
      refine lv_goto (tgt := 39) hx hb dX10_lacks_16 (by decide) ?_
      exact retI hc hr hlk hw hf dX10_lacks_39
def f_X10_withdraw (a1 : Int32) (a2 : Int32) (u : SS) : Option (Int32 × SS) :=
  ob (f_X10_lacks a1 a2 u) fun r3 u2 => if 0 ≤ r3 then (ob (f_X10_isOpen u2) fun r6 u5 => if r6 = 0 then (lt (sI u5 3 ((gI u5 3) + (1 : Int32))) fun u9 => some ((-9 : Int32), u9)) else (oi (((8 : Int32) * a2) + a1) 48 (lt (tZ u5 1 (((8 : Int32) * a2) + a1) (0 : Int32)) fun u7 => oi (((8 : Int32) * a2) + a1) 48 (lt (tA u7 7 (((8 : Int32) * a2) + a1) (-1 : Int32)) fun u8 => some ((1 : Int32), u8))))) else (ob (f_X10_refuse r3 u2) fun r12 u11 => some (r12, u11))
set_option maxHeartbeats 4000000 in
set_option maxRecDepth 100000 in
theorem c_X10_withdraw (l : Launch) (ev : EV) (a1 : Int32) (a2 : Int32) (u : SS) {r : Int32} {u' : SS} (hf : f_X10_withdraw a1 a2 u = some (r, u')) : MI wdM l yX10_withdraw cX10_withdraw 4 (some .int) 3 ev [.ref (ev.2.1 0), .int a1, .int a2] u r u' := by
  refine bodyI (by decide +kernel) rfl (Nat.le_of_ble_eq_true rfl) ?_
  intro p e s m below meth cd ls H locs hc hr hlk hw hl
  generalize hav : (List.toArray [.ref (ev.2.1 0), .int a1, .int a2] : Array Value) = av at hc ⊢
  obtain ⟨hx, hb, hml, hown, hts, hK, hZ⟩ := id hc
  have hl : lv_has ls 4 [(0, .ref (ev.2.1 0)), (1, .int a1), (2, .int a2)] := hl
  unfold f_X10_withdraw at hf
  refine lv_aload_n hx hb dX10_withdraw_0 rfl (lv_at hl 0 rfl) ?_
  refine lv_iload_n hx hb dX10_withdraw_1 rfl (lv_at hl 1 rfl) ?_
  refine lv_iload_n hx hb dX10_withdraw_2 rfl (lv_at hl 2 rfl) ?_
  obtain ⟨r3, u2, h1, hf⟩ := ob_some hf
  refine endI okM hw (runV_ok (As := [.int a1, .int a2]) (rest := []) okM hc hw (c_X10_lacks l ev a1 a2 u h1 H.size) kv_X10_lacks ml_X10_180 (rvM0 ev u) hl.1 rfl rfl (Nat.le_of_ble_eq_true rfl) (rm_le (by decide) (by decide)) dX10_withdraw_3) (fun H locs hw => ?_)
  refine lv_istore_n (lv' := [(3, .int r3), (0, .ref (ev.2.1 0)), (1, .int a1), (2, .int a2)]) hx hb dX10_withdraw_6 rfl hl (by decide) rfl (fun ls hl => ?_)
  refine lv_iload_n hx hb dX10_withdraw_7 rfl (lv_at hl 0 rfl) ?_
  refine lv_if_ge (tgt := 17) hx hb dX10_withdraw_8 (by decide) (fun z => ?_) (fun z => ?_)
  · have hf := it_pos z hf
    refine lv_aload_n hx hb dX10_withdraw_17 rfl (lv_at hl 1 rfl) ?_
    obtain ⟨r6, u5, h4, hf⟩ := ob_some hf
    refine endI okM hw (runV_ok (As := []) (rest := []) okM hc hw (c_X10_isOpen l ev u2 h4 H.size) kv_X10_isOpen ml_X10_160 (rvM0 ev u2) hl.1 rfl rfl (Nat.le_of_ble_eq_true rfl) (rm_le (by decide) (by decide)) dX10_withdraw_18) (fun H locs hw => ?_)
    refine lv_if_ne (tgt := 37) hx hb dX10_withdraw_21 (by decide) (fun z => ?_) (fun z => ?_)
    · have hf := it_neg z hf
      refine lv_aload_n hx hb dX10_withdraw_37 rfl (lv_at hl 1 rfl) ?_
      refine gM0_4 hc hw fl_X10_20 dX10_withdraw_38 ?_
      refine lv_bipush (v := (8 : Int32)) hx hb dX10_withdraw_41 (by decide) ?_
      refine lv_iload_n hx hb dX10_withdraw_43 rfl (lv_at hl 3 rfl) ?_
      refine lv_imul hx hb dX10_withdraw_44 ?_
      refine lv_iload_n hx hb dX10_withdraw_45 rfl (lv_at hl 2 rfl) ?_
      refine lv_iadd hx hb dX10_withdraw_46 ?_
      refine lv_iconst (v := (0 : Int32)) hx hb dX10_withdraw_47 (by decide) ?_
      obtain ⟨z, hf⟩ := oi_some hf
      refine tM2 hc hw z dX10_withdraw_48 (fun H locs hw => ?_)
      obtain ⟨u7, eu7, hf⟩ := lt_some hf
      have hw := VW.nm eu7 hw
      refine lv_aload_n hx hb dX10_withdraw_49 rfl (lv_at hl 1 rfl) ?_
      refine gM0_10 hc hw fl_X10_39 dX10_withdraw_50 ?_
      refine lv_bipush (v := (8 : Int32)) hx hb dX10_withdraw_53 (by decide) ?_
      refine lv_iload_n hx hb dX10_withdraw_55 rfl (lv_at hl 3 rfl) ?_
      refine lv_imul hx hb dX10_withdraw_56 ?_
      refine lv_iload_n hx hb dX10_withdraw_57 rfl (lv_at hl 2 rfl) ?_
      refine lv_iadd hx hb dX10_withdraw_58 ?_
      refine lv_iconst (v := (-1 : Int32)) hx hb dX10_withdraw_59 (by decide) ?_
      obtain ⟨z, hf⟩ := oi_some hf
      refine tM8 hc hw z dX10_withdraw_60 (fun H locs hw => ?_)
      obtain ⟨u8, eu8, hf⟩ := lt_some hf
      have hw := VW.nm eu8 hw
      refine lv_iconst (v := (1 : Int32)) hx hb dX10_withdraw_61 (by decide) ?_
      exact retI hc hr hlk hw hf dX10_withdraw_62
    · have hf := it_pos z hf
      refine lv_aload_n hx hb dX10_withdraw_24 rfl (lv_at hl 1 rfl) ?_
      refine lv_dup hx hb dX10_withdraw_25 rfl ?_
      refine gM0_14 hc hw fl_X10_177 dX10_withdraw_26 ?_
      refine lv_iconst (v := (1 : Int32)) hx hb dX10_withdraw_29 (by decide) ?_
      refine lv_iadd hx hb dX10_withdraw_30 ?_
      refine pM0_14 hc hw fl_X10_177 dX10_withdraw_31 (fun H locs hw => ?_)
      obtain ⟨u9, eu9, hf⟩ := lt_some hf
      have hw := VW.nm eu9 hw
      refine lv_bipush (v := (-9 : Int32)) hx hb dX10_withdraw_34 (by decide) ?_
      exact retI hc hr hlk hw hf dX10_withdraw_36
  · have hf := it_neg z hf
    refine lv_aload_n hx hb dX10_withdraw_11 rfl (lv_at hl 1 rfl) ?_
    refine lv_iload_n hx hb dX10_withdraw_12 rfl (lv_at hl 0 rfl) ?_
    obtain ⟨r12, u11, h10, hf⟩ := ob_some hf
    refine endI okM hw (runV_ok (As := [.int r3]) (rest := []) okM hc hw (c_X10_refuse l ev r3 u2 h10 H.size) kv_X10_refuse ml_X10_151 (rvM0 ev u2) hl.1 rfl rfl (Nat.le_of_ble_eq_true rfl) (rm_le (by decide) (by decide)) dX10_withdraw_13) (fun H locs hw => ?_)
    exact retI hc hr hlk hw hf dX10_withdraw_16
def f_X10_set_L38 (b1 : Int32) (b2 : Int32) (q0 : Int32) (q1 : Int32) (u : SS) : Option (Int32 × SS) :=
  if q1 ≤ q0 then (oi b1 4 (lt (gA u 8 b1.toNatClampNeg) fun x4 => oi b1 4 (lt (tA u 8 b1 b2) fun u5 => lt (sI u5 16 (0 : Int32)) fun u6 => some (x4, u6)))) else (ob (f_X10_refuse (-6 : Int32) u) fun r9 u8 => some (r9, u8))
def f_X10_set (a1 : Int32) (a2 : Int32) (u : SS) : Option (Int32 × SS) :=
  ob (f_X10_in a1 (0 : Int32) (3 : Int32) u) fun r3 u2 => if r3 = 0 then (ob (f_X10_refuse (-2 : Int32) u2) fun r15 u14 => some (r15, u14)) else (if 0 ≤ a2 then (if a1 = 0 then (f_X10_set_L38 a1 a2 (2 : Int32) a2 u2) else (f_X10_set_L38 a1 a2 (100 : Int32) a2 u2)) else (ob (f_X10_refuse (-4 : Int32) u2) fun r12 u11 => some (r12, u11)))
set_option maxHeartbeats 4000000 in
set_option maxRecDepth 100000 in
theorem c_X10_set (l : Launch) (ev : EV) (a1 : Int32) (a2 : Int32) (u : SS) {r : Int32} {u' : SS} (hf : f_X10_set a1 a2 u = some (r, u')) : MI wdM l yX10_set cX10_set 4 (some .int) 1 ev [.ref (ev.2.1 0), .int a1, .int a2] u r u' := by
  refine bodyI (by decide +kernel) rfl (Nat.le_of_ble_eq_true rfl) ?_
  intro p e s m below meth cd ls H locs hc hr hlk hw hl
  generalize hav : (List.toArray [.ref (ev.2.1 0), .int a1, .int a2] : Array Value) = av at hc ⊢
  obtain ⟨hx, hb, hml, hown, hts, hK, hZ⟩ := id hc
  have hl : lv_has ls 4 [(0, .ref (ev.2.1 0)), (1, .int a1), (2, .int a2)] := hl
  have wL38 : ∀ (b1 : Int32) (b2 : Int32) (q0 : Int32) (q1 : Int32) (u : SS) (H : Heap) (locs : List Loc) (ls : Array Slot), VW wdM ev s u H locs → lv_has ls 4 [(0, .ref (ev.2.1 0)), (1, .int b1), (2, .int b2)] → f_X10_set_L38 b1 b2 q0 q1 u = some (r, u') → W p l e (rmk 1) s m av below meth cd H locs 0 0 (ZI wdM ev s below av r u') (F0 m 38 ls [.int q0, .int q1]) := by
    intro b1 b2 q0 q1 u H locs ls hw hl hf
    unfold f_X10_set_L38 at hf
    refine lv_icmp_le (tgt := 48) hx hb dX10_set_38 (by decide) (fun z => ?_) (fun z => ?_)
    · have hf := it_pos z hf
      refine lv_aload_n hx hb dX10_set_48 rfl (lv_at hl 0 rfl) ?_
      refine gM0_11 hc hw fl_X10_42 dX10_set_49 ?_
      refine lv_iload_n hx hb dX10_set_52 rfl (lv_at hl 1 rfl) ?_
      obtain ⟨z, hf⟩ := oi_some hf
      refine aM9 hc hw z dX10_set_53 ?_
      obtain ⟨x4, ex4, hf⟩ := lt_some hf
      refine tope ex4 ?_
      refine lv_istore_n (lv' := [(3, .int x4), (0, .ref (ev.2.1 0)), (1, .int b1), (2, .int b2)]) hx hb dX10_set_54 rfl hl (by decide) rfl (fun ls hl => ?_)
      refine lv_aload_n hx hb dX10_set_55 rfl (lv_at hl 1 rfl) ?_
      refine gM0_11 hc hw fl_X10_42 dX10_set_56 ?_
      refine lv_iload_n hx hb dX10_set_59 rfl (lv_at hl 2 rfl) ?_
      refine lv_iload_n hx hb dX10_set_60 rfl (lv_at hl 3 rfl) ?_
      obtain ⟨z, hf⟩ := oi_some hf
      refine tM9 hc hw z dX10_set_61 (fun H locs hw => ?_)
      obtain ⟨u5, eu5, hf⟩ := lt_some hf
      have hw := VW.nm eu5 hw
      refine lv_aload_n hx hb dX10_set_62 rfl (lv_at hl 1 rfl) ?_
      refine lv_iconst (v := (0 : Int32)) hx hb dX10_set_63 (by decide) ?_
      refine pM0_40 hc hw fl_X10_156 nz0 fz0 dX10_set_64 (fun H locs hw => ?_)
      obtain ⟨u6, eu6, hf⟩ := lt_some hf
      have hw := VW.nm eu6 hw
      refine lv_iload_n hx hb dX10_set_67 rfl (lv_at hl 0 rfl) ?_
      exact retI hc hr hlk hw hf dX10_set_68
    · have hf := it_neg z hf
      refine lv_aload_n hx hb dX10_set_41 rfl (lv_at hl 0 rfl) ?_
      refine lv_bipush (v := (-6 : Int32)) hx hb dX10_set_42 (by decide) ?_
      obtain ⟨r9, u8, h7, hf⟩ := ob_some hf
      refine endI okM hw (runV_ok (As := [.int (-6 : Int32)]) (rest := []) okM hc hw (c_X10_refuse l ev (-6 : Int32) u h7 H.size) kv_X10_refuse ml_X10_151 (rvM0 ev u) hl.1 rfl rfl (Nat.le_of_ble_eq_true rfl) (rm_le (by decide) (by decide)) dX10_set_44) (fun H locs hw => ?_)
      exact retI hc hr hlk hw hf dX10_set_47
  unfold f_X10_set at hf
  refine lv_iload_n hx hb dX10_set_0 rfl (lv_at hl 1 rfl) ?_
  refine lv_iconst (v := (0 : Int32)) hx hb dX10_set_1 (by decide) ?_
  refine lv_iconst (v := (3 : Int32)) hx hb dX10_set_2 (by decide) ?_
  obtain ⟨r3, u2, h1, hf⟩ := ob_some hf
  refine endI okM hw (runS_ok (As := [.int a1, .int (0 : Int32), .int (3 : Int32)]) (rest := []) okM hc hw (c_X10_in l ev a1 (0 : Int32) (3 : Int32) u h1 H.size) ks_X10_in ml_X10_144 hl.1 rfl rfl (Nat.le_of_ble_eq_true rfl) (rm_le (by decide) (by decide)) dX10_set_3) (fun H locs hw => ?_)
  refine lv_if_ne (tgt := 16) hx hb dX10_set_6 (by decide) (fun z => ?_) (fun z => ?_)
  · have hf := it_neg z hf
    refine lv_iload_n hx hb dX10_set_16 rfl (lv_at hl 2 rfl) ?_
    refine lv_if_ge (tgt := 27) hx hb dX10_set_17 (by decide) (fun z => ?_) (fun z => ?_)
    · have hf := it_pos z hf
      refine lv_iload_n hx hb dX10_set_27 rfl (lv_at hl 2 rfl) ?_
      refine lv_iload_n hx hb dX10_set_28 rfl (lv_at hl 1 rfl) ?_
      refine lv_if_ne (tgt := 36) hx hb dX10_set_29 (by decide) (fun z => ?_) (fun z => ?_)
      · have hf := it_neg z hf
        refine lv_bipush (v := (100 : Int32)) hx hb dX10_set_36 (by decide) ?_
        exact wL38 a1 a2 (100 : Int32) a2 u2 H locs ls hw (lv_sub hl [0, 1, 2] rfl) hf
      · have hf := it_pos z hf
        refine lv_iconst (v := (2 : Int32)) hx hb dX10_set_32 (by decide) ?_
        refine lv_goto (tgt := 38) hx hb dX10_set_33 (by decide) ?_
        exact wL38 a1 a2 (2 : Int32) a2 u2 H locs ls hw (lv_sub hl [0, 1, 2] rfl) hf
    · have hf := it_neg z hf
      refine lv_aload_n hx hb dX10_set_20 rfl (lv_at hl 0 rfl) ?_
      refine lv_bipush (v := (-4 : Int32)) hx hb dX10_set_21 (by decide) ?_
      obtain ⟨r12, u11, h10, hf⟩ := ob_some hf
      refine endI okM hw (runV_ok (As := [.int (-4 : Int32)]) (rest := []) okM hc hw (c_X10_refuse l ev (-4 : Int32) u2 h10 H.size) kv_X10_refuse ml_X10_151 (rvM0 ev u2) hl.1 rfl rfl (Nat.le_of_ble_eq_true rfl) (rm_le (by decide) (by decide)) dX10_set_23) (fun H locs hw => ?_)
      exact retI hc hr hlk hw hf dX10_set_26
  · have hf := it_pos z hf
    refine lv_aload_n hx hb dX10_set_9 rfl (lv_at hl 0 rfl) ?_
    refine lv_bipush (v := (-2 : Int32)) hx hb dX10_set_10 (by decide) ?_
    obtain ⟨r15, u14, h13, hf⟩ := ob_some hf
    refine endI okM hw (runV_ok (As := [.int (-2 : Int32)]) (rest := []) okM hc hw (c_X10_refuse l ev (-2 : Int32) u2 h13 H.size) kv_X10_refuse ml_X10_151 (rvM0 ev u2) hl.1 rfl rfl (Nat.le_of_ble_eq_true rfl) (rm_le (by decide) (by decide)) dX10_set_12) (fun H locs hw => ?_)
    exact retI hc hr hlk hw hf dX10_set_15
def f_X10_itemsOf (a1 : Int32) (u : SS) : Option (Int32 × SS) :=
  oi ((4 : Int32) * a1) 192 (oi (((4 : Int32) * a1) + (1 : Int32)) 192 (oi (((4 : Int32) * a1) + (2 : Int32)) 192 (oi (((4 : Int32) * a1) + (3 : Int32)) 192 (some (((((gA u 3 ((4 : Int32) * a1).toNatClampNeg) + (gA u 3 (((4 : Int32) * a1) + (1 : Int32)).toNatClampNeg)) + (gA u 3 (((4 : Int32) * a1) + (2 : Int32)).toNatClampNeg)) + (gA u 3 (((4 : Int32) * a1) + (3 : Int32)).toNatClampNeg)), u)))))
set_option maxHeartbeats 4000000 in
set_option maxRecDepth 100000 in
theorem c_X10_itemsOf (l : Launch) (ev : EV) (a1 : Int32) (u : SS) {r : Int32} {u' : SS} (hf : f_X10_itemsOf a1 u = some (r, u')) : MI wdM l yX10_itemsOf cX10_itemsOf 2 (some .int) 0 ev [.ref (ev.2.1 0), .int a1] u r u' := by
  refine bodyI (by decide +kernel) rfl (Nat.le_of_ble_eq_true rfl) ?_
  intro p e s m below meth cd ls H locs hc hr hlk hw hl
  generalize hav : (List.toArray [.ref (ev.2.1 0), .int a1] : Array Value) = av at hc ⊢
  obtain ⟨hx, hb, hml, hown, hts, hK, hZ⟩ := id hc
  have hl : lv_has ls 2 [(0, .ref (ev.2.1 0)), (1, .int a1)] := hl
  unfold f_X10_itemsOf at hf
  refine lv_aload_n hx hb dX10_itemsOf_0 rfl (lv_at hl 0 rfl) ?_
  refine gM0_6 hc hw fl_X10_27 dX10_itemsOf_1 ?_
  refine lv_iconst (v := (4 : Int32)) hx hb dX10_itemsOf_4 (by decide) ?_
  refine lv_iload_n hx hb dX10_itemsOf_5 rfl (lv_at hl 1 rfl) ?_
  refine lv_imul hx hb dX10_itemsOf_6 ?_
  obtain ⟨z, hf⟩ := oi_some hf
  refine aM4 hc hw z dX10_itemsOf_7 ?_
  refine lv_aload_n hx hb dX10_itemsOf_8 rfl (lv_at hl 0 rfl) ?_
  refine gM0_6 hc hw fl_X10_27 dX10_itemsOf_9 ?_
  refine lv_iconst (v := (4 : Int32)) hx hb dX10_itemsOf_12 (by decide) ?_
  refine lv_iload_n hx hb dX10_itemsOf_13 rfl (lv_at hl 1 rfl) ?_
  refine lv_imul hx hb dX10_itemsOf_14 ?_
  refine lv_iconst (v := (1 : Int32)) hx hb dX10_itemsOf_15 (by decide) ?_
  refine lv_iadd hx hb dX10_itemsOf_16 ?_
  obtain ⟨z, hf⟩ := oi_some hf
  refine aM4 hc hw z dX10_itemsOf_17 ?_
  refine lv_iadd hx hb dX10_itemsOf_18 ?_
  refine lv_aload_n hx hb dX10_itemsOf_19 rfl (lv_at hl 0 rfl) ?_
  refine gM0_6 hc hw fl_X10_27 dX10_itemsOf_20 ?_
  refine lv_iconst (v := (4 : Int32)) hx hb dX10_itemsOf_23 (by decide) ?_
  refine lv_iload_n hx hb dX10_itemsOf_24 rfl (lv_at hl 1 rfl) ?_
  refine lv_imul hx hb dX10_itemsOf_25 ?_
  refine lv_iconst (v := (2 : Int32)) hx hb dX10_itemsOf_26 (by decide) ?_
  refine lv_iadd hx hb dX10_itemsOf_27 ?_
  obtain ⟨z, hf⟩ := oi_some hf
  refine aM4 hc hw z dX10_itemsOf_28 ?_
  refine lv_iadd hx hb dX10_itemsOf_29 ?_
  refine lv_aload_n hx hb dX10_itemsOf_30 rfl (lv_at hl 0 rfl) ?_
  refine gM0_6 hc hw fl_X10_27 dX10_itemsOf_31 ?_
  refine lv_iconst (v := (4 : Int32)) hx hb dX10_itemsOf_34 (by decide) ?_
  refine lv_iload_n hx hb dX10_itemsOf_35 rfl (lv_at hl 1 rfl) ?_
  refine lv_imul hx hb dX10_itemsOf_36 ?_
  refine lv_iconst (v := (3 : Int32)) hx hb dX10_itemsOf_37 (by decide) ?_
  refine lv_iadd hx hb dX10_itemsOf_38 ?_
  obtain ⟨z, hf⟩ := oi_some hf
  refine aM4 hc hw z dX10_itemsOf_39 ?_
  refine lv_iadd hx hb dX10_itemsOf_40 ?_
  exact retI hc hr hlk hw hf dX10_itemsOf_41
def f_X10_priceOf_L58 (b1 : Int32) (q0 : Int32) (u : SS) : Option (Int32 × SS) :=
  oi b1 48 (oi (1 : Int32) 4 (lt ((q0 + (((((gA u 5 b1.toNatClampNeg).toInt64) * ((gA u 8 (1 : Int32).toNatClampNeg).toInt64)) / (100 : Int64)).toInt32)).toInt64) fun x4 => oi b1 48 (oi (gA u 2 b1.toNatClampNeg) 4 (lt (((x4 * ((gA u 0 (gA u 2 b1.toNatClampNeg).toNatClampNeg).toInt64)) / (1000 : Int64)).toInt32) fun x5 => if (1 : Int32) ≤ x5 then (some (x5, u)) else (some ((1 : Int32), u))))))
def f_X10_priceOf (a1 : Int32) (u : SS) : Option (Int32 × SS) :=
  ob (f_X10_itemsOf a1 u) fun r3 u2 => oi (0 : Int32) 4 (if (gA u2 8 (0 : Int32).toNatClampNeg) = 0 then (f_X10_priceOf_L58 a1 r3 u2) else (oi (0 : Int32) 4 (if (gA u2 8 (0 : Int32).toNatClampNeg) = (1 : Int32) then (oi a1 48 (f_X10_priceOf_L58 a1 (gA u2 4 a1.toNatClampNeg) u2)) else (oi a1 48 (if r3 ≤ (gA u2 4 a1.toNatClampNeg) then (oi a1 48 (f_X10_priceOf_L58 a1 (gA u2 4 a1.toNatClampNeg) u2)) else (f_X10_priceOf_L58 a1 r3 u2))))))
set_option maxHeartbeats 4000000 in
set_option maxRecDepth 100000 in
theorem c_X10_priceOf (l : Launch) (ev : EV) (a1 : Int32) (u : SS) {r : Int32} {u' : SS} (hf : f_X10_priceOf a1 u = some (r, u')) : MI wdM l yX10_priceOf cX10_priceOf 7 (some .int) 1 ev [.ref (ev.2.1 0), .int a1] u r u' := by
  refine bodyI (by decide +kernel) rfl (Nat.le_of_ble_eq_true rfl) ?_
  intro p e s m below meth cd ls H locs hc hr hlk hw hl
  generalize hav : (List.toArray [.ref (ev.2.1 0), .int a1] : Array Value) = av at hc ⊢
  obtain ⟨hx, hb, hml, hown, hts, hK, hZ⟩ := id hc
  have hl : lv_has ls 7 [(0, .ref (ev.2.1 0)), (1, .int a1)] := hl
  have wL58 : ∀ (b1 : Int32) (q0 : Int32) (u : SS) (H : Heap) (locs : List Loc) (ls : Array Slot), VW wdM ev s u H locs → lv_has ls 7 [(0, .ref (ev.2.1 0)), (1, .int b1)] → f_X10_priceOf_L58 b1 q0 u = some (r, u') → W p l e (rmk 1) s m av below meth cd H locs 0 0 (ZI wdM ev s below av r u') (F0 m 58 ls [.int q0]) := by
    intro b1 q0 u H locs ls hw hl hf
    unfold f_X10_priceOf_L58 at hf
    refine lv_istore_n (lv' := [(3, .int q0), (0, .ref (ev.2.1 0)), (1, .int b1)]) hx hb dX10_priceOf_58 rfl hl (by decide) rfl (fun ls hl => ?_)
    refine lv_iload_n hx hb dX10_priceOf_59 rfl (lv_at hl 0 rfl) ?_
    refine lv_aload_n hx hb dX10_priceOf_60 rfl (lv_at hl 1 rfl) ?_
    refine gM0_8 hc hw fl_X10_33 dX10_priceOf_61 ?_
    refine lv_iload_n hx hb dX10_priceOf_64 rfl (lv_at hl 2 rfl) ?_
    obtain ⟨z, hf⟩ := oi_some hf
    refine aM6 hc hw z dX10_priceOf_65 ?_
    refine lv_i2l (v := (gA u 5 b1.toNatClampNeg).toInt64) hx hb dX10_priceOf_66 rfl ?_
    refine lv_aload_n hx hb dX10_priceOf_67 rfl (lv_at hl 1 rfl) ?_
    refine gM0_11 hc hw fl_X10_42 dX10_priceOf_68 ?_
    refine lv_iconst (v := (1 : Int32)) hx hb dX10_priceOf_71 (by decide) ?_
    obtain ⟨z, hf⟩ := oi_some hf
    refine aM9 hc hw z dX10_priceOf_72 ?_
    refine lv_i2l (v := (gA u 8 (1 : Int32).toNatClampNeg).toInt64) hx hb dX10_priceOf_73 rfl ?_
    refine lv_lmul hx hb dX10_priceOf_74 ?_
    refine lv_ldc2 (v := (100 : Int64)) hx hb hown (hts _ ct_X10_187) dX10_priceOf_75 ?_
    refine lv_ldiv hx hb dX10_priceOf_78 (by decide) ?_
    refine lv_l2i (v := ((((gA u 5 b1.toNatClampNeg).toInt64) * ((gA u 8 (1 : Int32).toNatClampNeg).toInt64)) / (100 : Int64)).toInt32) hx hb dX10_priceOf_79 rfl ?_
    refine lv_iadd hx hb dX10_priceOf_80 ?_
    refine lv_i2l (v := (q0 + (((((gA u 5 b1.toNatClampNeg).toInt64) * ((gA u 8 (1 : Int32).toNatClampNeg).toInt64)) / (100 : Int64)).toInt32)).toInt64) hx hb dX10_priceOf_81 rfl ?_
    obtain ⟨x4, ex4, hf⟩ := lt_some hf
    refine topel ex4 ?_
    refine lv_lstore (lv' := [(4, .long x4), (3, .int q0), (0, .ref (ev.2.1 0)), (1, .int b1)]) hx hb dX10_priceOf_82 hl (by decide) rfl (fun ls hl => ?_)
    refine lv_lload hx hb dX10_priceOf_84 (lv_at hl 0 rfl) ?_
    refine lv_aload_n hx hb dX10_priceOf_86 rfl (lv_at hl 2 rfl) ?_
    refine gM0_2 hc hw fl_X10_13 dX10_priceOf_87 ?_
    refine lv_aload_n hx hb dX10_priceOf_90 rfl (lv_at hl 2 rfl) ?_
    refine gM0_5 hc hw fl_X10_24 dX10_priceOf_91 ?_
    refine lv_iload_n hx hb dX10_priceOf_94 rfl (lv_at hl 3 rfl) ?_
    obtain ⟨z, hf⟩ := oi_some hf
    refine aM3 hc hw z dX10_priceOf_95 ?_
    obtain ⟨z, hf⟩ := oi_some hf
    refine aM1 hc hw z dX10_priceOf_96 ?_
    refine lv_i2l (v := (gA u 0 (gA u 2 b1.toNatClampNeg).toNatClampNeg).toInt64) hx hb dX10_priceOf_97 rfl ?_
    refine lv_lmul hx hb dX10_priceOf_98 ?_
    refine lv_ldc2 (v := (1000 : Int64)) hx hb hown (hts _ ct_X10_189) dX10_priceOf_99 ?_
    refine lv_ldiv hx hb dX10_priceOf_102 (by decide) ?_
    refine lv_l2i (v := ((x4 * ((gA u 0 (gA u 2 b1.toNatClampNeg).toNatClampNeg).toInt64)) / (1000 : Int64)).toInt32) hx hb dX10_priceOf_103 rfl ?_
    obtain ⟨x5, ex5, hf⟩ := lt_some hf
    refine tope ex5 ?_
    refine lv_istore (lv' := [(6, .int x5), (4, .long x4), (3, .int q0), (0, .ref (ev.2.1 0)), (1, .int b1)]) hx hb dX10_priceOf_104 hl (by decide) rfl (fun ls hl => ?_)
    refine lv_iload hx hb dX10_priceOf_106 (lv_at hl 0 rfl) ?_
    refine lv_iconst (v := (1 : Int32)) hx hb dX10_priceOf_108 (by decide) ?_
    refine lv_icmp_ge (tgt := 116) hx hb dX10_priceOf_109 (by decide) (fun z => ?_) (fun z => ?_)
    · have hf := it_pos z hf
      refine lv_iload hx hb dX10_priceOf_116 (lv_at hl 0 rfl) ?_
      exact retI hc hr hlk hw hf dX10_priceOf_118
    · have hf := it_neg z hf
      refine lv_iconst (v := (1 : Int32)) hx hb dX10_priceOf_112 (by decide) ?_
      refine lv_goto (tgt := 118) hx hb dX10_priceOf_113 (by decide) ?_
      exact retI hc hr hlk hw hf dX10_priceOf_118
  unfold f_X10_priceOf at hf
  refine lv_aload_n hx hb dX10_priceOf_0 rfl (lv_at hl 0 rfl) ?_
  refine lv_iload_n hx hb dX10_priceOf_1 rfl (lv_at hl 1 rfl) ?_
  obtain ⟨r3, u2, h1, hf⟩ := ob_some hf
  refine endI okM hw (runV_ok (As := [.int a1]) (rest := []) okM hc hw (c_X10_itemsOf l ev a1 u h1 H.size) kv_X10_itemsOf ml_X10_184 (rvM0 ev u) hl.1 rfl rfl (Nat.le_of_ble_eq_true rfl) (rm_le (by decide) (by decide)) dX10_priceOf_2) (fun H locs hw => ?_)
  refine lv_istore_n (lv' := [(2, .int r3), (0, .ref (ev.2.1 0)), (1, .int a1)]) hx hb dX10_priceOf_5 rfl hl (by decide) rfl (fun ls hl => ?_)
  refine lv_aload_n hx hb dX10_priceOf_6 rfl (lv_at hl 1 rfl) ?_
  refine gM0_11 hc hw fl_X10_42 dX10_priceOf_7 ?_
  refine lv_iconst (v := (0 : Int32)) hx hb dX10_priceOf_10 (by decide) ?_
  obtain ⟨z, hf⟩ := oi_some hf
  refine aM9 hc hw z dX10_priceOf_11 ?_
  refine lv_if_ne (tgt := 19) hx hb dX10_priceOf_12 (by decide) (fun z => ?_) (fun z => ?_)
  · have hf := it_neg z hf
    refine lv_aload_n hx hb dX10_priceOf_19 rfl (lv_at hl 1 rfl) ?_
    refine gM0_11 hc hw fl_X10_42 dX10_priceOf_20 ?_
    refine lv_iconst (v := (0 : Int32)) hx hb dX10_priceOf_23 (by decide) ?_
    obtain ⟨z, hf⟩ := oi_some hf
    refine aM9 hc hw z dX10_priceOf_24 ?_
    refine lv_iconst (v := (1 : Int32)) hx hb dX10_priceOf_25 (by decide) ?_
    refine lv_icmp_ne (tgt := 38) hx hb dX10_priceOf_26 (by decide) (fun z => ?_) (fun z => ?_)
    · have hf := it_neg z hf
      refine lv_iload_n hx hb dX10_priceOf_38 rfl (lv_at hl 0 rfl) ?_
      refine lv_aload_n hx hb dX10_priceOf_39 rfl (lv_at hl 1 rfl) ?_
      refine gM0_7 hc hw fl_X10_30 dX10_priceOf_40 ?_
      refine lv_iload_n hx hb dX10_priceOf_43 rfl (lv_at hl 2 rfl) ?_
      obtain ⟨z, hf⟩ := oi_some hf
      refine aM5 hc hw z dX10_priceOf_44 ?_
      refine lv_icmp_le (tgt := 52) hx hb dX10_priceOf_45 (by decide) (fun z => ?_) (fun z => ?_)
      · have hf := it_pos z hf
        refine lv_aload_n hx hb dX10_priceOf_52 rfl (lv_at hl 1 rfl) ?_
        refine gM0_7 hc hw fl_X10_30 dX10_priceOf_53 ?_
        refine lv_iload_n hx hb dX10_priceOf_56 rfl (lv_at hl 2 rfl) ?_
        obtain ⟨z, hf⟩ := oi_some hf
        refine aM5 hc hw z dX10_priceOf_57 ?_
        exact wL58 a1 (gA u2 4 a1.toNatClampNeg) u2 H locs ls hw (lv_sub hl [1, 2] rfl) hf
      · have hf := it_neg z hf
        refine lv_iload_n hx hb dX10_priceOf_48 rfl (lv_at hl 0 rfl) ?_
        refine lv_goto (tgt := 58) hx hb dX10_priceOf_49 (by decide) ?_
        exact wL58 a1 r3 u2 H locs ls hw (lv_sub hl [1, 2] rfl) hf
    · have hf := it_pos z hf
      refine lv_aload_n hx hb dX10_priceOf_29 rfl (lv_at hl 1 rfl) ?_
      refine gM0_7 hc hw fl_X10_30 dX10_priceOf_30 ?_
      refine lv_iload_n hx hb dX10_priceOf_33 rfl (lv_at hl 2 rfl) ?_
      obtain ⟨z, hf⟩ := oi_some hf
      refine aM5 hc hw z dX10_priceOf_34 ?_
      refine lv_goto (tgt := 58) hx hb dX10_priceOf_35 (by decide) ?_
      exact wL58 a1 (gA u2 4 a1.toNatClampNeg) u2 H locs ls hw (lv_sub hl [1, 2] rfl) hf
  · have hf := it_pos z hf
    refine lv_iload_n hx hb dX10_priceOf_15 rfl (lv_at hl 0 rfl) ?_
    refine lv_goto (tgt := 58) hx hb dX10_priceOf_16 (by decide) ?_
    exact wL58 a1 r3 u2 H locs ls hw (lv_sub hl [1, 2] rfl) hf
def f_X10_price (a1 : Int32) (a2 : Int32) (u : SS) : Option (Int32 × SS) :=
  ob (f_X10_lacks a1 a2 u) fun r3 u2 => if 0 ≤ r3 then (ob (f_X10_priceOf (((8 : Int32) * a2) + a1) u2) fun r6 u5 => some (r6, u5)) else (ob (f_X10_refuse r3 u2) fun r9 u8 => some (r9, u8))
set_option maxHeartbeats 4000000 in
set_option maxRecDepth 100000 in
theorem c_X10_price (l : Launch) (ev : EV) (a1 : Int32) (a2 : Int32) (u : SS) {r : Int32} {u' : SS} (hf : f_X10_price a1 a2 u = some (r, u')) : MI wdM l yX10_price cX10_price 4 (some .int) 3 ev [.ref (ev.2.1 0), .int a1, .int a2] u r u' := by
  refine bodyI (by decide +kernel) rfl (Nat.le_of_ble_eq_true rfl) ?_
  intro p e s m below meth cd ls H locs hc hr hlk hw hl
  generalize hav : (List.toArray [.ref (ev.2.1 0), .int a1, .int a2] : Array Value) = av at hc ⊢
  obtain ⟨hx, hb, hml, hown, hts, hK, hZ⟩ := id hc
  have hl : lv_has ls 4 [(0, .ref (ev.2.1 0)), (1, .int a1), (2, .int a2)] := hl
  unfold f_X10_price at hf
  refine lv_aload_n hx hb dX10_price_0 rfl (lv_at hl 0 rfl) ?_
  refine lv_iload_n hx hb dX10_price_1 rfl (lv_at hl 1 rfl) ?_
  refine lv_iload_n hx hb dX10_price_2 rfl (lv_at hl 2 rfl) ?_
  obtain ⟨r3, u2, h1, hf⟩ := ob_some hf
  refine endI okM hw (runV_ok (As := [.int a1, .int a2]) (rest := []) okM hc hw (c_X10_lacks l ev a1 a2 u h1 H.size) kv_X10_lacks ml_X10_180 (rvM0 ev u) hl.1 rfl rfl (Nat.le_of_ble_eq_true rfl) (rm_le (by decide) (by decide)) dX10_price_3) (fun H locs hw => ?_)
  refine lv_istore_n (lv' := [(3, .int r3), (0, .ref (ev.2.1 0)), (1, .int a1), (2, .int a2)]) hx hb dX10_price_6 rfl hl (by decide) rfl (fun ls hl => ?_)
  refine lv_iload_n hx hb dX10_price_7 rfl (lv_at hl 0 rfl) ?_
  refine lv_if_ge (tgt := 19) hx hb dX10_price_8 (by decide) (fun z => ?_) (fun z => ?_)
  · have hf := it_pos z hf
    refine lv_aload_n hx hb dX10_price_19 rfl (lv_at hl 1 rfl) ?_
    refine lv_bipush (v := (8 : Int32)) hx hb dX10_price_20 (by decide) ?_
    refine lv_iload_n hx hb dX10_price_22 rfl (lv_at hl 3 rfl) ?_
    refine lv_imul hx hb dX10_price_23 ?_
    refine lv_iload_n hx hb dX10_price_24 rfl (lv_at hl 2 rfl) ?_
    refine lv_iadd hx hb dX10_price_25 ?_
    obtain ⟨r6, u5, h4, hf⟩ := ob_some hf
    refine endI okM hw (runV_ok (As := [.int (((8 : Int32) * a2) + a1)]) (rest := []) okM hc hw (c_X10_priceOf l ev (((8 : Int32) * a2) + a1) u2 h4 H.size) kv_X10_priceOf ml_X10_191 (rvM0 ev u2) hl.1 rfl rfl (Nat.le_of_ble_eq_true rfl) (rm_le (by decide) (by decide)) dX10_price_26) (fun H locs hw => ?_)
    exact retI hc hr hlk hw hf dX10_price_29
  · have hf := it_neg z hf
    refine lv_aload_n hx hb dX10_price_11 rfl (lv_at hl 1 rfl) ?_
    refine lv_iload_n hx hb dX10_price_12 rfl (lv_at hl 0 rfl) ?_
    obtain ⟨r9, u8, h7, hf⟩ := ob_some hf
    refine endI okM hw (runV_ok (As := [.int r3]) (rest := []) okM hc hw (c_X10_refuse l ev r3 u2 h7 H.size) kv_X10_refuse ml_X10_151 (rvM0 ev u2) hl.1 rfl rfl (Nat.le_of_ble_eq_true rfl) (rm_le (by decide) (by decide)) dX10_price_13) (fun H locs hw => ?_)
    refine lv_goto (tgt := 29) hx hb dX10_price_16 (by decide) ?_
    exact retI hc hr hlk hw hf dX10_price_29
def f_X10_isSilent (a1 : Int32) (u : SS) : Option (Int32 × SS) :=
  oi a1 48 (if (gA u 7 a1.toNatClampNeg) < 0 then (some ((0 : Int32), u)) else (oi a1 48 (if (gI u 0) ≤ (gA u 7 a1.toNatClampNeg) then (some ((0 : Int32), u)) else (some ((1 : Int32), u)))))
set_option maxHeartbeats 4000000 in
set_option maxRecDepth 100000 in
theorem c_X10_isSilent (l : Launch) (ev : EV) (a1 : Int32) (u : SS) {r : Int32} {u' : SS} (hf : f_X10_isSilent a1 u = some (r, u')) : MI wdM l yX10_isSilent cX10_isSilent 2 (some .boolean) 0 ev [.ref (ev.2.1 0), .int a1] u r u' := by
  refine bodyI (by decide +kernel) rfl (Nat.le_of_ble_eq_true rfl) ?_
  intro p e s m below meth cd ls H locs hc hr hlk hw hl
  generalize hav : (List.toArray [.ref (ev.2.1 0), .int a1] : Array Value) = av at hc ⊢
  obtain ⟨hx, hb, hml, hown, hts, hK, hZ⟩ := id hc
  have hl : lv_has ls 2 [(0, .ref (ev.2.1 0)), (1, .int a1)] := hl
  unfold f_X10_isSilent at hf
  refine lv_aload_n hx hb dX10_isSilent_0 rfl (lv_at hl 0 rfl) ?_
  refine gM0_10 hc hw fl_X10_39 dX10_isSilent_1 ?_
  refine lv_iload_n hx hb dX10_isSilent_4 rfl (lv_at hl 1 rfl) ?_
  obtain ⟨z, hf⟩ := oi_some hf
  refine aM8 hc hw z dX10_isSilent_5 ?_
  refine lv_if_lt (tgt := 26) hx hb dX10_isSilent_6 (by decide) (fun z => ?_) (fun z => ?_)
  · have hf := it_pos z hf
    refine lv_iconst (v := (0 : Int32)) hx hb dX10_isSilent_26 (by decide) ?_
    exact retZ hc hr hlk hw nz0 hf dX10_isSilent_27
  · have hf := it_neg z hf
    refine lv_aload_n hx hb dX10_isSilent_9 rfl (lv_at hl 0 rfl) ?_
    refine gM0_0 hc hw fl_X10_148 dX10_isSilent_10 ?_
    refine lv_aload_n hx hb dX10_isSilent_13 rfl (lv_at hl 0 rfl) ?_
    refine gM0_10 hc hw fl_X10_39 dX10_isSilent_14 ?_
    refine lv_iload_n hx hb dX10_isSilent_17 rfl (lv_at hl 1 rfl) ?_
    obtain ⟨z, hf⟩ := oi_some hf
    refine aM8 hc hw z dX10_isSilent_18 ?_
    refine lv_icmp_le (tgt := 26) hx hb dX10_isSilent_19 (by decide) (fun z => ?_) (fun z => ?_)
    · have hf := it_pos z hf
      refine lv_iconst (v := (0 : Int32)) hx hb dX10_isSilent_26 (by decide) ?_
      exact retZ hc hr hlk hw nz0 hf dX10_isSilent_27
    · have hf := it_neg z hf
      refine lv_iconst (v := (1 : Int32)) hx hb dX10_isSilent_22 (by decide) ?_
      refine lv_goto (tgt := 27) hx hb dX10_isSilent_23 (by decide) ?_
      exact retZ hc hr hlk hw nz1 hf dX10_isSilent_27
def f_X10_doesStand (a1 : Int32) (u : SS) : Option (Int32 × SS) :=
  oi a1 48 (if (gA u 1 a1.toNatClampNeg) = 0 then (some ((0 : Int32), u)) else (oi a1 48 (if (gA u 6 a1.toNatClampNeg) = 0 then (ob (f_X10_isSilent a1 u) fun r3 u2 => if r3 = 0 then (some ((1 : Int32), u2)) else (some ((0 : Int32), u2))) else (some ((0 : Int32), u)))))
set_option maxHeartbeats 4000000 in
set_option maxRecDepth 100000 in
theorem c_X10_doesStand (l : Launch) (ev : EV) (a1 : Int32) (u : SS) {r : Int32} {u' : SS} (hf : f_X10_doesStand a1 u = some (r, u')) : MI wdM l yX10_doesStand cX10_doesStand 2 (some .boolean) 1 ev [.ref (ev.2.1 0), .int a1] u r u' := by
  refine bodyI (by decide +kernel) rfl (Nat.le_of_ble_eq_true rfl) ?_
  intro p e s m below meth cd ls H locs hc hr hlk hw hl
  generalize hav : (List.toArray [.ref (ev.2.1 0), .int a1] : Array Value) = av at hc ⊢
  obtain ⟨hx, hb, hml, hown, hts, hK, hZ⟩ := id hc
  have hl : lv_has ls 2 [(0, .ref (ev.2.1 0)), (1, .int a1)] := hl
  unfold f_X10_doesStand at hf
  refine lv_aload_n hx hb dX10_doesStand_0 rfl (lv_at hl 0 rfl) ?_
  refine gM0_4 hc hw fl_X10_20 dX10_doesStand_1 ?_
  refine lv_iload_n hx hb dX10_doesStand_4 rfl (lv_at hl 1 rfl) ?_
  obtain ⟨z, hf⟩ := oi_some hf
  refine aM2 hc hw z dX10_doesStand_5 ?_
  refine lv_if_eq (tgt := 30) hx hb dX10_doesStand_6 (by decide) (fun z => ?_) (fun z => ?_)
  · have hf := it_pos z hf
    refine lv_iconst (v := (0 : Int32)) hx hb dX10_doesStand_30 (by decide) ?_
    exact retZ hc hr hlk hw nz0 hf dX10_doesStand_31
  · have hf := it_neg z hf
    refine lv_aload_n hx hb dX10_doesStand_9 rfl (lv_at hl 0 rfl) ?_
    refine gM0_9 hc hw fl_X10_36 dX10_doesStand_10 ?_
    refine lv_iload_n hx hb dX10_doesStand_13 rfl (lv_at hl 1 rfl) ?_
    obtain ⟨z, hf⟩ := oi_some hf
    refine aM7 hc hw z dX10_doesStand_14 ?_
    refine lv_if_ne (tgt := 30) hx hb dX10_doesStand_15 (by decide) (fun z => ?_) (fun z => ?_)
    · have hf := it_neg z hf
      refine lv_iconst (v := (0 : Int32)) hx hb dX10_doesStand_30 (by decide) ?_
      exact retZ hc hr hlk hw nz0 hf dX10_doesStand_31
    · have hf := it_pos z hf
      refine lv_aload_n hx hb dX10_doesStand_18 rfl (lv_at hl 0 rfl) ?_
      refine lv_iload_n hx hb dX10_doesStand_19 rfl (lv_at hl 1 rfl) ?_
      obtain ⟨r3, u2, h1, hf⟩ := ob_some hf
      refine endI okM hw (runV_ok (As := [.int a1]) (rest := []) okM hc hw (c_X10_isSilent l ev a1 u h1 H.size) kv_X10_isSilent ml_X10_194 (rvM0 ev u) hl.1 rfl rfl (Nat.le_of_ble_eq_true rfl) (rm_le (by decide) (by decide)) dX10_doesStand_20) (fun H locs hw => ?_)
      refine lv_if_ne (tgt := 30) hx hb dX10_doesStand_23 (by decide) (fun z => ?_) (fun z => ?_)
      · have hf := it_neg z hf
        refine lv_iconst (v := (0 : Int32)) hx hb dX10_doesStand_30 (by decide) ?_
        exact retZ hc hr hlk hw nz0 hf dX10_doesStand_31
      · have hf := it_pos z hf
        refine lv_iconst (v := (1 : Int32)) hx hb dX10_doesStand_26 (by decide) ?_
        refine lv_goto (tgt := 31) hx hb dX10_doesStand_27 (by decide) ?_
        exact retZ hc hr hlk hw nz1 hf dX10_doesStand_31
def f_X10_fails (a1 : Int32) (a2 : Int32) (u : SS) : Option (Int32 × SS) :=
  ob (f_X10_lacks a1 a2 u) fun r3 u2 => if 0 ≤ r3 then (ob (f_X10_doesStand (((8 : Int32) * a2) + a1) u2) fun r6 u5 => if r6 = 0 then (some ((-5 : Int32), u5)) else (some ((0 : Int32), u5))) else (some (r3, u2))
set_option maxHeartbeats 4000000 in
set_option maxRecDepth 100000 in
theorem c_X10_fails (l : Launch) (ev : EV) (a1 : Int32) (a2 : Int32) (u : SS) {r : Int32} {u' : SS} (hf : f_X10_fails a1 a2 u = some (r, u')) : MI wdM l yX10_fails cX10_fails 4 (some .int) 3 ev [.ref (ev.2.1 0), .int a1, .int a2] u r u' := by
  refine bodyI (by decide +kernel) rfl (Nat.le_of_ble_eq_true rfl) ?_
  intro p e s m below meth cd ls H locs hc hr hlk hw hl
  generalize hav : (List.toArray [.ref (ev.2.1 0), .int a1, .int a2] : Array Value) = av at hc ⊢
  obtain ⟨hx, hb, hml, hown, hts, hK, hZ⟩ := id hc
  have hl : lv_has ls 4 [(0, .ref (ev.2.1 0)), (1, .int a1), (2, .int a2)] := hl
  unfold f_X10_fails at hf
  refine lv_aload_n hx hb dX10_fails_0 rfl (lv_at hl 0 rfl) ?_
  refine lv_iload_n hx hb dX10_fails_1 rfl (lv_at hl 1 rfl) ?_
  refine lv_iload_n hx hb dX10_fails_2 rfl (lv_at hl 2 rfl) ?_
  obtain ⟨r3, u2, h1, hf⟩ := ob_some hf
  refine endI okM hw (runV_ok (As := [.int a1, .int a2]) (rest := []) okM hc hw (c_X10_lacks l ev a1 a2 u h1 H.size) kv_X10_lacks ml_X10_180 (rvM0 ev u) hl.1 rfl rfl (Nat.le_of_ble_eq_true rfl) (rm_le (by decide) (by decide)) dX10_fails_3) (fun H locs hw => ?_)
  refine lv_istore_n (lv' := [(3, .int r3), (0, .ref (ev.2.1 0)), (1, .int a1), (2, .int a2)]) hx hb dX10_fails_6 rfl hl (by decide) rfl (fun ls hl => ?_)
  refine lv_iload_n hx hb dX10_fails_7 rfl (lv_at hl 0 rfl) ?_
  refine lv_if_ge (tgt := 15) hx hb dX10_fails_8 (by decide) (fun z => ?_) (fun z => ?_)
  · have hf := it_pos z hf
    refine lv_aload_n hx hb dX10_fails_15 rfl (lv_at hl 1 rfl) ?_
    refine lv_bipush (v := (8 : Int32)) hx hb dX10_fails_16 (by decide) ?_
    refine lv_iload_n hx hb dX10_fails_18 rfl (lv_at hl 3 rfl) ?_
    refine lv_imul hx hb dX10_fails_19 ?_
    refine lv_iload_n hx hb dX10_fails_20 rfl (lv_at hl 2 rfl) ?_
    refine lv_iadd hx hb dX10_fails_21 ?_
    obtain ⟨r6, u5, h4, hf⟩ := ob_some hf
    refine endI okM hw (runV_ok (As := [.int (((8 : Int32) * a2) + a1)]) (rest := []) okM hc hw (c_X10_doesStand l ev (((8 : Int32) * a2) + a1) u2 h4 H.size) kv_X10_doesStand ml_X10_197 (rvM0 ev u2) hl.1 rfl rfl (Nat.le_of_ble_eq_true rfl) (rm_le (by decide) (by decide)) dX10_fails_22) (fun H locs hw => ?_)
    refine lv_if_eq (tgt := 32) hx hb dX10_fails_25 (by decide) (fun z => ?_) (fun z => ?_)
    · have hf := it_pos z hf
      refine lv_bipush (v := (-5 : Int32)) hx hb dX10_fails_32 (by decide) ?_
      exact retI hc hr hlk hw hf dX10_fails_34
    · have hf := it_neg z hf
      refine lv_iconst (v := (0 : Int32)) hx hb dX10_fails_28 (by decide) ?_
      refine lv_goto (tgt := 34) hx hb dX10_fails_29 (by decide) ?_
      exact retI hc hr hlk hw hf dX10_fails_34
  · have hf := it_neg z hf
    refine lv_iload_n hx hb dX10_fails_11 rfl (lv_at hl 0 rfl) ?_
    refine lv_goto (tgt := 34) hx hb dX10_fails_12 (by decide) ?_
    exact retI hc hr hlk hw hf dX10_fails_34
def f_X10_isScorer (a0 : Int32) (u : SS) : Option (Int32 × SS) :=
  ob (f_X10_in a0 (0 : Int32) (5 : Int32) u) fun r3 u2 => if ¬ (r3 = 0 ∨ r3 = 1) then none else some (r3, u2)
set_option maxHeartbeats 4000000 in
set_option maxRecDepth 100000 in
theorem c_X10_isScorer (l : Launch) (ev : EV) (a0 : Int32) (u : SS) {r : Int32} {u' : SS} (hf : f_X10_isScorer a0 u = some (r, u')) : MI wdM l yX10_isScorer cX10_isScorer 1 (some .boolean) 1 ev [.int a0] u r u' := by
  refine bodyI (by decide +kernel) rfl (Nat.le_of_ble_eq_true rfl) ?_
  intro p e s m below meth cd ls H locs hc hr hlk hw hl
  generalize hav : (List.toArray [.int a0] : Array Value) = av at hc ⊢
  obtain ⟨hx, hb, hml, hown, hts, hK, hZ⟩ := id hc
  have hl : lv_has ls 1 [(0, .int a0)] := hl
  unfold f_X10_isScorer at hf
  refine lv_iload_n hx hb dX10_isScorer_0 rfl (lv_at hl 0 rfl) ?_
  refine lv_iconst (v := (0 : Int32)) hx hb dX10_isScorer_1 (by decide) ?_
  refine lv_iconst (v := (5 : Int32)) hx hb dX10_isScorer_2 (by decide) ?_
  obtain ⟨r3, u2, h1, hf⟩ := ob_some hf
  refine endI okM hw (runS_ok (As := [.int a0, .int (0 : Int32), .int (5 : Int32)]) (rest := []) okM hc hw (c_X10_in l ev a0 (0 : Int32) (5 : Int32) u h1 H.size) ks_X10_in ml_X10_144 hl.1 rfl rfl (Nat.le_of_ble_eq_true rfl) (rm_le (by decide) (by decide)) dX10_isScorer_3) (fun H locs hw => ?_)
  obtain ⟨z, hf⟩ := it_none hf
  exact retZ hc hr hlk hw (bo_nar z) hf dX10_isScorer_6
def f_X10_note_L108 (b4 : Int32) (b6 : Int32) (q0 : Int32) (u : SS) : Option (Int32 × SS) :=
  oi b6 288 (lt (tA u 9 b6 b4) fun u11 => lt (sI u11 16 (0 : Int32)) fun u12 => some (q0, u12))
def f_X10_note (a1 : Int32) (a2 : Int32) (a3 : Int32) (a4 : Int32) (u : SS) : Option (Int32 × SS) :=
  ob (f_X10_isScorer a1 u) fun r3 u2 => if r3 = 0 then (ob (f_X10_refuse (-1 : Int32) u2) fun r27 u26 => some (r27, u26)) else (ob (f_X10_fails a2 a3 u2) fun r6 u5 => if 0 ≤ r6 then (ob (f_X10_isOpen u5) fun r9 u8 => if r9 = 0 then (if 0 ≤ a4 then (if a4 ≤ (100 : Int32) then (lt ((((48 : Int32) * a1) + ((8 : Int32) * a3)) + a2) fun x10 => oi x10 288 (if 0 ≤ (gA u8 9 x10.toNatClampNeg) then (oi x10 288 (f_X10_note_L108 a4 x10 (gA u8 9 x10.toNatClampNeg) u8)) else (f_X10_note_L108 a4 x10 (-9 : Int32) u8))) else (ob (f_X10_refuse (-6 : Int32) u8) fun r15 u14 => some (r15, u14))) else (ob (f_X10_refuse (-4 : Int32) u8) fun r18 u17 => some (r18, u17))) else (ob (f_X10_refuse (-3 : Int32) u8) fun r21 u20 => some (r21, u20))) else (ob (f_X10_refuse r6 u5) fun r24 u23 => some (r24, u23)))
set_option maxHeartbeats 4000000 in
set_option maxRecDepth 100000 in
theorem c_X10_note (l : Launch) (ev : EV) (a1 : Int32) (a2 : Int32) (a3 : Int32) (a4 : Int32) (u : SS) {r : Int32} {u' : SS} (hf : f_X10_note a1 a2 a3 a4 u = some (r, u')) : MI wdM l yX10_note cX10_note 8 (some .int) 4 ev [.ref (ev.2.1 0), .int a1, .int a2, .int a3, .int a4] u r u' := by
  refine bodyI (by decide +kernel) rfl (Nat.le_of_ble_eq_true rfl) ?_
  intro p e s m below meth cd ls H locs hc hr hlk hw hl
  generalize hav : (List.toArray [.ref (ev.2.1 0), .int a1, .int a2, .int a3, .int a4] : Array Value) = av at hc ⊢
  obtain ⟨hx, hb, hml, hown, hts, hK, hZ⟩ := id hc
  have hl : lv_has ls 8 [(0, .ref (ev.2.1 0)), (1, .int a1), (2, .int a2), (3, .int a3), (4, .int a4)] := hl
  have wL108 : ∀ (b4 : Int32) (b6 : Int32) (q0 : Int32) (u : SS) (H : Heap) (locs : List Loc) (ls : Array Slot), VW wdM ev s u H locs → lv_has ls 8 [(0, .ref (ev.2.1 0)), (4, .int b4), (6, .int b6)] → f_X10_note_L108 b4 b6 q0 u = some (r, u') → W p l e (rmk 4) s m av below meth cd H locs 0 0 (ZI wdM ev s below av r u') (F0 m 108 ls [.int q0]) := by
    intro b4 b6 q0 u H locs ls hw hl hf
    unfold f_X10_note_L108 at hf
    refine lv_istore (lv' := [(7, .int q0), (0, .ref (ev.2.1 0)), (4, .int b4), (6, .int b6)]) hx hb dX10_note_108 hl (by decide) rfl (fun ls hl => ?_)
    refine lv_aload_n hx hb dX10_note_110 rfl (lv_at hl 1 rfl) ?_
    refine gM0_12 hc hw fl_X10_45 dX10_note_111 ?_
    refine lv_iload hx hb dX10_note_114 (lv_at hl 3 rfl) ?_
    refine lv_iload hx hb dX10_note_116 (lv_at hl 2 rfl) ?_
    obtain ⟨z, hf⟩ := oi_some hf
    refine tM10 hc hw z dX10_note_118 (fun H locs hw => ?_)
    obtain ⟨u11, eu11, hf⟩ := lt_some hf
    have hw := VW.nm eu11 hw
    refine lv_aload_n hx hb dX10_note_119 rfl (lv_at hl 1 rfl) ?_
    refine lv_iconst (v := (0 : Int32)) hx hb dX10_note_120 (by decide) ?_
    refine pM0_40 hc hw fl_X10_156 nz0 fz0 dX10_note_121 (fun H locs hw => ?_)
    obtain ⟨u12, eu12, hf⟩ := lt_some hf
    have hw := VW.nm eu12 hw
    refine lv_iload hx hb dX10_note_124 (lv_at hl 0 rfl) ?_
    exact retI hc hr hlk hw hf dX10_note_126
  unfold f_X10_note at hf
  refine lv_iload_n hx hb dX10_note_0 rfl (lv_at hl 1 rfl) ?_
  obtain ⟨r3, u2, h1, hf⟩ := ob_some hf
  refine endI okM hw (runS_ok (As := [.int a1]) (rest := []) okM hc hw (c_X10_isScorer l ev a1 u h1 H.size) ks_X10_isScorer ml_X10_200 hl.1 rfl rfl (Nat.le_of_ble_eq_true rfl) (rm_le (by decide) (by decide)) dX10_note_1) (fun H locs hw => ?_)
  refine lv_if_ne (tgt := 13) hx hb dX10_note_4 (by decide) (fun z => ?_) (fun z => ?_)
  · have hf := it_neg z hf
    refine lv_aload_n hx hb dX10_note_13 rfl (lv_at hl 0 rfl) ?_
    refine lv_iload_n hx hb dX10_note_14 rfl (lv_at hl 2 rfl) ?_
    refine lv_iload_n hx hb dX10_note_15 rfl (lv_at hl 3 rfl) ?_
    obtain ⟨r6, u5, h4, hf⟩ := ob_some hf
    refine endI okM hw (runV_ok (As := [.int a2, .int a3]) (rest := []) okM hc hw (c_X10_fails l ev a2 a3 u2 h4 H.size) kv_X10_fails ml_X10_203 (rvM0 ev u2) hl.1 rfl rfl (Nat.le_of_ble_eq_true rfl) (rm_le (by decide) (by decide)) dX10_note_16) (fun H locs hw => ?_)
    refine lv_istore (lv' := [(5, .int r6), (0, .ref (ev.2.1 0)), (1, .int a1), (2, .int a2), (3, .int a3), (4, .int a4)]) hx hb dX10_note_19 hl (by decide) rfl (fun ls hl => ?_)
    refine lv_iload hx hb dX10_note_21 (lv_at hl 0 rfl) ?_
    refine lv_if_ge (tgt := 33) hx hb dX10_note_23 (by decide) (fun z => ?_) (fun z => ?_)
    · have hf := it_pos z hf
      refine lv_aload_n hx hb dX10_note_33 rfl (lv_at hl 1 rfl) ?_
      obtain ⟨r9, u8, h7, hf⟩ := ob_some hf
      refine endI okM hw (runV_ok (As := []) (rest := []) okM hc hw (c_X10_isOpen l ev u5 h7 H.size) kv_X10_isOpen ml_X10_160 (rvM0 ev u5) hl.1 rfl rfl (Nat.le_of_ble_eq_true rfl) (rm_le (by decide) (by decide)) dX10_note_34) (fun H locs hw => ?_)
      refine lv_if_eq (tgt := 47) hx hb dX10_note_37 (by decide) (fun z => ?_) (fun z => ?_)
      · have hf := it_pos z hf
        refine lv_iload hx hb dX10_note_47 (lv_at hl 5 rfl) ?_
        refine lv_if_ge (tgt := 59) hx hb dX10_note_49 (by decide) (fun z => ?_) (fun z => ?_)
        · have hf := it_pos z hf
          refine lv_iload hx hb dX10_note_59 (lv_at hl 5 rfl) ?_
          refine lv_bipush (v := (100 : Int32)) hx hb dX10_note_61 (by decide) ?_
          refine lv_icmp_le (tgt := 73) hx hb dX10_note_63 (by decide) (fun z => ?_) (fun z => ?_)
          · have hf := it_pos z hf
            refine lv_bipush (v := (48 : Int32)) hx hb dX10_note_73 (by decide) ?_
            refine lv_iload_n hx hb dX10_note_75 rfl (lv_at hl 2 rfl) ?_
            refine lv_imul hx hb dX10_note_76 ?_
            refine lv_bipush (v := (8 : Int32)) hx hb dX10_note_77 (by decide) ?_
            refine lv_iload_n hx hb dX10_note_79 rfl (lv_at hl 4 rfl) ?_
            refine lv_imul hx hb dX10_note_80 ?_
            refine lv_iadd hx hb dX10_note_81 ?_
            refine lv_iload_n hx hb dX10_note_82 rfl (lv_at hl 3 rfl) ?_
            refine lv_iadd hx hb dX10_note_83 ?_
            obtain ⟨x10, ex10, hf⟩ := lt_some hf
            refine tope ex10 ?_
            refine lv_istore (lv' := [(6, .int x10), (5, .int r6), (0, .ref (ev.2.1 0)), (1, .int a1), (2, .int a2), (3, .int a3), (4, .int a4)]) hx hb dX10_note_84 hl (by decide) rfl (fun ls hl => ?_)
            refine lv_aload_n hx hb dX10_note_86 rfl (lv_at hl 2 rfl) ?_
            refine gM0_12 hc hw fl_X10_45 dX10_note_87 ?_
            refine lv_iload hx hb dX10_note_90 (lv_at hl 0 rfl) ?_
            obtain ⟨z, hf⟩ := oi_some hf
            refine aM10 hc hw z dX10_note_92 ?_
            refine lv_if_ge (tgt := 101) hx hb dX10_note_93 (by decide) (fun z => ?_) (fun z => ?_)
            · have hf := it_pos z hf
              refine lv_aload_n hx hb dX10_note_101 rfl (lv_at hl 2 rfl) ?_
              refine gM0_12 hc hw fl_X10_45 dX10_note_102 ?_
              refine lv_iload hx hb dX10_note_105 (lv_at hl 0 rfl) ?_
              obtain ⟨z, hf⟩ := oi_some hf
              refine aM10 hc hw z dX10_note_107 ?_
              exact wL108 a4 x10 (gA u8 9 x10.toNatClampNeg) u8 H locs ls hw (lv_sub hl [2, 6, 0] rfl) hf
            · have hf := it_neg z hf
              refine lv_bipush (v := (-9 : Int32)) hx hb dX10_note_96 (by decide) ?_
              refine lv_goto (tgt := 108) hx hb dX10_note_98 (by decide) ?_
              exact wL108 a4 x10 (-9 : Int32) u8 H locs ls hw (lv_sub hl [2, 6, 0] rfl) hf
          · have hf := it_neg z hf
            refine lv_aload_n hx hb dX10_note_66 rfl (lv_at hl 1 rfl) ?_
            refine lv_bipush (v := (-6 : Int32)) hx hb dX10_note_67 (by decide) ?_
            obtain ⟨r15, u14, h13, hf⟩ := ob_some hf
            refine endI okM hw (runV_ok (As := [.int (-6 : Int32)]) (rest := []) okM hc hw (c_X10_refuse l ev (-6 : Int32) u8 h13 H.size) kv_X10_refuse ml_X10_151 (rvM0 ev u8) hl.1 rfl rfl (Nat.le_of_ble_eq_true rfl) (rm_le (by decide) (by decide)) dX10_note_69) (fun H locs hw => ?_)
            exact retI hc hr hlk hw hf dX10_note_72
        · have hf := it_neg z hf
          refine lv_aload_n hx hb dX10_note_52 rfl (lv_at hl 1 rfl) ?_
          refine lv_bipush (v := (-4 : Int32)) hx hb dX10_note_53 (by decide) ?_
          obtain ⟨r18, u17, h16, hf⟩ := ob_some hf
          refine endI okM hw (runV_ok (As := [.int (-4 : Int32)]) (rest := []) okM hc hw (c_X10_refuse l ev (-4 : Int32) u8 h16 H.size) kv_X10_refuse ml_X10_151 (rvM0 ev u8) hl.1 rfl rfl (Nat.le_of_ble_eq_true rfl) (rm_le (by decide) (by decide)) dX10_note_55) (fun H locs hw => ?_)
          exact retI hc hr hlk hw hf dX10_note_58
      · have hf := it_neg z hf
        refine lv_aload_n hx hb dX10_note_40 rfl (lv_at hl 1 rfl) ?_
        refine lv_bipush (v := (-3 : Int32)) hx hb dX10_note_41 (by decide) ?_
        obtain ⟨r21, u20, h19, hf⟩ := ob_some hf
        refine endI okM hw (runV_ok (As := [.int (-3 : Int32)]) (rest := []) okM hc hw (c_X10_refuse l ev (-3 : Int32) u8 h19 H.size) kv_X10_refuse ml_X10_151 (rvM0 ev u8) hl.1 rfl rfl (Nat.le_of_ble_eq_true rfl) (rm_le (by decide) (by decide)) dX10_note_43) (fun H locs hw => ?_)
        exact retI hc hr hlk hw hf dX10_note_46
    · have hf := it_neg z hf
      refine lv_aload_n hx hb dX10_note_26 rfl (lv_at hl 1 rfl) ?_
      refine lv_iload hx hb dX10_note_27 (lv_at hl 0 rfl) ?_
      obtain ⟨r24, u23, h22, hf⟩ := ob_some hf
      refine endI okM hw (runV_ok (As := [.int r6]) (rest := []) okM hc hw (c_X10_refuse l ev r6 u5 h22 H.size) kv_X10_refuse ml_X10_151 (rvM0 ev u5) hl.1 rfl rfl (Nat.le_of_ble_eq_true rfl) (rm_le (by decide) (by decide)) dX10_note_29) (fun H locs hw => ?_)
      exact retI hc hr hlk hw hf dX10_note_32
  · have hf := it_pos z hf
    refine lv_aload_n hx hb dX10_note_7 rfl (lv_at hl 0 rfl) ?_
    refine lv_iconst (v := (-1 : Int32)) hx hb dX10_note_8 (by decide) ?_
    obtain ⟨r27, u26, h25, hf⟩ := ob_some hf
    refine endI okM hw (runV_ok (As := [.int (-1 : Int32)]) (rest := []) okM hc hw (c_X10_refuse l ev (-1 : Int32) u2 h25 H.size) kv_X10_refuse ml_X10_151 (rvM0 ev u2) hl.1 rfl rfl (Nat.le_of_ble_eq_true rfl) (rm_le (by decide) (by decide)) dX10_note_9) (fun H locs hw => ?_)
    exact retI hc hr hlk hw hf dX10_note_12
