def f_X9_refuse (a1 : Int32) (u : SS) : Option (Int32 × SS) :=
  if 0 ≤ a1 then (some (a1, u)) else (if (8 : Int32) ≤ (-a1) then (some (a1, u)) else (oi (-a1) 8 (oi (-a1) 8 (lt (tA u 0 (-a1) ((gA u 0 (-a1).toNatClampNeg) + (1 : Int32))) fun u1 => some (a1, u1)))))
set_option maxHeartbeats 4000000 in
set_option maxRecDepth 100000 in
theorem c_X9_refuse (l : Launch) (ev : EV) (a1 : Int32) (u : SS) {r : Int32} {u' : SS} (hf : f_X9_refuse a1 u = some (r, u')) : MI wdB l yX9_refuse cX9_refuse 2 (some .int) 0 ev [.ref (ev.2.1 0), .int a1] u r u' := by
  refine bodyI (by decide +kernel) rfl (Nat.le_of_ble_eq_true rfl) ?_
  intro p e s m below meth cd ls H locs hc hr hlk hw hl
  generalize hav : (List.toArray [.ref (ev.2.1 0), .int a1] : Array Value) = av at hc ⊢
  obtain ⟨hx, hb, hml, hown, hts, hK, hZ⟩ := id hc
  have hl : lv_has ls 2 [(0, .ref (ev.2.1 0)), (1, .int a1)] := hl
  unfold f_X9_refuse at hf
  refine lv_iload_n hx hb dX9_refuse_0 rfl (lv_at hl 1 rfl) ?_
  refine lv_if_ge (tgt := 25) hx hb dX9_refuse_1 (by decide) (fun z => ?_) (fun z => ?_)
  · have hf := it_pos z hf
    refine lv_iload_n hx hb dX9_refuse_25 rfl (lv_at hl 1 rfl) ?_
    exact retI hc hr hlk hw hf dX9_refuse_26
  · have hf := it_neg z hf
    refine lv_iload_n hx hb dX9_refuse_4 rfl (lv_at hl 1 rfl) ?_
    refine lv_ineg hx hb dX9_refuse_5 ?_
    refine lv_aload_n hx hb dX9_refuse_6 rfl (lv_at hl 0 rfl) ?_
    refine gB0_7 hc hw fl_X9_58 dX9_refuse_7 ?_
    refine nB9 hc hw dX9_refuse_10 ?_
    refine lv_icmp_ge (tgt := 25) hx hb dX9_refuse_11 (by decide) (fun z => ?_) (fun z => ?_)
    · have hf := it_pos z hf
      refine lv_iload_n hx hb dX9_refuse_25 rfl (lv_at hl 1 rfl) ?_
      exact retI hc hr hlk hw hf dX9_refuse_26
    · have hf := it_neg z hf
      refine lv_aload_n hx hb dX9_refuse_14 rfl (lv_at hl 0 rfl) ?_
      refine gB0_7 hc hw fl_X9_58 dX9_refuse_15 ?_
      refine lv_iload_n hx hb dX9_refuse_18 rfl (lv_at hl 1 rfl) ?_
      refine lv_ineg hx hb dX9_refuse_19 ?_
      refine lv_dup2_11 hx hb dX9_refuse_20 rfl rfl ?_
      obtain ⟨z, hf⟩ := oi_some hf
      refine aB9 hc hw z dX9_refuse_21 ?_
      refine lv_iconst (v := (1 : Int32)) hx hb dX9_refuse_22 (by decide) ?_
      refine lv_iadd hx hb dX9_refuse_23 ?_
      obtain ⟨z, hf⟩ := oi_some hf
      refine tB9 hc hw z dX9_refuse_24 (fun H locs hw => ?_)
      obtain ⟨u1, eu1, hf⟩ := lt_some hf
      have hw := VW.nm eu1 hw
      refine lv_iload_n hx hb dX9_refuse_25 rfl (lv_at hl 1 rfl) ?_
      exact retI hc hr hlk hw hf dX9_refuse_26
def f_X9_time (a1 : Int32) (u : SS) : Option (Int32 × SS) :=
  if (1 : Int32) ≤ a1 then (if a1 ≤ ((999999 : Int32) - (gI u 0)) then (lt (sI u 0 ((gI u 0) + a1)) fun u1 => some ((gI u1 0), u1)) else (ob (f_X9_refuse (-6 : Int32) u) fun r4 u3 => some (r4, u3))) else (ob (f_X9_refuse (-4 : Int32) u) fun r7 u6 => some (r7, u6))
set_option maxHeartbeats 4000000 in
set_option maxRecDepth 100000 in
theorem c_X9_time (l : Launch) (ev : EV) (a1 : Int32) (u : SS) {r : Int32} {u' : SS} (hf : f_X9_time a1 u = some (r, u')) : MI wdB l yX9_time cX9_time 2 (some .int) 1 ev [.ref (ev.2.1 0), .int a1] u r u' := by
  refine bodyI (by decide +kernel) rfl (Nat.le_of_ble_eq_true rfl) ?_
  intro p e s m below meth cd ls H locs hc hr hlk hw hl
  generalize hav : (List.toArray [.ref (ev.2.1 0), .int a1] : Array Value) = av at hc ⊢
  obtain ⟨hx, hb, hml, hown, hts, hK, hZ⟩ := id hc
  have hl : lv_has ls 2 [(0, .ref (ev.2.1 0)), (1, .int a1)] := hl
  unfold f_X9_time at hf
  refine lv_iload_n hx hb dX9_time_0 rfl (lv_at hl 1 rfl) ?_
  refine lv_iconst (v := (1 : Int32)) hx hb dX9_time_1 (by decide) ?_
  refine lv_icmp_ge (tgt := 12) hx hb dX9_time_2 (by decide) (fun z => ?_) (fun z => ?_)
  · have hf := it_pos z hf
    refine lv_iload_n hx hb dX9_time_12 rfl (lv_at hl 1 rfl) ?_
    refine lv_ldc (v := (999999 : Int32)) hx hb hown (hts _ ct_X9_66) dX9_time_13 ?_
    refine lv_aload_n hx hb dX9_time_15 rfl (lv_at hl 0 rfl) ?_
    refine gB0_0 hc hw fl_X9_12 dX9_time_16 ?_
    refine gB1_9 hc hw fl_X9_67 dX9_time_19 ?_
    refine lv_isub hx hb dX9_time_22 ?_
    refine lv_icmp_le (tgt := 33) hx hb dX9_time_23 (by decide) (fun z => ?_) (fun z => ?_)
    · have hf := it_pos z hf
      refine lv_aload_n hx hb dX9_time_33 rfl (lv_at hl 0 rfl) ?_
      refine gB0_0 hc hw fl_X9_12 dX9_time_34 ?_
      refine lv_dup hx hb dX9_time_37 rfl ?_
      refine gB1_9 hc hw fl_X9_67 dX9_time_38 ?_
      refine lv_iload_n hx hb dX9_time_41 rfl (lv_at hl 1 rfl) ?_
      refine lv_iadd hx hb dX9_time_42 ?_
      refine pB1_9 hc hw fl_X9_67 dX9_time_43 (fun H locs hw => ?_)
      obtain ⟨u1, eu1, hf⟩ := lt_some hf
      have hw := VW.nm eu1 hw
      refine lv_aload_n hx hb dX9_time_46 rfl (lv_at hl 0 rfl) ?_
      refine gB0_0 hc hw fl_X9_12 dX9_time_47 ?_
      refine gB1_9 hc hw fl_X9_67 dX9_time_50 ?_
      exact retI hc hr hlk hw hf dX9_time_53
    · have hf := it_neg z hf
      refine lv_aload_n hx hb dX9_time_26 rfl (lv_at hl 0 rfl) ?_
      refine lv_bipush (v := (-6 : Int32)) hx hb dX9_time_27 (by decide) ?_
      obtain ⟨r4, u3, h2, hf⟩ := ob_some hf
      refine endI okB hw (runV_ok (As := [.int (-6 : Int32)]) (rest := []) okB hc hw (c_X9_refuse l ev (-6 : Int32) u h2 H.size) kv_X9_refuse ml_X9_62 (rvB0 ev u) hl.1 rfl rfl (Nat.le_of_ble_eq_true rfl) (rm_le (by decide) (by decide)) dX9_time_29) (fun H locs hw => ?_)
      exact retI hc hr hlk hw hf dX9_time_32
  · have hf := it_neg z hf
    refine lv_aload_n hx hb dX9_time_5 rfl (lv_at hl 0 rfl) ?_
    refine lv_bipush (v := (-4 : Int32)) hx hb dX9_time_6 (by decide) ?_
    obtain ⟨r7, u6, h5, hf⟩ := ob_some hf
    refine endI okB hw (runV_ok (As := [.int (-4 : Int32)]) (rest := []) okB hc hw (c_X9_refuse l ev (-4 : Int32) u h5 H.size) kv_X9_refuse ml_X9_62 (rvB0 ev u) hl.1 rfl rfl (Nat.le_of_ble_eq_true rfl) (rm_le (by decide) (by decide)) dX9_time_8) (fun H locs hw => ?_)
    exact retI hc hr hlk hw hf dX9_time_11
def f_X1_isOpen (u : SS) : Option (Int32 × SS) :=
  if (gI u 1) = (-1 : Int32) then (some ((1 : Int32), u)) else (if (gI u 1) < (gI u 0) then (some ((0 : Int32), u)) else (some ((1 : Int32), u)))
set_option maxHeartbeats 4000000 in
set_option maxRecDepth 100000 in
theorem c_X1_isOpen (l : Launch) (ev : EV) (u : SS) {r : Int32} {u' : SS} (hf : f_X1_isOpen  u = some (r, u')) : MI wdB l yX1_isOpen cX1_isOpen 1 (some .boolean) 0 ev [.ref (ev.2.1 1)] u r u' := by
  refine bodyI (by decide +kernel) rfl (Nat.le_of_ble_eq_true rfl) ?_
  intro p e s m below meth cd ls H locs hc hr hlk hw hl
  generalize hav : (List.toArray [.ref (ev.2.1 1)] : Array Value) = av at hc ⊢
  obtain ⟨hx, hb, hml, hown, hts, hK, hZ⟩ := id hc
  have hl : lv_has ls 1 [(0, .ref (ev.2.1 1))] := hl
  unfold f_X1_isOpen at hf
  refine lv_aload_n hx hb dX1_isOpen_0 rfl (lv_at hl 0 rfl) ?_
  refine gB1_10 hc hw fl_X1_40 dX1_isOpen_1 ?_
  refine lv_iconst (v := (-1 : Int32)) hx hb dX1_isOpen_4 (by decide) ?_
  refine lv_icmp_eq (tgt := 19) hx hb dX1_isOpen_5 (by decide) (fun z => ?_) (fun z => ?_)
  · have hf := it_pos z hf
    refine lv_iconst (v := (1 : Int32)) hx hb dX1_isOpen_19 (by decide) ?_
    refine lv_goto (tgt := 24) hx hb dX1_isOpen_20 (by decide) ?_
    exact retZ hc hr hlk hw nz1 hf dX1_isOpen_24
  · have hf := it_neg z hf
    refine lv_aload_n hx hb dX1_isOpen_8 rfl (lv_at hl 0 rfl) ?_
    refine gB1_9 hc hw fl_X1_47 dX1_isOpen_9 ?_
    refine lv_aload_n hx hb dX1_isOpen_12 rfl (lv_at hl 0 rfl) ?_
    refine gB1_10 hc hw fl_X1_40 dX1_isOpen_13 ?_
    refine lv_icmp_gt (tgt := 23) hx hb dX1_isOpen_16 (by decide) (fun z => ?_) (fun z => ?_)
    · have hf := it_pos z hf
      refine lv_iconst (v := (0 : Int32)) hx hb dX1_isOpen_23 (by decide) ?_
      exact retZ hc hr hlk hw nz0 hf dX1_isOpen_24
    · have hf := it_neg z hf
      refine lv_iconst (v := (1 : Int32)) hx hb dX1_isOpen_19 (by decide) ?_
      refine lv_goto (tgt := 24) hx hb dX1_isOpen_20 (by decide) ?_
      exact retZ hc hr hlk hw nz1 hf dX1_isOpen_24
def f_X9_inRange (a0 : Int32) (a1 : Int32) (a2 : Int32) (u : SS) : Option (Int32 × SS) :=
  if a1 ≤ a0 then (if a0 ≤ a2 then (some ((0 : Int32), u)) else (some ((-6 : Int32), u))) else (some ((-4 : Int32), u))
set_option maxHeartbeats 4000000 in
set_option maxRecDepth 100000 in
theorem c_X9_inRange (l : Launch) (ev : EV) (a0 : Int32) (a1 : Int32) (a2 : Int32) (u : SS) {r : Int32} {u' : SS} (hf : f_X9_inRange a0 a1 a2 u = some (r, u')) : MI wdB l yX9_inRange cX9_inRange 3 (some .int) 0 ev [.int a0, .int a1, .int a2] u r u' := by
  refine bodyI (by decide +kernel) rfl (Nat.le_of_ble_eq_true rfl) ?_
  intro p e s m below meth cd ls H locs hc hr hlk hw hl
  generalize hav : (List.toArray [.int a0, .int a1, .int a2] : Array Value) = av at hc ⊢
  obtain ⟨hx, hb, hml, hown, hts, hK, hZ⟩ := id hc
  have hl : lv_has ls 3 [(0, .int a0), (1, .int a1), (2, .int a2)] := hl
  unfold f_X9_inRange at hf
  refine lv_iload_n hx hb dX9_inRange_0 rfl (lv_at hl 0 rfl) ?_
  refine lv_iload_n hx hb dX9_inRange_1 rfl (lv_at hl 1 rfl) ?_
  refine lv_icmp_ge (tgt := 8) hx hb dX9_inRange_2 (by decide) (fun z => ?_) (fun z => ?_)
  · have hf := it_pos z hf
    refine lv_iload_n hx hb dX9_inRange_8 rfl (lv_at hl 0 rfl) ?_
    refine lv_iload_n hx hb dX9_inRange_9 rfl (lv_at hl 2 rfl) ?_
    refine lv_icmp_le (tgt := 18) hx hb dX9_inRange_10 (by decide) (fun z => ?_) (fun z => ?_)
    · have hf := it_pos z hf
      refine lv_iconst (v := (0 : Int32)) hx hb dX9_inRange_18 (by decide) ?_
      exact retI hc hr hlk hw hf dX9_inRange_19
    · have hf := it_neg z hf
      refine lv_bipush (v := (-6 : Int32)) hx hb dX9_inRange_13 (by decide) ?_
      refine lv_goto (tgt := 19) hx hb dX9_inRange_15 (by decide) ?_
      exact retI hc hr hlk hw hf dX9_inRange_19
  · have hf := it_neg z hf
    refine lv_bipush (v := (-4 : Int32)) hx hb dX9_inRange_5 (by decide) ?_
    exact retI hc hr hlk hw hf dX9_inRange_7
def f_X9_rate_L10 (u : SS) : Option (Int32 × SS) :=
  ob (f_X9_refuse (-1 : Int32) u) fun r3 u2 => some (r3, u2)
def f_X9_rate (a1 : Int32) (a2 : Int32) (u : SS) : Option (Int32 × SS) :=
  if a1 < (1 : Int32) then (f_X9_rate_L10 u) else (if a1 < (4 : Int32) then (ob (f_X1_isOpen u) fun r6 u5 => if r6 = 0 then (ob (f_X9_refuse (-3 : Int32) u5) fun r17 u16 => some (r17, u16)) else (ob (f_X9_inRange a2 (1 : Int32) (100000 : Int32) u5) fun r9 u8 => if r9 = 0 then (oi a1 4 (lt (gA u8 2 a1.toNatClampNeg) fun x10 => oi a1 4 (lt (tA u8 2 a1 a2) fun u11 => some (x10, u11)))) else (ob (f_X9_refuse r9 u8) fun r14 u13 => some (r14, u13)))) else (f_X9_rate_L10 u))
set_option maxHeartbeats 4000000 in
set_option maxRecDepth 100000 in
theorem c_X9_rate (l : Launch) (ev : EV) (a1 : Int32) (a2 : Int32) (u : SS) {r : Int32} {u' : SS} (hf : f_X9_rate a1 a2 u = some (r, u')) : MI wdB l yX9_rate cX9_rate 5 (some .int) 1 ev [.ref (ev.2.1 0), .int a1, .int a2] u r u' := by
  refine bodyI (by decide +kernel) rfl (Nat.le_of_ble_eq_true rfl) ?_
  intro p e s m below meth cd ls H locs hc hr hlk hw hl
  generalize hav : (List.toArray [.ref (ev.2.1 0), .int a1, .int a2] : Array Value) = av at hc ⊢
  obtain ⟨hx, hb, hml, hown, hts, hK, hZ⟩ := id hc
  have hl : lv_has ls 5 [(0, .ref (ev.2.1 0)), (1, .int a1), (2, .int a2)] := hl
  have wL10 : ∀ (u : SS) (H : Heap) (locs : List Loc) (ls : Array Slot), VW wdB ev s u H locs → lv_has ls 5 [(0, .ref (ev.2.1 0))] → f_X9_rate_L10  u = some (r, u') → W p l e (rmk 1) s m av below meth cd H locs 0 0 (ZI wdB ev s below av r u') (F0 m 10 ls []) := by
    intro  u H locs ls hw hl hf
    unfold f_X9_rate_L10 at hf
    refine lv_aload_n hx hb dX9_rate_10 rfl (lv_at hl 0 rfl) ?_
    refine lv_iconst (v := (-1 : Int32)) hx hb dX9_rate_11 (by decide) ?_
    obtain ⟨r3, u2, h1, hf⟩ := ob_some hf
    refine endI okB hw (runV_ok (As := [.int (-1 : Int32)]) (rest := []) okB hc hw (c_X9_refuse l ev (-1 : Int32) u h1 H.size) kv_X9_refuse ml_X9_62 (rvB0 ev u) hl.1 rfl rfl (Nat.le_of_ble_eq_true rfl) (rm_le (by decide) (by decide)) dX9_rate_12) (fun H locs hw => ?_)
    exact retI hc hr hlk hw hf dX9_rate_15
  unfold f_X9_rate at hf
  refine lv_iload_n hx hb dX9_rate_0 rfl (lv_at hl 1 rfl) ?_
  refine lv_iconst (v := (1 : Int32)) hx hb dX9_rate_1 (by decide) ?_
  refine lv_icmp_lt (tgt := 10) hx hb dX9_rate_2 (by decide) (fun z => ?_) (fun z => ?_)
  · have hf := it_pos z hf
    exact wL10 u H locs ls hw (lv_sub hl [0] rfl) hf
  · have hf := it_neg z hf
    refine lv_iload_n hx hb dX9_rate_5 rfl (lv_at hl 1 rfl) ?_
    refine lv_iconst (v := (4 : Int32)) hx hb dX9_rate_6 (by decide) ?_
    refine lv_icmp_lt (tgt := 16) hx hb dX9_rate_7 (by decide) (fun z => ?_) (fun z => ?_)
    · have hf := it_pos z hf
      refine lv_aload_n hx hb dX9_rate_16 rfl (lv_at hl 0 rfl) ?_
      refine gB0_0 hc hw fl_X9_12 dX9_rate_17 ?_
      obtain ⟨r6, u5, h4, hf⟩ := ob_some hf
      refine endI okB hw (runV_ok (As := []) (rest := []) okB hc hw (c_X1_isOpen l ev u h4 H.size) kv_X1_isOpen ml_X9_71 (rvB1 ev u) hl.1 rfl rfl (Nat.le_of_ble_eq_true rfl) (rm_le (by decide) (by decide)) dX9_rate_20) (fun H locs hw => ?_)
      refine lv_if_ne (tgt := 33) hx hb dX9_rate_23 (by decide) (fun z => ?_) (fun z => ?_)
      · have hf := it_neg z hf
        refine lv_iload_n hx hb dX9_rate_33 rfl (lv_at hl 2 rfl) ?_
        refine lv_iconst (v := (1 : Int32)) hx hb dX9_rate_34 (by decide) ?_
        refine lv_ldc (v := (100000 : Int32)) hx hb hown (hts _ ct_X9_75) dX9_rate_35 ?_
        obtain ⟨r9, u8, h7, hf⟩ := ob_some hf
        refine endI okB hw (runS_ok (As := [.int a2, .int (1 : Int32), .int (100000 : Int32)]) (rest := []) okB hc hw (c_X9_inRange l ev a2 (1 : Int32) (100000 : Int32) u5 h7 H.size) ks_X9_inRange ml_X9_76 hl.1 rfl rfl (Nat.le_of_ble_eq_true rfl) (rm_le (by decide) (by decide)) dX9_rate_37) (fun H locs hw => ?_)
        refine lv_istore_n (lv' := [(3, .int r9), (0, .ref (ev.2.1 0)), (1, .int a1), (2, .int a2)]) hx hb dX9_rate_40 rfl hl (by decide) rfl (fun ls hl => ?_)
        refine lv_iload_n hx hb dX9_rate_41 rfl (lv_at hl 0 rfl) ?_
        refine lv_if_eq (tgt := 51) hx hb dX9_rate_42 (by decide) (fun z => ?_) (fun z => ?_)
        · have hf := it_pos z hf
          refine lv_aload_n hx hb dX9_rate_51 rfl (lv_at hl 1 rfl) ?_
          refine gB0_0 hc hw fl_X9_12 dX9_rate_52 ?_
          refine gB1_1 hc hw fl_X9_80 dX9_rate_55 ?_
          refine lv_iload_n hx hb dX9_rate_58 rfl (lv_at hl 2 rfl) ?_
          obtain ⟨z, hf⟩ := oi_some hf
          refine aB11 hc hw z dX9_rate_59 ?_
          obtain ⟨x10, ex10, hf⟩ := lt_some hf
          refine tope ex10 ?_
          refine lv_istore (lv' := [(4, .int x10), (3, .int r9), (0, .ref (ev.2.1 0)), (1, .int a1), (2, .int a2)]) hx hb dX9_rate_60 hl (by decide) rfl (fun ls hl => ?_)
          refine lv_aload_n hx hb dX9_rate_62 rfl (lv_at hl 2 rfl) ?_
          refine gB0_0 hc hw fl_X9_12 dX9_rate_63 ?_
          refine gB1_1 hc hw fl_X9_80 dX9_rate_66 ?_
          refine lv_iload_n hx hb dX9_rate_69 rfl (lv_at hl 3 rfl) ?_
          refine lv_iload_n hx hb dX9_rate_70 rfl (lv_at hl 4 rfl) ?_
          obtain ⟨z, hf⟩ := oi_some hf
          refine tB11 hc hw z dX9_rate_71 (fun H locs hw => ?_)
          obtain ⟨u11, eu11, hf⟩ := lt_some hf
          have hw := VW.nm eu11 hw
          refine lv_iload hx hb dX9_rate_72 (lv_at hl 0 rfl) ?_
          exact retI hc hr hlk hw hf dX9_rate_74
        · have hf := it_neg z hf
          refine lv_aload_n hx hb dX9_rate_45 rfl (lv_at hl 1 rfl) ?_
          refine lv_iload_n hx hb dX9_rate_46 rfl (lv_at hl 0 rfl) ?_
          obtain ⟨r14, u13, h12, hf⟩ := ob_some hf
          refine endI okB hw (runV_ok (As := [.int r9]) (rest := []) okB hc hw (c_X9_refuse l ev r9 u8 h12 H.size) kv_X9_refuse ml_X9_62 (rvB0 ev u8) hl.1 rfl rfl (Nat.le_of_ble_eq_true rfl) (rm_le (by decide) (by decide)) dX9_rate_47) (fun H locs hw => ?_)
          exact retI hc hr hlk hw hf dX9_rate_50
      · have hf := it_pos z hf
        refine lv_aload_n hx hb dX9_rate_26 rfl (lv_at hl 0 rfl) ?_
        refine lv_bipush (v := (-3 : Int32)) hx hb dX9_rate_27 (by decide) ?_
        obtain ⟨r17, u16, h15, hf⟩ := ob_some hf
        refine endI okB hw (runV_ok (As := [.int (-3 : Int32)]) (rest := []) okB hc hw (c_X9_refuse l ev (-3 : Int32) u5 h15 H.size) kv_X9_refuse ml_X9_62 (rvB0 ev u5) hl.1 rfl rfl (Nat.le_of_ble_eq_true rfl) (rm_le (by decide) (by decide)) dX9_rate_29) (fun H locs hw => ?_)
        exact retI hc hr hlk hw hf dX9_rate_32
    · have hf := it_neg z hf
      exact wL10 u H locs ls hw (lv_sub hl [0] rfl) hf
def f_X1_drop (a1 : Int32) (u : SS) : Option SS :=
  oi a1 48 (lt (tZ u 3 a1 (0 : Int32)) fun u1 => oi a1 48 (lt (tA u1 5 a1 (0 : Int32)) fun u2 => some u2))
set_option maxHeartbeats 4000000 in
set_option maxRecDepth 100000 in
theorem c_X1_drop (l : Launch) (ev : EV) (a1 : Int32) (u : SS) {u' : SS} (hf : f_X1_drop a1 u = some u') : MV wdB l yX1_drop cX1_drop 2 none 0 ev [.ref (ev.2.1 1), .int a1] u u' := by
  refine bodyV (by decide +kernel) rfl (Nat.le_of_ble_eq_true rfl) ?_
  intro p e s m below meth cd ls H locs hc hr hlk hw hl
  generalize hav : (List.toArray [.ref (ev.2.1 1), .int a1] : Array Value) = av at hc ⊢
  obtain ⟨hx, hb, hml, hown, hts, hK, hZ⟩ := id hc
  have hl : lv_has ls 2 [(0, .ref (ev.2.1 1)), (1, .int a1)] := hl
  unfold f_X1_drop at hf
  refine lv_aload_n hx hb dX1_drop_0 rfl (lv_at hl 0 rfl) ?_
  refine gB1_2 hc hw fl_X1_18 dX1_drop_1 ?_
  refine lv_iload_n hx hb dX1_drop_4 rfl (lv_at hl 1 rfl) ?_
  refine lv_iconst (v := (0 : Int32)) hx hb dX1_drop_5 (by decide) ?_
  obtain ⟨z, hf⟩ := oi_some hf
  refine tB12 hc hw z dX1_drop_6 (fun H locs hw => ?_)
  obtain ⟨u1, eu1, hf⟩ := lt_some hf
  have hw := VW.nm eu1 hw
  refine lv_aload_n hx hb dX1_drop_7 rfl (lv_at hl 0 rfl) ?_
  refine gB1_4 hc hw fl_X1_25 dX1_drop_8 ?_
  refine lv_iload_n hx hb dX1_drop_11 rfl (lv_at hl 1 rfl) ?_
  refine lv_iconst (v := (0 : Int32)) hx hb dX1_drop_12 (by decide) ?_
  obtain ⟨z, hf⟩ := oi_some hf
  refine tB14 hc hw z dX1_drop_13 (fun H locs hw => ?_)
  obtain ⟨u2, eu2, hf⟩ := lt_some hf
  have hw := VW.nm eu2 hw
  exact retV hc hr hlk hw hf dX1_drop_14
def f_X1_keepLots_L21 (k2 : Int32 → Int32 → SS → Option SS) (b1 : Int32) (b2 : Int32) (u : SS) : Option SS :=
  lt (b2 + (1 : Int32)) fun x2 => k2 b1 x2 u
def b_X1_keepLots_L2 (k2 : Int32 → Int32 → SS → Option SS) (b1 : Int32) (b2 : Int32) (u : SS) : Option SS :=
  if (48 : Int32) ≤ b2 then (lt (sI u 2 b1) fun u1 => some u1) else (if (b2 - b2 / (6 : Int32) * (6 : Int32)) < b1 then (f_X1_keepLots_L21 k2 b1 b2 u) else (ov (f_X1_drop b2 u) fun u4 => f_X1_keepLots_L21 k2 b1 b2 u4))
def f_X1_keepLots_L2 : Nat → Int32 → Int32 → SS → Option SS
  | 0 => fun _ _ _ => none
  | n + 1 => b_X1_keepLots_L2 (f_X1_keepLots_L2 n)
def f_X1_keepLots (a1 : Int32) (u : SS) : Option SS :=
  f_X1_keepLots_L2 FU a1 (0 : Int32) u
set_option maxHeartbeats 4000000 in
set_option maxRecDepth 100000 in
theorem c_X1_keepLots (l : Launch) (ev : EV) (a1 : Int32) (u : SS) {u' : SS} (hf : f_X1_keepLots a1 u = some u') : MV wdB l yX1_keepLots cX1_keepLots 3 none 1 ev [.ref (ev.2.1 1), .int a1] u u' := by
  refine bodyV (by decide +kernel) rfl (Nat.le_of_ble_eq_true rfl) ?_
  intro p e s m below meth cd ls H locs hc hr hlk hw hl
  generalize hav : (List.toArray [.ref (ev.2.1 1), .int a1] : Array Value) = av at hc ⊢
  obtain ⟨hx, hb, hml, hown, hts, hK, hZ⟩ := id hc
  have hl : lv_has ls 3 [(0, .ref (ev.2.1 1)), (1, .int a1)] := hl
  have wL21 : ∀ (k2 : Int32 → Int32 → SS → Option SS) (hk2 : ∀ (b1 : Int32) (b2 : Int32) (u : SS) (H : Heap) (locs : List Loc) (ls : Array Slot), VW wdB ev s u H locs → lv_has ls 3 [(0, .ref (ev.2.1 1)), (1, .int b1), (2, .int b2)] → k2 b1 b2 u = some u' → W p l e (rmk 1) s m av below meth cd H locs 0 0 (ZV wdB ev s below av u') (F0 m 2 ls [])) (b1 : Int32) (b2 : Int32) (u : SS) (H : Heap) (locs : List Loc) (ls : Array Slot), VW wdB ev s u H locs → lv_has ls 3 [(0, .ref (ev.2.1 1)), (1, .int b1), (2, .int b2)] → f_X1_keepLots_L21 k2 b1 b2 u = some u' → W p l e (rmk 1) s m av below meth cd H locs 0 0 (ZV wdB ev s below av u') (F0 m 21 ls []) := by
    intro k2 hk2 b1 b2 u H locs ls hw hl hf
    unfold f_X1_keepLots_L21 at hf
    obtain ⟨x2, ex2, hf⟩ := lt_some hf
    refine lv_iinc (v := x2) (lv' := [(2, .int x2), (0, .ref (ev.2.1 1)), (1, .int b1)]) hx hb dX1_keepLots_21 hl (k := 2) rfl (by rw [ex2]; rfl) (by decide) rfl (fun ls hl => ?_)
    refine lv_goto (tgt := 2) hx hb dX1_keepLots_24 (by decide) ?_
    exact hk2 b1 x2 u H locs ls hw (lv_sub hl [1, 2, 0] rfl) hf
  have wL2 : ∀ (n : Nat) (b1 : Int32) (b2 : Int32) (u : SS) (H : Heap) (locs : List Loc) (ls : Array Slot), VW wdB ev s u H locs → lv_has ls 3 [(0, .ref (ev.2.1 1)), (1, .int b1), (2, .int b2)] → f_X1_keepLots_L2 n b1 b2 u = some u' → W p l e (rmk 1) s m av below meth cd H locs 0 0 (ZV wdB ev s below av u') (F0 m 2 ls []) := by
    intro n
    induction n with
    | zero =>
      intro b1 b2 u H locs ls hw hl hf
      cases hf
    | succ n hk2 =>
      intro b1 b2 u H locs ls hw hl hf
      have hf : b_X1_keepLots_L2 (f_X1_keepLots_L2 n) b1 b2 u = some u' := hf
      unfold b_X1_keepLots_L2 at hf
      refine lv_iload_n hx hb dX1_keepLots_2 rfl (lv_at hl 2 rfl) ?_
      refine lv_bipush (v := (48 : Int32)) hx hb dX1_keepLots_3 (by decide) ?_
      refine lv_icmp_ge (tgt := 27) hx hb dX1_keepLots_5 (by decide) (fun z => ?_) (fun z => ?_)
      · have hf := it_pos z hf
        refine lv_aload_n hx hb dX1_keepLots_27 rfl (lv_at hl 0 rfl) ?_
        refine lv_iload_n hx hb dX1_keepLots_28 rfl (lv_at hl 1 rfl) ?_
        refine pB1_11 hc hw fl_X1_44 dX1_keepLots_29 (fun H locs hw => ?_)
        obtain ⟨u1, eu1, hf⟩ := lt_some hf
        have hw := VW.nm eu1 hw
        exact retV hc hr hlk hw hf dX1_keepLots_32
      · have hf := it_neg z hf
        refine lv_iload_n hx hb dX1_keepLots_8 rfl (lv_at hl 2 rfl) ?_
        refine lv_bipush (v := (6 : Int32)) hx hb dX1_keepLots_9 (by decide) ?_
        refine lv_irem hx hb dX1_keepLots_11 (by decide) ?_
        refine lv_iload_n hx hb dX1_keepLots_12 rfl (lv_at hl 1 rfl) ?_
        refine lv_icmp_lt (tgt := 21) hx hb dX1_keepLots_13 (by decide) (fun z => ?_) (fun z => ?_)
        · have hf := it_pos z hf
          exact wL21 (f_X1_keepLots_L2 n) hk2 b1 b2 u H locs ls hw (lv_sub hl [0, 1, 2] rfl) hf
        · have hf := it_neg z hf
          refine lv_aload_n hx hb dX1_keepLots_16 rfl (lv_at hl 0 rfl) ?_
          refine lv_iload_n hx hb dX1_keepLots_17 rfl (lv_at hl 2 rfl) ?_
          obtain ⟨u4, h3, hf⟩ := ov_some hf
          refine endV okB hw (runV_ok (As := [.int b2]) (rest := []) okB hc hw (c_X1_drop l ev b2 u h3 H.size) kv_X1_drop ml_X1_50 (rvB1 ev u) hl.1 rfl rfl (Nat.le_of_ble_eq_true rfl) (rm_le (by decide) (by decide)) dX1_keepLots_18) (fun H locs hw => ?_)
          exact wL21 (f_X1_keepLots_L2 n) hk2 b1 b2 u4 H locs ls hw (lv_sub hl [0, 1, 2] rfl) hf
  unfold f_X1_keepLots at hf
  refine lv_iconst (v := (0 : Int32)) hx hb dX1_keepLots_0 (by decide) ?_
  refine lv_istore_n (lv' := [(2, .int (0 : Int32)), (0, .ref (ev.2.1 1)), (1, .int a1)]) hx hb dX1_keepLots_1 rfl hl (by decide) rfl (fun ls hl => ?_)
  exact wL2 FU a1 (0 : Int32) u H locs ls hw (lv_sub hl [1, 2, 0] rfl) hf
def f_X9_lots (a1 : Int32) (u : SS) : Option (Int32 × SS) :=
  ob (f_X1_isOpen u) fun r3 u2 => if r3 = 0 then (ob (f_X9_refuse (-3 : Int32) u2) fun r15 u14 => some (r15, u14)) else (ob (f_X9_inRange a1 (1 : Int32) (6 : Int32) u2) fun r6 u5 => if r6 = 0 then (lt (gI u5 2) fun x7 => ov (f_X1_keepLots a1 u5) fun u9 => some (x7, u9)) else (ob (f_X9_refuse r6 u5) fun r12 u11 => some (r12, u11)))
set_option maxHeartbeats 4000000 in
set_option maxRecDepth 100000 in
theorem c_X9_lots (l : Launch) (ev : EV) (a1 : Int32) (u : SS) {r : Int32} {u' : SS} (hf : f_X9_lots a1 u = some (r, u')) : MI wdB l yX9_lots cX9_lots 4 (some .int) 2 ev [.ref (ev.2.1 0), .int a1] u r u' := by
  refine bodyI (by decide +kernel) rfl (Nat.le_of_ble_eq_true rfl) ?_
  intro p e s m below meth cd ls H locs hc hr hlk hw hl
  generalize hav : (List.toArray [.ref (ev.2.1 0), .int a1] : Array Value) = av at hc ⊢
  obtain ⟨hx, hb, hml, hown, hts, hK, hZ⟩ := id hc
  have hl : lv_has ls 4 [(0, .ref (ev.2.1 0)), (1, .int a1)] := hl
  unfold f_X9_lots at hf
  refine lv_aload_n hx hb dX9_lots_0 rfl (lv_at hl 0 rfl) ?_
  refine gB0_0 hc hw fl_X9_12 dX9_lots_1 ?_
  obtain ⟨r3, u2, h1, hf⟩ := ob_some hf
  refine endI okB hw (runV_ok (As := []) (rest := []) okB hc hw (c_X1_isOpen l ev u h1 H.size) kv_X1_isOpen ml_X9_71 (rvB1 ev u) hl.1 rfl rfl (Nat.le_of_ble_eq_true rfl) (rm_le (by decide) (by decide)) dX9_lots_4) (fun H locs hw => ?_)
  refine lv_if_ne (tgt := 17) hx hb dX9_lots_7 (by decide) (fun z => ?_) (fun z => ?_)
  · have hf := it_neg z hf
    refine lv_iload_n hx hb dX9_lots_17 rfl (lv_at hl 1 rfl) ?_
    refine lv_iconst (v := (1 : Int32)) hx hb dX9_lots_18 (by decide) ?_
    refine lv_bipush (v := (6 : Int32)) hx hb dX9_lots_19 (by decide) ?_
    obtain ⟨r6, u5, h4, hf⟩ := ob_some hf
    refine endI okB hw (runS_ok (As := [.int a1, .int (1 : Int32), .int (6 : Int32)]) (rest := []) okB hc hw (c_X9_inRange l ev a1 (1 : Int32) (6 : Int32) u2 h4 H.size) ks_X9_inRange ml_X9_76 hl.1 rfl rfl (Nat.le_of_ble_eq_true rfl) (rm_le (by decide) (by decide)) dX9_lots_21) (fun H locs hw => ?_)
    refine lv_istore_n (lv' := [(2, .int r6), (0, .ref (ev.2.1 0)), (1, .int a1)]) hx hb dX9_lots_24 rfl hl (by decide) rfl (fun ls hl => ?_)
    refine lv_iload_n hx hb dX9_lots_25 rfl (lv_at hl 0 rfl) ?_
    refine lv_if_eq (tgt := 35) hx hb dX9_lots_26 (by decide) (fun z => ?_) (fun z => ?_)
    · have hf := it_pos z hf
      refine lv_aload_n hx hb dX9_lots_35 rfl (lv_at hl 1 rfl) ?_
      refine gB0_0 hc hw fl_X9_12 dX9_lots_36 ?_
      refine gB1_11 hc hw fl_X9_83 dX9_lots_39 ?_
      obtain ⟨x7, ex7, hf⟩ := lt_some hf
      refine tope ex7 ?_
      refine lv_istore_n (lv' := [(3, .int x7), (2, .int r6), (0, .ref (ev.2.1 0)), (1, .int a1)]) hx hb dX9_lots_42 rfl hl (by decide) rfl (fun ls hl => ?_)
      refine lv_aload_n hx hb dX9_lots_43 rfl (lv_at hl 2 rfl) ?_
      refine gB0_0 hc hw fl_X9_12 dX9_lots_44 ?_
      refine lv_iload_n hx hb dX9_lots_47 rfl (lv_at hl 3 rfl) ?_
      obtain ⟨u9, h8, hf⟩ := ov_some hf
      refine endV okB hw (runV_ok (As := [.int a1]) (rest := []) okB hc hw (c_X1_keepLots l ev a1 u5 h8 H.size) kv_X1_keepLots ml_X9_86 (rvB1 ev u5) hl.1 rfl rfl (Nat.le_of_ble_eq_true rfl) (rm_le (by decide) (by decide)) dX9_lots_48) (fun H locs hw => ?_)
      refine lv_iload_n hx hb dX9_lots_51 rfl (lv_at hl 0 rfl) ?_
      exact retI hc hr hlk hw hf dX9_lots_52
    · have hf := it_neg z hf
      refine lv_aload_n hx hb dX9_lots_29 rfl (lv_at hl 1 rfl) ?_
      refine lv_iload_n hx hb dX9_lots_30 rfl (lv_at hl 0 rfl) ?_
      obtain ⟨r12, u11, h10, hf⟩ := ob_some hf
      refine endI okB hw (runV_ok (As := [.int r6]) (rest := []) okB hc hw (c_X9_refuse l ev r6 u5 h10 H.size) kv_X9_refuse ml_X9_62 (rvB0 ev u5) hl.1 rfl rfl (Nat.le_of_ble_eq_true rfl) (rm_le (by decide) (by decide)) dX9_lots_31) (fun H locs hw => ?_)
      exact retI hc hr hlk hw hf dX9_lots_34
  · have hf := it_pos z hf
    refine lv_aload_n hx hb dX9_lots_10 rfl (lv_at hl 0 rfl) ?_
    refine lv_bipush (v := (-3 : Int32)) hx hb dX9_lots_11 (by decide) ?_
    obtain ⟨r15, u14, h13, hf⟩ := ob_some hf
    refine endI okB hw (runV_ok (As := [.int (-3 : Int32)]) (rest := []) okB hc hw (c_X9_refuse l ev (-3 : Int32) u2 h13 H.size) kv_X9_refuse ml_X9_62 (rvB0 ev u2) hl.1 rfl rfl (Nat.le_of_ble_eq_true rfl) (rm_le (by decide) (by decide)) dX9_lots_13) (fun H locs hw => ?_)
    exact retI hc hr hlk hw hf dX9_lots_16
def f_X9_closing (a1 : Int32) (u : SS) : Option (Int32 × SS) :=
  if (gI u 1) = (-1 : Int32) then (ob (f_X9_inRange a1 (gI u 0) (999999 : Int32) u) fun r3 u2 => if r3 = 0 then (lt (sI u2 1 a1) fun u4 => some ((1 : Int32), u4)) else (ob (f_X9_refuse r3 u2) fun r7 u6 => some (r7, u6))) else (ob (f_X9_refuse (-3 : Int32) u) fun r10 u9 => some (r10, u9))
set_option maxHeartbeats 4000000 in
set_option maxRecDepth 100000 in
theorem c_X9_closing (l : Launch) (ev : EV) (a1 : Int32) (u : SS) {r : Int32} {u' : SS} (hf : f_X9_closing a1 u = some (r, u')) : MI wdB l yX9_closing cX9_closing 3 (some .int) 1 ev [.ref (ev.2.1 0), .int a1] u r u' := by
  refine bodyI (by decide +kernel) rfl (Nat.le_of_ble_eq_true rfl) ?_
  intro p e s m below meth cd ls H locs hc hr hlk hw hl
  generalize hav : (List.toArray [.ref (ev.2.1 0), .int a1] : Array Value) = av at hc ⊢
  obtain ⟨hx, hb, hml, hown, hts, hK, hZ⟩ := id hc
  have hl : lv_has ls 3 [(0, .ref (ev.2.1 0)), (1, .int a1)] := hl
  unfold f_X9_closing at hf
  refine lv_aload_n hx hb dX9_closing_0 rfl (lv_at hl 0 rfl) ?_
  refine gB0_0 hc hw fl_X9_12 dX9_closing_1 ?_
  refine gB1_10 hc hw fl_X9_90 dX9_closing_4 ?_
  refine lv_iconst (v := (-1 : Int32)) hx hb dX9_closing_7 (by decide) ?_
  refine lv_icmp_eq (tgt := 18) hx hb dX9_closing_8 (by decide) (fun z => ?_) (fun z => ?_)
  · have hf := it_pos z hf
    refine lv_iload_n hx hb dX9_closing_18 rfl (lv_at hl 1 rfl) ?_
    refine lv_aload_n hx hb dX9_closing_19 rfl (lv_at hl 0 rfl) ?_
    refine gB0_0 hc hw fl_X9_12 dX9_closing_20 ?_
    refine gB1_9 hc hw fl_X9_67 dX9_closing_23 ?_
    refine lv_ldc (v := (999999 : Int32)) hx hb hown (hts _ ct_X9_66) dX9_closing_26 ?_
    obtain ⟨r3, u2, h1, hf⟩ := ob_some hf
    refine endI okB hw (runS_ok (As := [.int a1, .int (gI u 0), .int (999999 : Int32)]) (rest := []) okB hc hw (c_X9_inRange l ev a1 (gI u 0) (999999 : Int32) u h1 H.size) ks_X9_inRange ml_X9_76 hl.1 rfl rfl (Nat.le_of_ble_eq_true rfl) (rm_le (by decide) (by decide)) dX9_closing_28) (fun H locs hw => ?_)
    refine lv_istore_n (lv' := [(2, .int r3), (0, .ref (ev.2.1 0)), (1, .int a1)]) hx hb dX9_closing_31 rfl hl (by decide) rfl (fun ls hl => ?_)
    refine lv_iload_n hx hb dX9_closing_32 rfl (lv_at hl 0 rfl) ?_
    refine lv_if_eq (tgt := 42) hx hb dX9_closing_33 (by decide) (fun z => ?_) (fun z => ?_)
    · have hf := it_pos z hf
      refine lv_aload_n hx hb dX9_closing_42 rfl (lv_at hl 1 rfl) ?_
      refine gB0_0 hc hw fl_X9_12 dX9_closing_43 ?_
      refine lv_iload_n hx hb dX9_closing_46 rfl (lv_at hl 2 rfl) ?_
      refine pB1_10 hc hw fl_X9_90 dX9_closing_47 (fun H locs hw => ?_)
      obtain ⟨u4, eu4, hf⟩ := lt_some hf
      have hw := VW.nm eu4 hw
      refine lv_iconst (v := (1 : Int32)) hx hb dX9_closing_50 (by decide) ?_
      exact retI hc hr hlk hw hf dX9_closing_51
    · have hf := it_neg z hf
      refine lv_aload_n hx hb dX9_closing_36 rfl (lv_at hl 1 rfl) ?_
      refine lv_iload_n hx hb dX9_closing_37 rfl (lv_at hl 0 rfl) ?_
      obtain ⟨r7, u6, h5, hf⟩ := ob_some hf
      refine endI okB hw (runV_ok (As := [.int r3]) (rest := []) okB hc hw (c_X9_refuse l ev r3 u2 h5 H.size) kv_X9_refuse ml_X9_62 (rvB0 ev u2) hl.1 rfl rfl (Nat.le_of_ble_eq_true rfl) (rm_le (by decide) (by decide)) dX9_closing_38) (fun H locs hw => ?_)
      exact retI hc hr hlk hw hf dX9_closing_41
  · have hf := it_neg z hf
    refine lv_aload_n hx hb dX9_closing_11 rfl (lv_at hl 0 rfl) ?_
    refine lv_bipush (v := (-3 : Int32)) hx hb dX9_closing_12 (by decide) ?_
    obtain ⟨r10, u9, h8, hf⟩ := ob_some hf
    refine endI okB hw (runV_ok (As := [.int (-3 : Int32)]) (rest := []) okB hc hw (c_X9_refuse l ev (-3 : Int32) u h8 H.size) kv_X9_refuse ml_X9_62 (rvB0 ev u) hl.1 rfl rfl (Nat.le_of_ble_eq_true rfl) (rm_le (by decide) (by decide)) dX9_closing_14) (fun H locs hw => ?_)
    exact retI hc hr hlk hw hf dX9_closing_17
def f_X9_noBidder (a0 : Int32) (u : SS) : Option (Int32 × SS) :=
  if a0 < 0 then (some ((1 : Int32), u)) else (if a0 < (8 : Int32) then (some ((0 : Int32), u)) else (some ((1 : Int32), u)))
set_option maxHeartbeats 4000000 in
set_option maxRecDepth 100000 in
theorem c_X9_noBidder (l : Launch) (ev : EV) (a0 : Int32) (u : SS) {r : Int32} {u' : SS} (hf : f_X9_noBidder a0 u = some (r, u')) : MI wdB l yX9_noBidder cX9_noBidder 1 (some .boolean) 0 ev [.int a0] u r u' := by
  refine bodyI (by decide +kernel) rfl (Nat.le_of_ble_eq_true rfl) ?_
  intro p e s m below meth cd ls H locs hc hr hlk hw hl
  generalize hav : (List.toArray [.int a0] : Array Value) = av at hc ⊢
  obtain ⟨hx, hb, hml, hown, hts, hK, hZ⟩ := id hc
  have hl : lv_has ls 1 [(0, .int a0)] := hl
  unfold f_X9_noBidder at hf
  refine lv_iload_n hx hb dX9_noBidder_0 rfl (lv_at hl 0 rfl) ?_
  refine lv_if_lt (tgt := 10) hx hb dX9_noBidder_1 (by decide) (fun z => ?_) (fun z => ?_)
  · have hf := it_pos z hf
    refine lv_iconst (v := (1 : Int32)) hx hb dX9_noBidder_10 (by decide) ?_
    refine lv_goto (tgt := 15) hx hb dX9_noBidder_11 (by decide) ?_
    exact retZ hc hr hlk hw nz1 hf dX9_noBidder_15
  · have hf := it_neg z hf
    refine lv_iload_n hx hb dX9_noBidder_4 rfl (lv_at hl 0 rfl) ?_
    refine lv_bipush (v := (8 : Int32)) hx hb dX9_noBidder_5 (by decide) ?_
    refine lv_icmp_lt (tgt := 14) hx hb dX9_noBidder_7 (by decide) (fun z => ?_) (fun z => ?_)
    · have hf := it_pos z hf
      refine lv_iconst (v := (0 : Int32)) hx hb dX9_noBidder_14 (by decide) ?_
      exact retZ hc hr hlk hw nz0 hf dX9_noBidder_15
    · have hf := it_neg z hf
      refine lv_iconst (v := (1 : Int32)) hx hb dX9_noBidder_10 (by decide) ?_
      refine lv_goto (tgt := 15) hx hb dX9_noBidder_11 (by decide) ?_
      exact retZ hc hr hlk hw nz1 hf dX9_noBidder_15
def f_X9_noLot (a1 : Int32) (u : SS) : Option (Int32 × SS) :=
  if a1 < 0 then (some ((1 : Int32), u)) else (if a1 < (gI u 2) then (some ((0 : Int32), u)) else (some ((1 : Int32), u)))
set_option maxHeartbeats 4000000 in
set_option maxRecDepth 100000 in
theorem c_X9_noLot (l : Launch) (ev : EV) (a1 : Int32) (u : SS) {r : Int32} {u' : SS} (hf : f_X9_noLot a1 u = some (r, u')) : MI wdB l yX9_noLot cX9_noLot 2 (some .boolean) 0 ev [.ref (ev.2.1 0), .int a1] u r u' := by
  refine bodyI (by decide +kernel) rfl (Nat.le_of_ble_eq_true rfl) ?_
  intro p e s m below meth cd ls H locs hc hr hlk hw hl
  generalize hav : (List.toArray [.ref (ev.2.1 0), .int a1] : Array Value) = av at hc ⊢
  obtain ⟨hx, hb, hml, hown, hts, hK, hZ⟩ := id hc
  have hl : lv_has ls 2 [(0, .ref (ev.2.1 0)), (1, .int a1)] := hl
  unfold f_X9_noLot at hf
  refine lv_iload_n hx hb dX9_noLot_0 rfl (lv_at hl 1 rfl) ?_
  refine lv_if_lt (tgt := 15) hx hb dX9_noLot_1 (by decide) (fun z => ?_) (fun z => ?_)
  · have hf := it_pos z hf
    refine lv_iconst (v := (1 : Int32)) hx hb dX9_noLot_15 (by decide) ?_
    refine lv_goto (tgt := 20) hx hb dX9_noLot_16 (by decide) ?_
    exact retZ hc hr hlk hw nz1 hf dX9_noLot_20
  · have hf := it_neg z hf
    refine lv_iload_n hx hb dX9_noLot_4 rfl (lv_at hl 1 rfl) ?_
    refine lv_aload_n hx hb dX9_noLot_5 rfl (lv_at hl 0 rfl) ?_
    refine gB0_0 hc hw fl_X9_12 dX9_noLot_6 ?_
    refine gB1_11 hc hw fl_X9_83 dX9_noLot_9 ?_
    refine lv_icmp_lt (tgt := 19) hx hb dX9_noLot_12 (by decide) (fun z => ?_) (fun z => ?_)
    · have hf := it_pos z hf
      refine lv_iconst (v := (0 : Int32)) hx hb dX9_noLot_19 (by decide) ?_
      exact retZ hc hr hlk hw nz0 hf dX9_noLot_20
    · have hf := it_neg z hf
      refine lv_iconst (v := (1 : Int32)) hx hb dX9_noLot_15 (by decide) ?_
      refine lv_goto (tgt := 20) hx hb dX9_noLot_16 (by decide) ?_
      exact retZ hc hr hlk hw nz1 hf dX9_noLot_20
def f_X9_noBid (a1 : Int32) (a2 : Int32) (u : SS) : Option (Int32 × SS) :=
  ob (f_X9_noBidder a1 u) fun r3 u2 => if r3 = 0 then (ob (f_X9_noLot a2 u2) fun r6 u5 => if r6 = 0 then (some ((0 : Int32), u5)) else (some ((1 : Int32), u5))) else (some ((1 : Int32), u2))
set_option maxHeartbeats 4000000 in
set_option maxRecDepth 100000 in
theorem c_X9_noBid (l : Launch) (ev : EV) (a1 : Int32) (a2 : Int32) (u : SS) {r : Int32} {u' : SS} (hf : f_X9_noBid a1 a2 u = some (r, u')) : MI wdB l yX9_noBid cX9_noBid 3 (some .boolean) 1 ev [.ref (ev.2.1 0), .int a1, .int a2] u r u' := by
  refine bodyI (by decide +kernel) rfl (Nat.le_of_ble_eq_true rfl) ?_
  intro p e s m below meth cd ls H locs hc hr hlk hw hl
  generalize hav : (List.toArray [.ref (ev.2.1 0), .int a1, .int a2] : Array Value) = av at hc ⊢
  obtain ⟨hx, hb, hml, hown, hts, hK, hZ⟩ := id hc
  have hl : lv_has ls 3 [(0, .ref (ev.2.1 0)), (1, .int a1), (2, .int a2)] := hl
  unfold f_X9_noBid at hf
  refine lv_iload_n hx hb dX9_noBid_0 rfl (lv_at hl 1 rfl) ?_
  obtain ⟨r3, u2, h1, hf⟩ := ob_some hf
  refine endI okB hw (runS_ok (As := [.int a1]) (rest := []) okB hc hw (c_X9_noBidder l ev a1 u h1 H.size) ks_X9_noBidder ml_X9_144 hl.1 rfl rfl (Nat.le_of_ble_eq_true rfl) (rm_le (by decide) (by decide)) dX9_noBid_1) (fun H locs hw => ?_)
  refine lv_if_ne (tgt := 15) hx hb dX9_noBid_4 (by decide) (fun z => ?_) (fun z => ?_)
  · have hf := it_neg z hf
    refine lv_iconst (v := (1 : Int32)) hx hb dX9_noBid_15 (by decide) ?_
    refine lv_goto (tgt := 20) hx hb dX9_noBid_16 (by decide) ?_
    exact retZ hc hr hlk hw nz1 hf dX9_noBid_20
  · have hf := it_pos z hf
    refine lv_aload_n hx hb dX9_noBid_7 rfl (lv_at hl 0 rfl) ?_
    refine lv_iload_n hx hb dX9_noBid_8 rfl (lv_at hl 2 rfl) ?_
    obtain ⟨r6, u5, h4, hf⟩ := ob_some hf
    refine endI okB hw (runV_ok (As := [.int a2]) (rest := []) okB hc hw (c_X9_noLot l ev a2 u2 h4 H.size) kv_X9_noLot ml_X9_193 (rvB0 ev u2) hl.1 rfl rfl (Nat.le_of_ble_eq_true rfl) (rm_le (by decide) (by decide)) dX9_noBid_9) (fun H locs hw => ?_)
    refine lv_if_eq (tgt := 19) hx hb dX9_noBid_12 (by decide) (fun z => ?_) (fun z => ?_)
    · have hf := it_pos z hf
      refine lv_iconst (v := (0 : Int32)) hx hb dX9_noBid_19 (by decide) ?_
      exact retZ hc hr hlk hw nz0 hf dX9_noBid_20
    · have hf := it_neg z hf
      refine lv_iconst (v := (1 : Int32)) hx hb dX9_noBid_15 (by decide) ?_
      refine lv_goto (tgt := 20) hx hb dX9_noBid_16 (by decide) ?_
      exact retZ hc hr hlk hw nz1 hf dX9_noBid_20
def f_X9_cell (a0 : Int32) (a1 : Int32) (u : SS) : Option (Int32 × SS) :=
  some (((a0 * (6 : Int32)) + a1), u)
set_option maxHeartbeats 4000000 in
set_option maxRecDepth 100000 in
theorem c_X9_cell (l : Launch) (ev : EV) (a0 : Int32) (a1 : Int32) (u : SS) {r : Int32} {u' : SS} (hf : f_X9_cell a0 a1 u = some (r, u')) : MI wdB l yX9_cell cX9_cell 2 (some .int) 0 ev [.int a0, .int a1] u r u' := by
  refine bodyI (by decide +kernel) rfl (Nat.le_of_ble_eq_true rfl) ?_
  intro p e s m below meth cd ls H locs hc hr hlk hw hl
  generalize hav : (List.toArray [.int a0, .int a1] : Array Value) = av at hc ⊢
  obtain ⟨hx, hb, hml, hown, hts, hK, hZ⟩ := id hc
  have hl : lv_has ls 2 [(0, .int a0), (1, .int a1)] := hl
  unfold f_X9_cell at hf
  refine lv_iload_n hx hb dX9_cell_0 rfl (lv_at hl 0 rfl) ?_
  refine lv_bipush (v := (6 : Int32)) hx hb dX9_cell_1 (by decide) ?_
  refine lv_imul hx hb dX9_cell_3 ?_
  refine lv_iload_n hx hb dX9_cell_4 rfl (lv_at hl 1 rfl) ?_
  refine lv_iadd hx hb dX9_cell_5 ?_
  exact retI hc hr hlk hw hf dX9_cell_6
def f_X1_putTerms (a1 : Int32) (a2 : Int32) (a3 : Int32) (a4 : Int32) (u : SS) : Option SS :=
  oi a1 48 (lt (tZ u 3 a1 (1 : Int32)) fun u1 => oi a1 48 (lt (tA u1 7 a1 a2) fun u2 => oi a1 48 (lt (tA u2 8 a1 a3) fun u3 => oi a1 48 (lt (tA u3 9 a1 a4) fun u4 => some u4))))
set_option maxHeartbeats 4000000 in
set_option maxRecDepth 100000 in
theorem c_X1_putTerms (l : Launch) (ev : EV) (a1 : Int32) (a2 : Int32) (a3 : Int32) (a4 : Int32) (u : SS) {u' : SS} (hf : f_X1_putTerms a1 a2 a3 a4 u = some u') : MV wdB l yX1_putTerms cX1_putTerms 5 none 0 ev [.ref (ev.2.1 1), .int a1, .int a2, .int a3, .int a4] u u' := by
  refine bodyV (by decide +kernel) rfl (Nat.le_of_ble_eq_true rfl) ?_
  intro p e s m below meth cd ls H locs hc hr hlk hw hl
  generalize hav : (List.toArray [.ref (ev.2.1 1), .int a1, .int a2, .int a3, .int a4] : Array Value) = av at hc ⊢
  obtain ⟨hx, hb, hml, hown, hts, hK, hZ⟩ := id hc
  have hl : lv_has ls 5 [(0, .ref (ev.2.1 1)), (1, .int a1), (2, .int a2), (3, .int a3), (4, .int a4)] := hl
  unfold f_X1_putTerms at hf
  refine lv_aload_n hx hb dX1_putTerms_0 rfl (lv_at hl 0 rfl) ?_
  refine gB1_2 hc hw fl_X1_18 dX1_putTerms_1 ?_
  refine lv_iload_n hx hb dX1_putTerms_4 rfl (lv_at hl 1 rfl) ?_
  refine lv_iconst (v := (1 : Int32)) hx hb dX1_putTerms_5 (by decide) ?_
  obtain ⟨z, hf⟩ := oi_some hf
  refine tB12 hc hw z dX1_putTerms_6 (fun H locs hw => ?_)
  obtain ⟨u1, eu1, hf⟩ := lt_some hf
  have hw := VW.nm eu1 hw
  refine lv_aload_n hx hb dX1_putTerms_7 rfl (lv_at hl 0 rfl) ?_
  refine gB1_6 hc hw fl_X1_31 dX1_putTerms_8 ?_
  refine lv_iload_n hx hb dX1_putTerms_11 rfl (lv_at hl 1 rfl) ?_
  refine lv_iload_n hx hb dX1_putTerms_12 rfl (lv_at hl 2 rfl) ?_
  obtain ⟨z, hf⟩ := oi_some hf
  refine tB16 hc hw z dX1_putTerms_13 (fun H locs hw => ?_)
  obtain ⟨u2, eu2, hf⟩ := lt_some hf
  have hw := VW.nm eu2 hw
  refine lv_aload_n hx hb dX1_putTerms_14 rfl (lv_at hl 0 rfl) ?_
  refine gB1_7 hc hw fl_X1_34 dX1_putTerms_15 ?_
  refine lv_iload_n hx hb dX1_putTerms_18 rfl (lv_at hl 1 rfl) ?_
  refine lv_iload_n hx hb dX1_putTerms_19 rfl (lv_at hl 3 rfl) ?_
  obtain ⟨z, hf⟩ := oi_some hf
  refine tB17 hc hw z dX1_putTerms_20 (fun H locs hw => ?_)
  obtain ⟨u3, eu3, hf⟩ := lt_some hf
  have hw := VW.nm eu3 hw
  refine lv_aload_n hx hb dX1_putTerms_21 rfl (lv_at hl 0 rfl) ?_
  refine gB1_8 hc hw fl_X1_37 dX1_putTerms_22 ?_
  refine lv_iload_n hx hb dX1_putTerms_25 rfl (lv_at hl 1 rfl) ?_
  refine lv_iload hx hb dX1_putTerms_26 (lv_at hl 4 rfl) ?_
  obtain ⟨z, hf⟩ := oi_some hf
  refine tB18 hc hw z dX1_putTerms_28 (fun H locs hw => ?_)
  obtain ⟨u4, eu4, hf⟩ := lt_some hf
  have hw := VW.nm eu4 hw
  exact retV hc hr hlk hw hf dX1_putTerms_29
def f_X1_putItems (a1 : Int32) (a2 : Int32) (a3 : Int32) (a4 : Int32) (a5 : Int32) (u : SS) : Option SS :=
  lt (a1 * (4 : Int32)) fun x1 => oi x1 192 (lt (tA u 6 x1 a2) fun u2 => oi (x1 + (1 : Int32)) 192 (lt (tA u2 6 (x1 + (1 : Int32)) a3) fun u3 => oi (x1 + (2 : Int32)) 192 (lt (tA u3 6 (x1 + (2 : Int32)) a4) fun u4 => oi (x1 + (3 : Int32)) 192 (lt (tA u4 6 (x1 + (3 : Int32)) a5) fun u5 => some u5))))
set_option maxHeartbeats 4000000 in
set_option maxRecDepth 100000 in
theorem c_X1_putItems (l : Launch) (ev : EV) (a1 : Int32) (a2 : Int32) (a3 : Int32) (a4 : Int32) (a5 : Int32) (u : SS) {u' : SS} (hf : f_X1_putItems a1 a2 a3 a4 a5 u = some u') : MV wdB l yX1_putItems cX1_putItems 7 none 0 ev [.ref (ev.2.1 1), .int a1, .int a2, .int a3, .int a4, .int a5] u u' := by
  refine bodyV (by decide +kernel) rfl (Nat.le_of_ble_eq_true rfl) ?_
  intro p e s m below meth cd ls H locs hc hr hlk hw hl
  generalize hav : (List.toArray [.ref (ev.2.1 1), .int a1, .int a2, .int a3, .int a4, .int a5] : Array Value) = av at hc ⊢
  obtain ⟨hx, hb, hml, hown, hts, hK, hZ⟩ := id hc
  have hl : lv_has ls 7 [(0, .ref (ev.2.1 1)), (1, .int a1), (2, .int a2), (3, .int a3), (4, .int a4), (5, .int a5)] := hl
  unfold f_X1_putItems at hf
  refine lv_iload_n hx hb dX1_putItems_0 rfl (lv_at hl 1 rfl) ?_
  refine lv_iconst (v := (4 : Int32)) hx hb dX1_putItems_1 (by decide) ?_
  refine lv_imul hx hb dX1_putItems_2 ?_
  obtain ⟨x1, ex1, hf⟩ := lt_some hf
  refine tope ex1 ?_
  refine lv_istore (lv' := [(6, .int x1), (0, .ref (ev.2.1 1)), (1, .int a1), (2, .int a2), (3, .int a3), (4, .int a4), (5, .int a5)]) hx hb dX1_putItems_3 hl (by decide) rfl (fun ls hl => ?_)
  refine lv_aload_n hx hb dX1_putItems_5 rfl (lv_at hl 1 rfl) ?_
  refine gB1_5 hc hw fl_X1_28 dX1_putItems_6 ?_
  refine lv_iload hx hb dX1_putItems_9 (lv_at hl 0 rfl) ?_
  refine lv_iload_n hx hb dX1_putItems_11 rfl (lv_at hl 3 rfl) ?_
  obtain ⟨z, hf⟩ := oi_some hf
  refine tB15 hc hw z dX1_putItems_12 (fun H locs hw => ?_)
  obtain ⟨u2, eu2, hf⟩ := lt_some hf
  have hw := VW.nm eu2 hw
  refine lv_aload_n hx hb dX1_putItems_13 rfl (lv_at hl 1 rfl) ?_
  refine gB1_5 hc hw fl_X1_28 dX1_putItems_14 ?_
  refine lv_iload hx hb dX1_putItems_17 (lv_at hl 0 rfl) ?_
  refine lv_iconst (v := (1 : Int32)) hx hb dX1_putItems_19 (by decide) ?_
  refine lv_iadd hx hb dX1_putItems_20 ?_
  refine lv_iload_n hx hb dX1_putItems_21 rfl (lv_at hl 4 rfl) ?_
  obtain ⟨z, hf⟩ := oi_some hf
  refine tB15 hc hw z dX1_putItems_22 (fun H locs hw => ?_)
  obtain ⟨u3, eu3, hf⟩ := lt_some hf
  have hw := VW.nm eu3 hw
  refine lv_aload_n hx hb dX1_putItems_23 rfl (lv_at hl 1 rfl) ?_
  refine gB1_5 hc hw fl_X1_28 dX1_putItems_24 ?_
  refine lv_iload hx hb dX1_putItems_27 (lv_at hl 0 rfl) ?_
  refine lv_iconst (v := (2 : Int32)) hx hb dX1_putItems_29 (by decide) ?_
  refine lv_iadd hx hb dX1_putItems_30 ?_
  refine lv_iload hx hb dX1_putItems_31 (lv_at hl 5 rfl) ?_
  obtain ⟨z, hf⟩ := oi_some hf
  refine tB15 hc hw z dX1_putItems_33 (fun H locs hw => ?_)
  obtain ⟨u4, eu4, hf⟩ := lt_some hf
  have hw := VW.nm eu4 hw
  refine lv_aload_n hx hb dX1_putItems_34 rfl (lv_at hl 1 rfl) ?_
  refine gB1_5 hc hw fl_X1_28 dX1_putItems_35 ?_
  refine lv_iload hx hb dX1_putItems_38 (lv_at hl 0 rfl) ?_
  refine lv_iconst (v := (3 : Int32)) hx hb dX1_putItems_40 (by decide) ?_
  refine lv_iadd hx hb dX1_putItems_41 ?_
  refine lv_iload hx hb dX1_putItems_42 (lv_at hl 6 rfl) ?_
  obtain ⟨z, hf⟩ := oi_some hf
  refine tB15 hc hw z dX1_putItems_44 (fun H locs hw => ?_)
  obtain ⟨u5, eu5, hf⟩ := lt_some hf
  have hw := VW.nm eu5 hw
  exact retV hc hr hlk hw hf dX1_putItems_45
def f_X9_bid_L18 (u : SS) : Option (Int32 × SS) :=
  ob (f_X9_refuse (-1 : Int32) u) fun r6 u5 => some (r6, u5)
def f_X9_bid_L58 (u : SS) : Option (Int32 × SS) :=
  ob (f_X9_refuse (-4 : Int32) u) fun r10 u9 => some (r10, u9)
def f_X9_bid_L105 (u : SS) : Option (Int32 × SS) :=
  ob (f_X9_refuse (-6 : Int32) u) fun r14 u13 => some (r14, u13)
def f_X9_bid (a1 : Int32) (a2 : Int32) (a3 : Int32) (a4 : Int32) (a5 : Int32) (a6 : Int32) (a7 : Int32) (a8 : Int32) (a9 : Int32) (u : SS) : Option (Int32 × SS) :=
  ob (f_X9_noBid a1 a2 u) fun r3 u2 => if r3 = 0 then (if a3 < 0 then (f_X9_bid_L18 u2) else (if a3 < (4 : Int32) then (lt (if (if a7 < a6 then a7 else a6) < (if a5 < a4 then a5 else a4) then (if a7 < a6 then a7 else a6) else (if a5 < a4 then a5 else a4)) fun x7 => if x7 < 0 then (f_X9_bid_L58 u2) else (if a8 < 0 then (f_X9_bid_L58 u2) else (if 0 ≤ a9 then (lt (if (if a4 < a5 then a5 else a4) < (if a6 < a7 then a7 else a6) then (if a6 < a7 then a7 else a6) else (if a4 < a5 then a5 else a4)) fun x11 => if (99999 : Int32) < x11 then (f_X9_bid_L105 u2) else (if (999999 : Int32) < a8 then (f_X9_bid_L105 u2) else (if a9 ≤ (99999 : Int32) then (ob (f_X1_isOpen u2) fun r17 u16 => if r17 = 0 then (lt (sI u16 3 ((gI u16 3) + (1 : Int32))) fun u28 => some ((-9 : Int32), u28)) else (ob (f_X9_cell a1 a2 u16) fun r20 u19 => oi r20 48 (lt (gA u19 3 r20.toNatClampNeg) fun x21 => ov (f_X1_drop r20 u19) fun u23 => ov (f_X1_putTerms r20 a3 a8 a9 u23) fun u25 => ov (f_X1_putItems r20 a4 a5 a6 a7 u25) fun u27 => if x21 = 0 then (some ((1 : Int32), u27)) else (some ((0 : Int32), u27))))) else (f_X9_bid_L105 u2)))) else (f_X9_bid_L58 u2)))) else (f_X9_bid_L18 u2))) else (f_X9_bid_L18 u2)
set_option maxHeartbeats 4000000 in
set_option maxRecDepth 100000 in
theorem c_X9_bid (l : Launch) (ev : EV) (a1 : Int32) (a2 : Int32) (a3 : Int32) (a4 : Int32) (a5 : Int32) (a6 : Int32) (a7 : Int32) (a8 : Int32) (a9 : Int32) (u : SS) {r : Int32} {u' : SS} (hf : f_X9_bid a1 a2 a3 a4 a5 a6 a7 a8 a9 u = some (r, u')) : MI wdB l yX9_bid cX9_bid 14 (some .int) 2 ev [.ref (ev.2.1 0), .int a1, .int a2, .int a3, .int a4, .int a5, .int a6, .int a7, .int a8, .int a9] u r u' := by
  refine bodyI (by decide +kernel) rfl (Nat.le_of_ble_eq_true rfl) ?_
  intro p e s m below meth cd ls H locs hc hr hlk hw hl
  generalize hav : (List.toArray [.ref (ev.2.1 0), .int a1, .int a2, .int a3, .int a4, .int a5, .int a6, .int a7, .int a8, .int a9] : Array Value) = av at hc ⊢
  obtain ⟨hx, hb, hml, hown, hts, hK, hZ⟩ := id hc
  have hl : lv_has ls 14 [(0, .ref (ev.2.1 0)), (1, .int a1), (2, .int a2), (3, .int a3), (4, .int a4), (5, .int a5), (6, .int a6), (7, .int a7), (8, .int a8), (9, .int a9)] := hl
  have wL18 : ∀ (u : SS) (H : Heap) (locs : List Loc) (ls : Array Slot), VW wdB ev s u H locs → lv_has ls 14 [(0, .ref (ev.2.1 0))] → f_X9_bid_L18  u = some (r, u') → W p l e (rmk 2) s m av below meth cd H locs 0 0 (ZI wdB ev s below av r u') (F0 m 18 ls []) := by
    intro  u H locs ls hw hl hf
    unfold f_X9_bid_L18 at hf
    refine lv_aload_n hx hb dX9_bid_18 rfl (lv_at hl 0 rfl) ?_
    refine lv_iconst (v := (-1 : Int32)) hx hb dX9_bid_19 (by decide) ?_
    obtain ⟨r6, u5, h4, hf⟩ := ob_some hf
    refine endI okB hw (runV_ok (As := [.int (-1 : Int32)]) (rest := []) okB hc hw (c_X9_refuse l ev (-1 : Int32) u h4 H.size) kv_X9_refuse ml_X9_62 (rvB0 ev u) hl.1 rfl rfl (Nat.le_of_ble_eq_true rfl) (rm_le (by decide) (by decide)) dX9_bid_20) (fun H locs hw => ?_)
    exact retI hc hr hlk hw hf dX9_bid_23
  have wL58 : ∀ (u : SS) (H : Heap) (locs : List Loc) (ls : Array Slot), VW wdB ev s u H locs → lv_has ls 14 [(0, .ref (ev.2.1 0))] → f_X9_bid_L58  u = some (r, u') → W p l e (rmk 2) s m av below meth cd H locs 0 0 (ZI wdB ev s below av r u') (F0 m 58 ls []) := by
    intro  u H locs ls hw hl hf
    unfold f_X9_bid_L58 at hf
    refine lv_aload_n hx hb dX9_bid_58 rfl (lv_at hl 0 rfl) ?_
    refine lv_bipush (v := (-4 : Int32)) hx hb dX9_bid_59 (by decide) ?_
    obtain ⟨r10, u9, h8, hf⟩ := ob_some hf
    refine endI okB hw (runV_ok (As := [.int (-4 : Int32)]) (rest := []) okB hc hw (c_X9_refuse l ev (-4 : Int32) u h8 H.size) kv_X9_refuse ml_X9_62 (rvB0 ev u) hl.1 rfl rfl (Nat.le_of_ble_eq_true rfl) (rm_le (by decide) (by decide)) dX9_bid_61) (fun H locs hw => ?_)
    exact retI hc hr hlk hw hf dX9_bid_64
  have wL105 : ∀ (u : SS) (H : Heap) (locs : List Loc) (ls : Array Slot), VW wdB ev s u H locs → lv_has ls 14 [(0, .ref (ev.2.1 0))] → f_X9_bid_L105  u = some (r, u') → W p l e (rmk 2) s m av below meth cd H locs 0 0 (ZI wdB ev s below av r u') (F0 m 105 ls []) := by
    intro  u H locs ls hw hl hf
    unfold f_X9_bid_L105 at hf
    refine lv_aload_n hx hb dX9_bid_105 rfl (lv_at hl 0 rfl) ?_
    refine lv_bipush (v := (-6 : Int32)) hx hb dX9_bid_106 (by decide) ?_
    obtain ⟨r14, u13, h12, hf⟩ := ob_some hf
    refine endI okB hw (runV_ok (As := [.int (-6 : Int32)]) (rest := []) okB hc hw (c_X9_refuse l ev (-6 : Int32) u h12 H.size) kv_X9_refuse ml_X9_62 (rvB0 ev u) hl.1 rfl rfl (Nat.le_of_ble_eq_true rfl) (rm_le (by decide) (by decide)) dX9_bid_108) (fun H locs hw => ?_)
    exact retI hc hr hlk hw hf dX9_bid_111
  unfold f_X9_bid at hf
  refine lv_aload_n hx hb dX9_bid_0 rfl (lv_at hl 0 rfl) ?_
  refine lv_iload_n hx hb dX9_bid_1 rfl (lv_at hl 1 rfl) ?_
  refine lv_iload_n hx hb dX9_bid_2 rfl (lv_at hl 2 rfl) ?_
  obtain ⟨r3, u2, h1, hf⟩ := ob_some hf
  refine endI okB hw (runV_ok (As := [.int a1, .int a2]) (rest := []) okB hc hw (c_X9_noBid l ev a1 a2 u h1 H.size) kv_X9_noBid ml_X9_93 (rvB0 ev u) hl.1 rfl rfl (Nat.le_of_ble_eq_true rfl) (rm_le (by decide) (by decide)) dX9_bid_3) (fun H locs hw => ?_)
  refine lv_if_ne (tgt := 18) hx hb dX9_bid_6 (by decide) (fun z => ?_) (fun z => ?_)
  · have hf := it_neg z hf
    exact wL18 u2 H locs ls hw (lv_sub hl [0] rfl) hf
  · have hf := it_pos z hf
    refine lv_iload_n hx hb dX9_bid_9 rfl (lv_at hl 3 rfl) ?_
    refine lv_if_lt (tgt := 18) hx hb dX9_bid_10 (by decide) (fun z => ?_) (fun z => ?_)
    · have hf := it_pos z hf
      exact wL18 u2 H locs ls hw (lv_sub hl [0] rfl) hf
    · have hf := it_neg z hf
      refine lv_iload_n hx hb dX9_bid_13 rfl (lv_at hl 3 rfl) ?_
      refine lv_iconst (v := (4 : Int32)) hx hb dX9_bid_14 (by decide) ?_
      refine lv_icmp_lt (tgt := 24) hx hb dX9_bid_15 (by decide) (fun z => ?_) (fun z => ?_)
      · have hf := it_pos z hf
        refine lv_iload hx hb dX9_bid_24 (lv_at hl 4 rfl) ?_
        refine lv_iload hx hb dX9_bid_26 (lv_at hl 5 rfl) ?_
        refine va_mmin hx hb (hml.trans hl.1.symm) hown (hts _ ml_X9_97) (hts _ va_mmin_st) (hts _ math_in) (hts _ va_mmin_cd) (by decide) (Nat.le_of_ble_eq_true rfl) (Nat.zero_le _) (Nat.zero_le _) dX9_bid_28 ?_
        refine lv_iload hx hb dX9_bid_31 (lv_at hl 6 rfl) ?_
        refine lv_iload hx hb dX9_bid_33 (lv_at hl 7 rfl) ?_
        refine va_mmin hx hb (hml.trans hl.1.symm) hown (hts _ ml_X9_97) (hts _ va_mmin_st) (hts _ math_in) (hts _ va_mmin_cd) (by decide) (Nat.le_of_ble_eq_true rfl) (Nat.zero_le _) (Nat.zero_le _) dX9_bid_35 ?_
        refine va_mmin hx hb (hml.trans hl.1.symm) hown (hts _ ml_X9_97) (hts _ va_mmin_st) (hts _ math_in) (hts _ va_mmin_cd) (by decide) (Nat.le_of_ble_eq_true rfl) (Nat.zero_le _) (Nat.zero_le _) dX9_bid_38 ?_
        obtain ⟨x7, ex7, hf⟩ := lt_some hf
        refine tope ex7 ?_
        refine lv_istore (lv' := [(10, .int x7), (0, .ref (ev.2.1 0)), (1, .int a1), (2, .int a2), (3, .int a3), (4, .int a4), (5, .int a5), (6, .int a6), (7, .int a7), (8, .int a8), (9, .int a9)]) hx hb dX9_bid_41 hl (by decide) rfl (fun ls hl => ?_)
        refine lv_iload hx hb dX9_bid_43 (lv_at hl 0 rfl) ?_
        refine lv_if_lt (tgt := 58) hx hb dX9_bid_45 (by decide) (fun z => ?_) (fun z => ?_)
        · have hf := it_pos z hf
          exact wL58 u2 H locs ls hw (lv_sub hl [1] rfl) hf
        · have hf := it_neg z hf
          refine lv_iload hx hb dX9_bid_48 (lv_at hl 9 rfl) ?_
          refine lv_if_lt (tgt := 58) hx hb dX9_bid_50 (by decide) (fun z => ?_) (fun z => ?_)
          · have hf := it_pos z hf
            exact wL58 u2 H locs ls hw (lv_sub hl [1] rfl) hf
          · have hf := it_neg z hf
            refine lv_iload hx hb dX9_bid_53 (lv_at hl 10 rfl) ?_
            refine lv_if_ge (tgt := 65) hx hb dX9_bid_55 (by decide) (fun z => ?_) (fun z => ?_)
            · have hf := it_pos z hf
              refine lv_iload hx hb dX9_bid_65 (lv_at hl 5 rfl) ?_
              refine lv_iload hx hb dX9_bid_67 (lv_at hl 6 rfl) ?_
              refine va_mmax hx hb (hml.trans hl.1.symm) hown (hts _ ml_X9_103) (hts _ va_mmax_st) (hts _ math_in) (hts _ va_mmax_cd) (by decide) (Nat.le_of_ble_eq_true rfl) (Nat.zero_le _) (Nat.zero_le _) dX9_bid_69 ?_
              refine lv_iload hx hb dX9_bid_72 (lv_at hl 7 rfl) ?_
              refine lv_iload hx hb dX9_bid_74 (lv_at hl 8 rfl) ?_
              refine va_mmax hx hb (hml.trans hl.1.symm) hown (hts _ ml_X9_103) (hts _ va_mmax_st) (hts _ math_in) (hts _ va_mmax_cd) (by decide) (Nat.le_of_ble_eq_true rfl) (Nat.zero_le _) (Nat.zero_le _) dX9_bid_76 ?_
              refine va_mmax hx hb (hml.trans hl.1.symm) hown (hts _ ml_X9_103) (hts _ va_mmax_st) (hts _ math_in) (hts _ va_mmax_cd) (by decide) (Nat.le_of_ble_eq_true rfl) (Nat.zero_le _) (Nat.zero_le _) dX9_bid_79 ?_
              obtain ⟨x11, ex11, hf⟩ := lt_some hf
              refine tope ex11 ?_
              refine lv_istore (lv' := [(11, .int x11), (10, .int x7), (0, .ref (ev.2.1 0)), (1, .int a1), (2, .int a2), (3, .int a3), (4, .int a4), (5, .int a5), (6, .int a6), (7, .int a7), (8, .int a8), (9, .int a9)]) hx hb dX9_bid_82 hl (by decide) rfl (fun ls hl => ?_)
              refine lv_iload hx hb dX9_bid_84 (lv_at hl 0 rfl) ?_
              refine lv_ldc (v := (99999 : Int32)) hx hb hown (hts _ ct_X9_106) dX9_bid_86 ?_
              refine lv_icmp_gt (tgt := 105) hx hb dX9_bid_88 (by decide) (fun z => ?_) (fun z => ?_)
              · have hf := it_pos z hf
                exact wL105 u2 H locs ls hw (lv_sub hl [2] rfl) hf
              · have hf := it_neg z hf
                refine lv_iload hx hb dX9_bid_91 (lv_at hl 10 rfl) ?_
                refine lv_ldc (v := (999999 : Int32)) hx hb hown (hts _ ct_X9_66) dX9_bid_93 ?_
                refine lv_icmp_gt (tgt := 105) hx hb dX9_bid_95 (by decide) (fun z => ?_) (fun z => ?_)
                · have hf := it_pos z hf
                  exact wL105 u2 H locs ls hw (lv_sub hl [2] rfl) hf
                · have hf := it_neg z hf
                  refine lv_iload hx hb dX9_bid_98 (lv_at hl 11 rfl) ?_
                  refine lv_ldc (v := (99999 : Int32)) hx hb hown (hts _ ct_X9_106) dX9_bid_100 ?_
                  refine lv_icmp_le (tgt := 112) hx hb dX9_bid_102 (by decide) (fun z => ?_) (fun z => ?_)
                  · have hf := it_pos z hf
                    refine lv_aload_n hx hb dX9_bid_112 rfl (lv_at hl 2 rfl) ?_
                    refine gB0_0 hc hw fl_X9_12 dX9_bid_113 ?_
                    obtain ⟨r17, u16, h15, hf⟩ := ob_some hf
                    refine endI okB hw (runV_ok (As := []) (rest := []) okB hc hw (c_X1_isOpen l ev u2 h15 H.size) kv_X1_isOpen ml_X9_71 (rvB1 ev u2) hl.1 rfl rfl (Nat.le_of_ble_eq_true rfl) (rm_le (by decide) (by decide)) dX9_bid_116) (fun H locs hw => ?_)
                    refine lv_if_ne (tgt := 138) hx hb dX9_bid_119 (by decide) (fun z => ?_) (fun z => ?_)
                    · have hf := it_neg z hf
                      refine lv_iload_n hx hb dX9_bid_138 rfl (lv_at hl 3 rfl) ?_
                      refine lv_iload_n hx hb dX9_bid_139 rfl (lv_at hl 4 rfl) ?_
                      obtain ⟨r20, u19, h18, hf⟩ := ob_some hf
                      refine endI okB hw (runS_ok (As := [.int a1, .int a2]) (rest := []) okB hc hw (c_X9_cell l ev a1 a2 u16 h18 H.size) ks_X9_cell ml_X9_110 hl.1 rfl rfl (Nat.le_of_ble_eq_true rfl) (rm_le (by decide) (by decide)) dX9_bid_140) (fun H locs hw => ?_)
                      refine lv_istore (lv' := [(12, .int r20), (11, .int x11), (10, .int x7), (0, .ref (ev.2.1 0)), (1, .int a1), (2, .int a2), (3, .int a3), (4, .int a4), (5, .int a5), (6, .int a6), (7, .int a7), (8, .int a8), (9, .int a9)]) hx hb dX9_bid_143 hl (by decide) rfl (fun ls hl => ?_)
                      refine lv_aload_n hx hb dX9_bid_145 rfl (lv_at hl 3 rfl) ?_
                      refine gB0_0 hc hw fl_X9_12 dX9_bid_146 ?_
                      refine gB1_2 hc hw fl_X9_113 dX9_bid_149 ?_
                      refine lv_iload hx hb dX9_bid_152 (lv_at hl 0 rfl) ?_
                      obtain ⟨z, hf⟩ := oi_some hf
                      refine aB12 hc hw z dX9_bid_154 ?_
                      obtain ⟨x21, ex21, hf⟩ := lt_some hf
                      refine tope ex21 ?_
                      refine lv_istore (lv' := [(13, .int x21), (12, .int r20), (11, .int x11), (10, .int x7), (0, .ref (ev.2.1 0)), (1, .int a1), (2, .int a2), (3, .int a3), (4, .int a4), (5, .int a5), (6, .int a6), (7, .int a7), (8, .int a8), (9, .int a9)]) hx hb dX9_bid_155 hl (by decide) rfl (fun ls hl => ?_)
                      refine lv_aload_n hx hb dX9_bid_157 rfl (lv_at hl 4 rfl) ?_
                      refine gB0_0 hc hw fl_X9_12 dX9_bid_158 ?_
                      refine lv_iload hx hb dX9_bid_161 (lv_at hl 1 rfl) ?_
                      obtain ⟨u23, h22, hf⟩ := ov_some hf
                      refine endV okB hw (runV_ok (As := [.int r20]) (rest := []) okB hc hw (c_X1_drop l ev r20 u19 h22 H.size) kv_X1_drop ml_X9_117 (rvB1 ev u19) hl.1 rfl rfl (Nat.le_of_ble_eq_true rfl) (rm_le (by decide) (by decide)) dX9_bid_163) (fun H locs hw => ?_)
                      refine lv_aload_n hx hb dX9_bid_166 rfl (lv_at hl 4 rfl) ?_
                      refine gB0_0 hc hw fl_X9_12 dX9_bid_167 ?_
                      refine lv_iload hx hb dX9_bid_170 (lv_at hl 1 rfl) ?_
                      refine lv_iload_n hx hb dX9_bid_172 rfl (lv_at hl 7 rfl) ?_
                      refine lv_iload hx hb dX9_bid_173 (lv_at hl 12 rfl) ?_
                      refine lv_iload hx hb dX9_bid_175 (lv_at hl 13 rfl) ?_
                      obtain ⟨u25, h24, hf⟩ := ov_some hf
                      refine endV okB hw (runV_ok (As := [.int r20, .int a3, .int a8, .int a9]) (rest := []) okB hc hw (c_X1_putTerms l ev r20 a3 a8 a9 u23 h24 H.size) kv_X1_putTerms ml_X9_120 (rvB1 ev u23) hl.1 rfl rfl (Nat.le_of_ble_eq_true rfl) (rm_le (by decide) (by decide)) dX9_bid_177) (fun H locs hw => ?_)
                      refine lv_aload_n hx hb dX9_bid_180 rfl (lv_at hl 4 rfl) ?_
                      refine gB0_0 hc hw fl_X9_12 dX9_bid_181 ?_
                      refine lv_iload hx hb dX9_bid_184 (lv_at hl 1 rfl) ?_
                      refine lv_iload hx hb dX9_bid_186 (lv_at hl 8 rfl) ?_
                      refine lv_iload hx hb dX9_bid_188 (lv_at hl 9 rfl) ?_
                      refine lv_iload hx hb dX9_bid_190 (lv_at hl 10 rfl) ?_
                      refine lv_iload hx hb dX9_bid_192 (lv_at hl 11 rfl) ?_
                      obtain ⟨u27, h26, hf⟩ := ov_some hf
                      refine endV okB hw (runV_ok (As := [.int r20, .int a4, .int a5, .int a6, .int a7]) (rest := []) okB hc hw (c_X1_putItems l ev r20 a4 a5 a6 a7 u25 h26 H.size) kv_X1_putItems ml_X9_124 (rvB1 ev u25) hl.1 rfl rfl (Nat.le_of_ble_eq_true rfl) (rm_le (by decide) (by decide)) dX9_bid_194) (fun H locs hw => ?_)
                      refine lv_iload hx hb dX9_bid_197 (lv_at hl 0 rfl) ?_
                      refine lv_if_eq (tgt := 206) hx hb dX9_bid_199 (by decide) (fun z => ?_) (fun z => ?_)
                      · have hf := it_pos z hf
                        refine lv_iconst (v := (1 : Int32)) hx hb dX9_bid_206 (by decide) ?_
                        exact retI hc hr hlk hw hf dX9_bid_207
                      · have hf := it_neg z hf
                        refine lv_iconst (v := (0 : Int32)) hx hb dX9_bid_202 (by decide) ?_
                        refine lv_goto (tgt := 207) hx hb dX9_bid_203 (by decide) ?_
                        exact retI hc hr hlk hw hf dX9_bid_207
                    · have hf := it_pos z hf
                      refine lv_aload_n hx hb dX9_bid_122 rfl (lv_at hl 2 rfl) ?_
                      refine gB0_0 hc hw fl_X9_12 dX9_bid_123 ?_
                      refine lv_dup hx hb dX9_bid_126 rfl ?_
                      refine gB1_12 hc hw fl_X9_107 dX9_bid_127 ?_
                      refine lv_iconst (v := (1 : Int32)) hx hb dX9_bid_130 (by decide) ?_
                      refine lv_iadd hx hb dX9_bid_131 ?_
                      refine pB1_12 hc hw fl_X9_107 dX9_bid_132 (fun H locs hw => ?_)
                      obtain ⟨u28, eu28, hf⟩ := lt_some hf
                      have hw := VW.nm eu28 hw
                      refine lv_bipush (v := (-9 : Int32)) hx hb dX9_bid_135 (by decide) ?_
                      exact retI hc hr hlk hw hf dX9_bid_137
                  · have hf := it_neg z hf
                    exact wL105 u2 H locs ls hw (lv_sub hl [2] rfl) hf
            · have hf := it_neg z hf
              exact wL58 u2 H locs ls hw (lv_sub hl [1] rfl) hf
      · have hf := it_neg z hf
        exact wL18 u2 H locs ls hw (lv_sub hl [0] rfl) hf
def f_X9_withdraw (a1 : Int32) (a2 : Int32) (u : SS) : Option (Int32 × SS) :=
  ob (f_X9_noBid a1 a2 u) fun r3 u2 => if r3 = 0 then (ob (f_X9_cell a1 a2 u2) fun r6 u5 => oi r6 48 (if (gA u5 3 r6.toNatClampNeg) = 0 then (ob (f_X9_refuse (-5 : Int32) u5) fun r15 u14 => some (r15, u14)) else (ob (f_X1_isOpen u5) fun r9 u8 => if r9 = 0 then (lt (sI u8 3 ((gI u8 3) + (1 : Int32))) fun u12 => some ((-9 : Int32), u12)) else (ov (f_X1_drop r6 u8) fun u11 => some ((1 : Int32), u11))))) else (ob (f_X9_refuse (-1 : Int32) u2) fun r18 u17 => some (r18, u17))
set_option maxHeartbeats 4000000 in
set_option maxRecDepth 100000 in
theorem c_X9_withdraw (l : Launch) (ev : EV) (a1 : Int32) (a2 : Int32) (u : SS) {r : Int32} {u' : SS} (hf : f_X9_withdraw a1 a2 u = some (r, u')) : MI wdB l yX9_withdraw cX9_withdraw 4 (some .int) 2 ev [.ref (ev.2.1 0), .int a1, .int a2] u r u' := by
  refine bodyI (by decide +kernel) rfl (Nat.le_of_ble_eq_true rfl) ?_
  intro p e s m below meth cd ls H locs hc hr hlk hw hl
  generalize hav : (List.toArray [.ref (ev.2.1 0), .int a1, .int a2] : Array Value) = av at hc ⊢
  obtain ⟨hx, hb, hml, hown, hts, hK, hZ⟩ := id hc
  have hl : lv_has ls 4 [(0, .ref (ev.2.1 0)), (1, .int a1), (2, .int a2)] := hl
  unfold f_X9_withdraw at hf
  refine lv_aload_n hx hb dX9_withdraw_0 rfl (lv_at hl 0 rfl) ?_
  refine lv_iload_n hx hb dX9_withdraw_1 rfl (lv_at hl 1 rfl) ?_
  refine lv_iload_n hx hb dX9_withdraw_2 rfl (lv_at hl 2 rfl) ?_
  obtain ⟨r3, u2, h1, hf⟩ := ob_some hf
  refine endI okB hw (runV_ok (As := [.int a1, .int a2]) (rest := []) okB hc hw (c_X9_noBid l ev a1 a2 u h1 H.size) kv_X9_noBid ml_X9_93 (rvB0 ev u) hl.1 rfl rfl (Nat.le_of_ble_eq_true rfl) (rm_le (by decide) (by decide)) dX9_withdraw_3) (fun H locs hw => ?_)
  refine lv_if_eq (tgt := 15) hx hb dX9_withdraw_6 (by decide) (fun z => ?_) (fun z => ?_)
  · have hf := it_pos z hf
    refine lv_iload_n hx hb dX9_withdraw_15 rfl (lv_at hl 1 rfl) ?_
    refine lv_iload_n hx hb dX9_withdraw_16 rfl (lv_at hl 2 rfl) ?_
    obtain ⟨r6, u5, h4, hf⟩ := ob_some hf
    refine endI okB hw (runS_ok (As := [.int a1, .int a2]) (rest := []) okB hc hw (c_X9_cell l ev a1 a2 u2 h4 H.size) ks_X9_cell ml_X9_110 hl.1 rfl rfl (Nat.le_of_ble_eq_true rfl) (rm_le (by decide) (by decide)) dX9_withdraw_17) (fun H locs hw => ?_)
    refine lv_istore_n (lv' := [(3, .int r6), (0, .ref (ev.2.1 0)), (1, .int a1), (2, .int a2)]) hx hb dX9_withdraw_20 rfl hl (by decide) rfl (fun ls hl => ?_)
    refine lv_aload_n hx hb dX9_withdraw_21 rfl (lv_at hl 1 rfl) ?_
    refine gB0_0 hc hw fl_X9_12 dX9_withdraw_22 ?_
    refine gB1_2 hc hw fl_X9_113 dX9_withdraw_25 ?_
    refine lv_iload_n hx hb dX9_withdraw_28 rfl (lv_at hl 0 rfl) ?_
    obtain ⟨z, hf⟩ := oi_some hf
    refine aB12 hc hw z dX9_withdraw_29 ?_
    refine lv_if_ne (tgt := 40) hx hb dX9_withdraw_30 (by decide) (fun z => ?_) (fun z => ?_)
    · have hf := it_neg z hf
      refine lv_aload_n hx hb dX9_withdraw_40 rfl (lv_at hl 1 rfl) ?_
      refine gB0_0 hc hw fl_X9_12 dX9_withdraw_41 ?_
      obtain ⟨r9, u8, h7, hf⟩ := ob_some hf
      refine endI okB hw (runV_ok (As := []) (rest := []) okB hc hw (c_X1_isOpen l ev u5 h7 H.size) kv_X1_isOpen ml_X9_71 (rvB1 ev u5) hl.1 rfl rfl (Nat.le_of_ble_eq_true rfl) (rm_le (by decide) (by decide)) dX9_withdraw_44) (fun H locs hw => ?_)
      refine lv_if_ne (tgt := 66) hx hb dX9_withdraw_47 (by decide) (fun z => ?_) (fun z => ?_)
      · have hf := it_neg z hf
        refine lv_aload_n hx hb dX9_withdraw_66 rfl (lv_at hl 1 rfl) ?_
        refine gB0_0 hc hw fl_X9_12 dX9_withdraw_67 ?_
        refine lv_iload_n hx hb dX9_withdraw_70 rfl (lv_at hl 0 rfl) ?_
        obtain ⟨u11, h10, hf⟩ := ov_some hf
        refine endV okB hw (runV_ok (As := [.int r6]) (rest := []) okB hc hw (c_X1_drop l ev r6 u8 h10 H.size) kv_X1_drop ml_X9_117 (rvB1 ev u8) hl.1 rfl rfl (Nat.le_of_ble_eq_true rfl) (rm_le (by decide) (by decide)) dX9_withdraw_71) (fun H locs hw => ?_)
        refine lv_iconst (v := (1 : Int32)) hx hb dX9_withdraw_74 (by decide) ?_
        exact retI hc hr hlk hw hf dX9_withdraw_75
      · have hf := it_pos z hf
        refine lv_aload_n hx hb dX9_withdraw_50 rfl (lv_at hl 1 rfl) ?_
        refine gB0_0 hc hw fl_X9_12 dX9_withdraw_51 ?_
        refine lv_dup hx hb dX9_withdraw_54 rfl ?_
        refine gB1_12 hc hw fl_X9_107 dX9_withdraw_55 ?_
        refine lv_iconst (v := (1 : Int32)) hx hb dX9_withdraw_58 (by decide) ?_
        refine lv_iadd hx hb dX9_withdraw_59 ?_
        refine pB1_12 hc hw fl_X9_107 dX9_withdraw_60 (fun H locs hw => ?_)
        obtain ⟨u12, eu12, hf⟩ := lt_some hf
        have hw := VW.nm eu12 hw
        refine lv_bipush (v := (-9 : Int32)) hx hb dX9_withdraw_63 (by decide) ?_
        exact retI hc hr hlk hw hf dX9_withdraw_65
    · have hf := it_pos z hf
      refine lv_aload_n hx hb dX9_withdraw_33 rfl (lv_at hl 1 rfl) ?_
      refine lv_bipush (v := (-5 : Int32)) hx hb dX9_withdraw_34 (by decide) ?_
      obtain ⟨r15, u14, h13, hf⟩ := ob_some hf
      refine endI okB hw (runV_ok (As := [.int (-5 : Int32)]) (rest := []) okB hc hw (c_X9_refuse l ev (-5 : Int32) u5 h13 H.size) kv_X9_refuse ml_X9_62 (rvB0 ev u5) hl.1 rfl rfl (Nat.le_of_ble_eq_true rfl) (rm_le (by decide) (by decide)) dX9_withdraw_36) (fun H locs hw => ?_)
      exact retI hc hr hlk hw hf dX9_withdraw_39
  · have hf := it_neg z hf
    refine lv_aload_n hx hb dX9_withdraw_9 rfl (lv_at hl 0 rfl) ?_
    refine lv_iconst (v := (-1 : Int32)) hx hb dX9_withdraw_10 (by decide) ?_
    obtain ⟨r18, u17, h16, hf⟩ := ob_some hf
    refine endI okB hw (runV_ok (As := [.int (-1 : Int32)]) (rest := []) okB hc hw (c_X9_refuse l ev (-1 : Int32) u2 h16 H.size) kv_X9_refuse ml_X9_62 (rvB0 ev u2) hl.1 rfl rfl (Nat.le_of_ble_eq_true rfl) (rm_le (by decide) (by decide)) dX9_withdraw_11) (fun H locs hw => ?_)
    exact retI hc hr hlk hw hf dX9_withdraw_14
def f_X9_set_L16 (u : SS) : Option (Int32 × SS) :=
  ob (f_X9_refuse (-2 : Int32) u) fun r3 u2 => some (r3, u2)
def f_X9_set_L35 (b1 : Int32) (b2 : Int32) (q0 : Int32) (q1 : Int32) (q2 : Int32) (u : SS) : Option (Int32 × SS) :=
  ob (f_X9_inRange q2 q1 q0 u) fun r6 u5 => if r6 = 0 then (oi b1 4 (lt (gA u5 1 b1.toNatClampNeg) fun x7 => oi b1 4 (lt (tA u5 1 b1 b2) fun u8 => some (x7, u8)))) else (ob (f_X9_refuse r6 u5) fun r11 u10 => some (r11, u10))
def f_X9_set (a1 : Int32) (a2 : Int32) (u : SS) : Option (Int32 × SS) :=
  if a1 < 0 then (f_X9_set_L16 u) else (if a1 < (4 : Int32) then (if a1 = 0 then (f_X9_set_L35 a1 a2 (2 : Int32) (0 : Int32) a2 u) else (f_X9_set_L35 a1 a2 (100 : Int32) (0 : Int32) a2 u)) else (f_X9_set_L16 u))
set_option maxHeartbeats 4000000 in
set_option maxRecDepth 100000 in
theorem c_X9_set (l : Launch) (ev : EV) (a1 : Int32) (a2 : Int32) (u : SS) {r : Int32} {u' : SS} (hf : f_X9_set a1 a2 u = some (r, u')) : MI wdB l yX9_set cX9_set 5 (some .int) 1 ev [.ref (ev.2.1 0), .int a1, .int a2] u r u' := by
  refine bodyI (by decide +kernel) rfl (Nat.le_of_ble_eq_true rfl) ?_
  intro p e s m below meth cd ls H locs hc hr hlk hw hl
  generalize hav : (List.toArray [.ref (ev.2.1 0), .int a1, .int a2] : Array Value) = av at hc ⊢
  obtain ⟨hx, hb, hml, hown, hts, hK, hZ⟩ := id hc
  have hl : lv_has ls 5 [(0, .ref (ev.2.1 0)), (1, .int a1), (2, .int a2)] := hl
  have wL16 : ∀ (u : SS) (H : Heap) (locs : List Loc) (ls : Array Slot), VW wdB ev s u H locs → lv_has ls 5 [(0, .ref (ev.2.1 0))] → f_X9_set_L16  u = some (r, u') → W p l e (rmk 1) s m av below meth cd H locs 0 0 (ZI wdB ev s below av r u') (F0 m 16 ls []) := by
    intro  u H locs ls hw hl hf
    unfold f_X9_set_L16 at hf
    refine lv_aload_n hx hb dX9_set_16 rfl (lv_at hl 0 rfl) ?_
    refine lv_bipush (v := (-2 : Int32)) hx hb dX9_set_17 (by decide) ?_
    obtain ⟨r3, u2, h1, hf⟩ := ob_some hf
    refine endI okB hw (runV_ok (As := [.int (-2 : Int32)]) (rest := []) okB hc hw (c_X9_refuse l ev (-2 : Int32) u h1 H.size) kv_X9_refuse ml_X9_62 (rvB0 ev u) hl.1 rfl rfl (Nat.le_of_ble_eq_true rfl) (rm_le (by decide) (by decide)) dX9_set_19) (fun H locs hw => ?_)
    exact retI hc hr hlk hw hf dX9_set_22
  have wL35 : ∀ (b1 : Int32) (b2 : Int32) (q0 : Int32) (q1 : Int32) (q2 : Int32) (u : SS) (H : Heap) (locs : List Loc) (ls : Array Slot), VW wdB ev s u H locs → lv_has ls 5 [(0, .ref (ev.2.1 0)), (1, .int b1), (2, .int b2)] → f_X9_set_L35 b1 b2 q0 q1 q2 u = some (r, u') → W p l e (rmk 1) s m av below meth cd H locs 0 0 (ZI wdB ev s below av r u') (F0 m 35 ls [.int q0, .int q1, .int q2]) := by
    intro b1 b2 q0 q1 q2 u H locs ls hw hl hf
    unfold f_X9_set_L35 at hf
    obtain ⟨r6, u5, h4, hf⟩ := ob_some hf
    refine endI okB hw (runS_ok (As := [.int q2, .int q1, .int q0]) (rest := []) okB hc hw (c_X9_inRange l ev q2 q1 q0 u h4 H.size) ks_X9_inRange ml_X9_76 hl.1 rfl rfl (Nat.le_of_ble_eq_true rfl) (rm_le (by decide) (by decide)) dX9_set_35) (fun H locs hw => ?_)
    refine lv_istore_n (lv' := [(3, .int r6), (0, .ref (ev.2.1 0)), (1, .int b1), (2, .int b2)]) hx hb dX9_set_38 rfl hl (by decide) rfl (fun ls hl => ?_)
    refine lv_iload_n hx hb dX9_set_39 rfl (lv_at hl 0 rfl) ?_
    refine lv_if_eq (tgt := 49) hx hb dX9_set_40 (by decide) (fun z => ?_) (fun z => ?_)
    · have hf := it_pos z hf
      refine lv_aload_n hx hb dX9_set_49 rfl (lv_at hl 1 rfl) ?_
      refine gB0_0 hc hw fl_X9_12 dX9_set_50 ?_
      refine gB1_0 hc hw fl_X9_128 dX9_set_53 ?_
      refine lv_iload_n hx hb dX9_set_56 rfl (lv_at hl 2 rfl) ?_
      obtain ⟨z, hf⟩ := oi_some hf
      refine aB10 hc hw z dX9_set_57 ?_
      obtain ⟨x7, ex7, hf⟩ := lt_some hf
      refine tope ex7 ?_
      refine lv_istore (lv' := [(4, .int x7), (3, .int r6), (0, .ref (ev.2.1 0)), (1, .int b1), (2, .int b2)]) hx hb dX9_set_58 hl (by decide) rfl (fun ls hl => ?_)
      refine lv_aload_n hx hb dX9_set_60 rfl (lv_at hl 2 rfl) ?_
      refine gB0_0 hc hw fl_X9_12 dX9_set_61 ?_
      refine gB1_0 hc hw fl_X9_128 dX9_set_64 ?_
      refine lv_iload_n hx hb dX9_set_67 rfl (lv_at hl 3 rfl) ?_
      refine lv_iload_n hx hb dX9_set_68 rfl (lv_at hl 4 rfl) ?_
      obtain ⟨z, hf⟩ := oi_some hf
      refine tB10 hc hw z dX9_set_69 (fun H locs hw => ?_)
      obtain ⟨u8, eu8, hf⟩ := lt_some hf
      have hw := VW.nm eu8 hw
      refine lv_iload hx hb dX9_set_70 (lv_at hl 0 rfl) ?_
      exact retI hc hr hlk hw hf dX9_set_72
    · have hf := it_neg z hf
      refine lv_aload_n hx hb dX9_set_43 rfl (lv_at hl 1 rfl) ?_
      refine lv_iload_n hx hb dX9_set_44 rfl (lv_at hl 0 rfl) ?_
      obtain ⟨r11, u10, h9, hf⟩ := ob_some hf
      refine endI okB hw (runV_ok (As := [.int r6]) (rest := []) okB hc hw (c_X9_refuse l ev r6 u5 h9 H.size) kv_X9_refuse ml_X9_62 (rvB0 ev u5) hl.1 rfl rfl (Nat.le_of_ble_eq_true rfl) (rm_le (by decide) (by decide)) dX9_set_45) (fun H locs hw => ?_)
      exact retI hc hr hlk hw hf dX9_set_48
  unfold f_X9_set at hf
  refine lv_iload_n hx hb dX9_set_0 rfl (lv_at hl 1 rfl) ?_
  refine lv_if_lt (tgt := 16) hx hb dX9_set_1 (by decide) (fun z => ?_) (fun z => ?_)
  · have hf := it_pos z hf
    exact wL16 u H locs ls hw (lv_sub hl [0] rfl) hf
  · have hf := it_neg z hf
    refine lv_iload_n hx hb dX9_set_4 rfl (lv_at hl 1 rfl) ?_
    refine lv_aload_n hx hb dX9_set_5 rfl (lv_at hl 0 rfl) ?_
    refine gB0_0 hc hw fl_X9_12 dX9_set_6 ?_
    refine gB1_0 hc hw fl_X9_128 dX9_set_9 ?_
    refine nB10 hc hw dX9_set_12 ?_
    refine lv_icmp_lt (tgt := 23) hx hb dX9_set_13 (by decide) (fun z => ?_) (fun z => ?_)
    · have hf := it_pos z hf
      refine lv_iload_n hx hb dX9_set_23 rfl (lv_at hl 2 rfl) ?_
      refine lv_iconst (v := (0 : Int32)) hx hb dX9_set_24 (by decide) ?_
      refine lv_iload_n hx hb dX9_set_25 rfl (lv_at hl 1 rfl) ?_
      refine lv_if_ne (tgt := 33) hx hb dX9_set_26 (by decide) (fun z => ?_) (fun z => ?_)
      · have hf := it_neg z hf
        refine lv_bipush (v := (100 : Int32)) hx hb dX9_set_33 (by decide) ?_
        exact wL35 a1 a2 (100 : Int32) (0 : Int32) a2 u H locs ls hw (lv_sub hl [0, 1, 2] rfl) hf
      · have hf := it_pos z hf
        refine lv_iconst (v := (2 : Int32)) hx hb dX9_set_29 (by decide) ?_
        refine lv_goto (tgt := 35) hx hb dX9_set_30 (by decide) ?_
        exact wL35 a1 a2 (2 : Int32) (0 : Int32) a2 u H locs ls hw (lv_sub hl [0, 1, 2] rfl) hf
    · have hf := it_neg z hf
      exact wL16 u H locs ls hw (lv_sub hl [0] rfl) hf
def b_X1_itemSum_L4 (k4 : Int32 → Int32 → Int32 → SS → Option (Int32 × SS)) (b1 : Int32) (b2 : Int32) (b3 : Int32) (u : SS) : Option (Int32 × SS) :=
  if (4 : Int32) ≤ b3 then (some (b2, u)) else (oi ((b1 * (4 : Int32)) + b3) 192 (lt (b2 + (gA u 6 ((b1 * (4 : Int32)) + b3).toNatClampNeg)) fun x1 => lt (b3 + (1 : Int32)) fun x2 => k4 b1 x1 x2 u))
def f_X1_itemSum_L4 : Nat → Int32 → Int32 → Int32 → SS → Option (Int32 × SS)
  | 0 => fun _ _ _ _ => none
  | n + 1 => b_X1_itemSum_L4 (f_X1_itemSum_L4 n)
def f_X1_itemSum (a1 : Int32) (u : SS) : Option (Int32 × SS) :=
  f_X1_itemSum_L4 FU a1 (0 : Int32) (0 : Int32) u
set_option maxHeartbeats 4000000 in
set_option maxRecDepth 100000 in
theorem c_X1_itemSum (l : Launch) (ev : EV) (a1 : Int32) (u : SS) {r : Int32} {u' : SS} (hf : f_X1_itemSum a1 u = some (r, u')) : MI wdB l yX1_itemSum cX1_itemSum 4 (some .int) 0 ev [.ref (ev.2.1 1), .int a1] u r u' := by
  refine bodyI (by decide +kernel) rfl (Nat.le_of_ble_eq_true rfl) ?_
  intro p e s m below meth cd ls H locs hc hr hlk hw hl
  generalize hav : (List.toArray [.ref (ev.2.1 1), .int a1] : Array Value) = av at hc ⊢
  obtain ⟨hx, hb, hml, hown, hts, hK, hZ⟩ := id hc
  have hl : lv_has ls 4 [(0, .ref (ev.2.1 1)), (1, .int a1)] := hl
  have wL4 : ∀ (n : Nat) (b1 : Int32) (b2 : Int32) (b3 : Int32) (u : SS) (H : Heap) (locs : List Loc) (ls : Array Slot), VW wdB ev s u H locs → lv_has ls 4 [(0, .ref (ev.2.1 1)), (1, .int b1), (2, .int b2), (3, .int b3)] → f_X1_itemSum_L4 n b1 b2 b3 u = some (r, u') → W p l e (rmk 0) s m av below meth cd H locs 0 0 (ZI wdB ev s below av r u') (F0 m 4 ls []) := by
    intro n
    induction n with
    | zero =>
      intro b1 b2 b3 u H locs ls hw hl hf
      cases hf
    | succ n hk4 =>
      intro b1 b2 b3 u H locs ls hw hl hf
      have hf : b_X1_itemSum_L4 (f_X1_itemSum_L4 n) b1 b2 b3 u = some (r, u') := hf
      unfold b_X1_itemSum_L4 at hf
      refine lv_iload_n hx hb dX1_itemSum_4 rfl (lv_at hl 3 rfl) ?_
      refine lv_iconst (v := (4 : Int32)) hx hb dX1_itemSum_5 (by decide) ?_
      refine lv_icmp_ge (tgt := 28) hx hb dX1_itemSum_6 (by decide) (fun z => ?_) (fun z => ?_)
      · have hf := it_pos z hf
        refine lv_iload_n hx hb dX1_itemSum_28 rfl (lv_at hl 2 rfl) ?_
        exact retI hc hr hlk hw hf dX1_itemSum_29
      · have hf := it_neg z hf
        refine lv_iload_n hx hb dX1_itemSum_9 rfl (lv_at hl 2 rfl) ?_
        refine lv_aload_n hx hb dX1_itemSum_10 rfl (lv_at hl 0 rfl) ?_
        refine gB1_5 hc hw fl_X1_28 dX1_itemSum_11 ?_
        refine lv_iload_n hx hb dX1_itemSum_14 rfl (lv_at hl 1 rfl) ?_
        refine lv_iconst (v := (4 : Int32)) hx hb dX1_itemSum_15 (by decide) ?_
        refine lv_imul hx hb dX1_itemSum_16 ?_
        refine lv_iload_n hx hb dX1_itemSum_17 rfl (lv_at hl 3 rfl) ?_
        refine lv_iadd hx hb dX1_itemSum_18 ?_
        obtain ⟨z, hf⟩ := oi_some hf
        refine aB15 hc hw z dX1_itemSum_19 ?_
        refine lv_iadd hx hb dX1_itemSum_20 ?_
        obtain ⟨x1, ex1, hf⟩ := lt_some hf
        refine tope ex1 ?_
        refine lv_istore_n (lv' := [(2, .int x1), (0, .ref (ev.2.1 1)), (1, .int b1), (3, .int b3)]) hx hb dX1_itemSum_21 rfl hl (by decide) rfl (fun ls hl => ?_)
        obtain ⟨x2, ex2, hf⟩ := lt_some hf
        refine lv_iinc (v := x2) (lv' := [(3, .int x2), (2, .int x1), (0, .ref (ev.2.1 1)), (1, .int b1)]) hx hb dX1_itemSum_22 hl (k := 3) rfl (by rw [ex2]; rfl) (by decide) rfl (fun ls hl => ?_)
        refine lv_goto (tgt := 4) hx hb dX1_itemSum_25 (by decide) ?_
        exact hk4 b1 x1 x2 u H locs ls hw (lv_sub hl [2, 3, 1, 0] rfl) hf
  unfold f_X1_itemSum at hf
  refine lv_iconst (v := (0 : Int32)) hx hb dX1_itemSum_0 (by decide) ?_
  refine lv_istore_n (lv' := [(2, .int (0 : Int32)), (0, .ref (ev.2.1 1)), (1, .int a1)]) hx hb dX1_itemSum_1 rfl hl (by decide) rfl (fun ls hl => ?_)
  refine lv_iconst (v := (0 : Int32)) hx hb dX1_itemSum_2 (by decide) ?_
  refine lv_istore_n (lv' := [(3, .int (0 : Int32)), (2, .int (0 : Int32)), (0, .ref (ev.2.1 1)), (1, .int a1)]) hx hb dX1_itemSum_3 rfl hl (by decide) rfl (fun ls hl => ?_)
  exact wL4 FU a1 (0 : Int32) (0 : Int32) u H locs ls hw (lv_sub hl [2, 3, 1, 0] rfl) hf
def f_X1_countedSum (a1 : Int32) (u : SS) : Option (Int32 × SS) :=
  ob (f_X1_itemSum a1 u) fun r3 u2 => oi (0 : Int32) 4 (if (gA u2 1 (0 : Int32).toNatClampNeg) = (1 : Int32) then (oi a1 48 (some ((gA u2 8 a1.toNatClampNeg), u2))) else (oi (0 : Int32) 4 (if (gA u2 1 (0 : Int32).toNatClampNeg) = (2 : Int32) then (oi a1 48 (some ((if r3 < (gA u2 8 a1.toNatClampNeg) then (gA u2 8 a1.toNatClampNeg) else r3), u2))) else (some (r3, u2)))))
set_option maxHeartbeats 4000000 in
set_option maxRecDepth 100000 in
theorem c_X1_countedSum (l : Launch) (ev : EV) (a1 : Int32) (u : SS) {r : Int32} {u' : SS} (hf : f_X1_countedSum a1 u = some (r, u')) : MI wdB l yX1_countedSum cX1_countedSum 3 (some .int) 1 ev [.ref (ev.2.1 1), .int a1] u r u' := by
  refine bodyI (by decide +kernel) rfl (Nat.le_of_ble_eq_true rfl) ?_
  intro p e s m below meth cd ls H locs hc hr hlk hw hl
  generalize hav : (List.toArray [.ref (ev.2.1 1), .int a1] : Array Value) = av at hc ⊢
  obtain ⟨hx, hb, hml, hown, hts, hK, hZ⟩ := id hc
  have hl : lv_has ls 3 [(0, .ref (ev.2.1 1)), (1, .int a1)] := hl
  unfold f_X1_countedSum at hf
  refine lv_aload_n hx hb dX1_countedSum_0 rfl (lv_at hl 0 rfl) ?_
  refine lv_iload_n hx hb dX1_countedSum_1 rfl (lv_at hl 1 rfl) ?_
  obtain ⟨r3, u2, h1, hf⟩ := ob_some hf
  refine endI okB hw (runV_ok (As := [.int a1]) (rest := []) okB hc hw (c_X1_itemSum l ev a1 u h1 H.size) kv_X1_itemSum ml_X1_66 (rvB1 ev u) hl.1 rfl rfl (Nat.le_of_ble_eq_true rfl) (rm_le (by decide) (by decide)) dX1_countedSum_2) (fun H locs hw => ?_)
  refine lv_istore_n (lv' := [(2, .int r3), (0, .ref (ev.2.1 1)), (1, .int a1)]) hx hb dX1_countedSum_5 rfl hl (by decide) rfl (fun ls hl => ?_)
  refine lv_aload_n hx hb dX1_countedSum_6 rfl (lv_at hl 1 rfl) ?_
  refine gB1_0 hc hw fl_X1_9 dX1_countedSum_7 ?_
  refine lv_iconst (v := (0 : Int32)) hx hb dX1_countedSum_10 (by decide) ?_
  obtain ⟨z, hf⟩ := oi_some hf
  refine aB10 hc hw z dX1_countedSum_11 ?_
  refine lv_iconst (v := (1 : Int32)) hx hb dX1_countedSum_12 (by decide) ?_
  refine lv_icmp_ne (tgt := 23) hx hb dX1_countedSum_13 (by decide) (fun z => ?_) (fun z => ?_)
  · have hf := it_neg z hf
    refine lv_aload_n hx hb dX1_countedSum_23 rfl (lv_at hl 1 rfl) ?_
    refine gB1_0 hc hw fl_X1_9 dX1_countedSum_24 ?_
    refine lv_iconst (v := (0 : Int32)) hx hb dX1_countedSum_27 (by decide) ?_
    obtain ⟨z, hf⟩ := oi_some hf
    refine aB10 hc hw z dX1_countedSum_28 ?_
    refine lv_iconst (v := (2 : Int32)) hx hb dX1_countedSum_29 (by decide) ?_
    refine lv_icmp_ne (tgt := 46) hx hb dX1_countedSum_30 (by decide) (fun z => ?_) (fun z => ?_)
    · have hf := it_neg z hf
      refine lv_iload_n hx hb dX1_countedSum_46 rfl (lv_at hl 0 rfl) ?_
      exact retI hc hr hlk hw hf dX1_countedSum_47
    · have hf := it_pos z hf
      refine lv_iload_n hx hb dX1_countedSum_33 rfl (lv_at hl 0 rfl) ?_
      refine lv_aload_n hx hb dX1_countedSum_34 rfl (lv_at hl 1 rfl) ?_
      refine gB1_7 hc hw fl_X1_34 dX1_countedSum_35 ?_
      refine lv_iload_n hx hb dX1_countedSum_38 rfl (lv_at hl 2 rfl) ?_
      obtain ⟨z, hf⟩ := oi_some hf
      refine aB17 hc hw z dX1_countedSum_39 ?_
      refine va_mmax hx hb (hml.trans hl.1.symm) hown (hts _ ml_X1_69) (hts _ va_mmax_st) (hts _ math_in) (hts _ va_mmax_cd) (by decide) (Nat.le_of_ble_eq_true rfl) (Nat.zero_le _) (Nat.zero_le _) dX1_countedSum_40 ?_
      refine lv_goto (tgt := 47) hx hb dX1_countedSum_43 (by decide) ?_
      exact retI hc hr hlk hw hf dX1_countedSum_47
  · have hf := it_pos z hf
    refine lv_aload_n hx hb dX1_countedSum_16 rfl (lv_at hl 1 rfl) ?_
    refine gB1_7 hc hw fl_X1_34 dX1_countedSum_17 ?_
    refine lv_iload_n hx hb dX1_countedSum_20 rfl (lv_at hl 2 rfl) ?_
    obtain ⟨z, hf⟩ := oi_some hf
    refine aB17 hc hw z dX1_countedSum_21 ?_
    exact retI hc hr hlk hw hf dX1_countedSum_22
def f_X1_priceAt (a1 : Int32) (u : SS) : Option (Int32 × SS) :=
  ob (f_X1_countedSum a1 u) fun r3 u2 => oi a1 48 (oi (1 : Int32) 4 (lt ((r3 + (((gA u2 9 a1.toNatClampNeg) * (gA u2 1 (1 : Int32).toNatClampNeg)) / (100 : Int32))).toInt64) fun x4 => oi a1 48 (oi (gA u2 7 a1.toNatClampNeg) 4 (lt ((x4 * ((gA u2 2 (gA u2 7 a1.toNatClampNeg).toNatClampNeg).toInt64)) / (1000 : Int64)) fun x5 => some ((if x5 < (1 : Int64) then (1 : Int64) else x5).toInt32, u2)))))
set_option maxHeartbeats 4000000 in
set_option maxRecDepth 100000 in
theorem c_X1_priceAt (l : Launch) (ev : EV) (a1 : Int32) (u : SS) {r : Int32} {u' : SS} (hf : f_X1_priceAt a1 u = some (r, u')) : MI wdB l yX1_priceAt cX1_priceAt 6 (some .int) 2 ev [.ref (ev.2.1 1), .int a1] u r u' := by
  refine bodyI (by decide +kernel) rfl (Nat.le_of_ble_eq_true rfl) ?_
  intro p e s m below meth cd ls H locs hc hr hlk hw hl
  generalize hav : (List.toArray [.ref (ev.2.1 1), .int a1] : Array Value) = av at hc ⊢
  obtain ⟨hx, hb, hml, hown, hts, hK, hZ⟩ := id hc
  have hl : lv_has ls 6 [(0, .ref (ev.2.1 1)), (1, .int a1)] := hl
  unfold f_X1_priceAt at hf
  refine lv_aload_n hx hb dX1_priceAt_0 rfl (lv_at hl 0 rfl) ?_
  refine lv_iload_n hx hb dX1_priceAt_1 rfl (lv_at hl 1 rfl) ?_
  obtain ⟨r3, u2, h1, hf⟩ := ob_some hf
  refine endI okB hw (runV_ok (As := [.int a1]) (rest := []) okB hc hw (c_X1_countedSum l ev a1 u h1 H.size) kv_X1_countedSum ml_X1_54 (rvB1 ev u) hl.1 rfl rfl (Nat.le_of_ble_eq_true rfl) (rm_le (by decide) (by decide)) dX1_priceAt_2) (fun H locs hw => ?_)
  refine lv_aload_n hx hb dX1_priceAt_5 rfl (lv_at hl 0 rfl) ?_
  refine gB1_8 hc hw fl_X1_37 dX1_priceAt_6 ?_
  refine lv_iload_n hx hb dX1_priceAt_9 rfl (lv_at hl 1 rfl) ?_
  obtain ⟨z, hf⟩ := oi_some hf
  refine aB18 hc hw z dX1_priceAt_10 ?_
  refine lv_aload_n hx hb dX1_priceAt_11 rfl (lv_at hl 0 rfl) ?_
  refine gB1_0 hc hw fl_X1_9 dX1_priceAt_12 ?_
  refine lv_iconst (v := (1 : Int32)) hx hb dX1_priceAt_15 (by decide) ?_
  obtain ⟨z, hf⟩ := oi_some hf
  refine aB10 hc hw z dX1_priceAt_16 ?_
  refine lv_imul hx hb dX1_priceAt_17 ?_
  refine lv_bipush (v := (100 : Int32)) hx hb dX1_priceAt_18 (by decide) ?_
  refine lv_idiv hx hb dX1_priceAt_20 (by decide) ?_
  refine lv_iadd hx hb dX1_priceAt_21 ?_
  refine lv_i2l (v := (r3 + (((gA u2 9 a1.toNatClampNeg) * (gA u2 1 (1 : Int32).toNatClampNeg)) / (100 : Int32))).toInt64) hx hb dX1_priceAt_22 rfl ?_
  obtain ⟨x4, ex4, hf⟩ := lt_some hf
  refine topel ex4 ?_
  refine lv_lstore_n (lv' := [(2, .long x4), (0, .ref (ev.2.1 1)), (1, .int a1)]) hx hb dX1_priceAt_23 rfl hl (by decide) rfl (fun ls hl => ?_)
  refine lv_lload_n hx hb dX1_priceAt_24 rfl (lv_at hl 0 rfl) ?_
  refine lv_aload_n hx hb dX1_priceAt_25 rfl (lv_at hl 1 rfl) ?_
  refine gB1_1 hc hw fl_X1_15 dX1_priceAt_26 ?_
  refine lv_aload_n hx hb dX1_priceAt_29 rfl (lv_at hl 1 rfl) ?_
  refine gB1_6 hc hw fl_X1_31 dX1_priceAt_30 ?_
  refine lv_iload_n hx hb dX1_priceAt_33 rfl (lv_at hl 2 rfl) ?_
  obtain ⟨z, hf⟩ := oi_some hf
  refine aB16 hc hw z dX1_priceAt_34 ?_
  obtain ⟨z, hf⟩ := oi_some hf
  refine aB11 hc hw z dX1_priceAt_35 ?_
  refine lv_i2l (v := (gA u2 2 (gA u2 7 a1.toNatClampNeg).toNatClampNeg).toInt64) hx hb dX1_priceAt_36 rfl ?_
  refine lv_lmul hx hb dX1_priceAt_37 ?_
  refine lv_ldc2 (v := (1000 : Int64)) hx hb hown (hts _ ct_X1_58) dX1_priceAt_38 ?_
  refine lv_ldiv hx hb dX1_priceAt_41 (by decide) ?_
  obtain ⟨x5, ex5, hf⟩ := lt_some hf
  refine topel ex5 ?_
  refine lv_lstore (lv' := [(4, .long x5), (2, .long x4), (0, .ref (ev.2.1 1)), (1, .int a1)]) hx hb dX1_priceAt_42 hl (by decide) rfl (fun ls hl => ?_)
  refine lv_lconst (v := (1 : Int64)) hx hb dX1_priceAt_44 (by decide) ?_
  refine lv_lload hx hb dX1_priceAt_45 (lv_at hl 0 rfl) ?_
  refine va_mmax_long hx hb (hml.trans hl.1.symm) hown (hts _ ml_X1_60) (hts _ va_mmax_long_st) (hts _ math_in) (hts _ va_mmax_long_cd) (by decide) (Nat.le_of_ble_eq_true rfl) (Nat.zero_le _) (Nat.zero_le _) dX1_priceAt_47 ?_
  refine lv_l2i (v := (if x5 < (1 : Int64) then (1 : Int64) else x5).toInt32) hx hb dX1_priceAt_50 rfl ?_
  exact retI hc hr hlk hw hf dX1_priceAt_51
def f_X9_price (a1 : Int32) (a2 : Int32) (u : SS) : Option (Int32 × SS) :=
  ob (f_X9_noBid a1 a2 u) fun r3 u2 => if r3 = 0 then (ob (f_X9_cell a1 a2 u2) fun r6 u5 => oi r6 48 (if (gA u5 3 r6.toNatClampNeg) = 0 then (ob (f_X9_refuse (-5 : Int32) u5) fun r12 u11 => some (r12, u11)) else (ob (f_X1_priceAt r6 u5) fun r9 u8 => some (r9, u8)))) else (ob (f_X9_refuse (-1 : Int32) u2) fun r15 u14 => some (r15, u14))
set_option maxHeartbeats 4000000 in
set_option maxRecDepth 100000 in
theorem c_X9_price (l : Launch) (ev : EV) (a1 : Int32) (a2 : Int32) (u : SS) {r : Int32} {u' : SS} (hf : f_X9_price a1 a2 u = some (r, u')) : MI wdB l yX9_price cX9_price 4 (some .int) 3 ev [.ref (ev.2.1 0), .int a1, .int a2] u r u' := by
  refine bodyI (by decide +kernel) rfl (Nat.le_of_ble_eq_true rfl) ?_
  intro p e s m below meth cd ls H locs hc hr hlk hw hl
  generalize hav : (List.toArray [.ref (ev.2.1 0), .int a1, .int a2] : Array Value) = av at hc ⊢
  obtain ⟨hx, hb, hml, hown, hts, hK, hZ⟩ := id hc
  have hl : lv_has ls 4 [(0, .ref (ev.2.1 0)), (1, .int a1), (2, .int a2)] := hl
  unfold f_X9_price at hf
  refine lv_aload_n hx hb dX9_price_0 rfl (lv_at hl 0 rfl) ?_
  refine lv_iload_n hx hb dX9_price_1 rfl (lv_at hl 1 rfl) ?_
  refine lv_iload_n hx hb dX9_price_2 rfl (lv_at hl 2 rfl) ?_
  obtain ⟨r3, u2, h1, hf⟩ := ob_some hf
  refine endI okB hw (runV_ok (As := [.int a1, .int a2]) (rest := []) okB hc hw (c_X9_noBid l ev a1 a2 u h1 H.size) kv_X9_noBid ml_X9_93 (rvB0 ev u) hl.1 rfl rfl (Nat.le_of_ble_eq_true rfl) (rm_le (by decide) (by decide)) dX9_price_3) (fun H locs hw => ?_)
  refine lv_if_eq (tgt := 15) hx hb dX9_price_6 (by decide) (fun z => ?_) (fun z => ?_)
  · have hf := it_pos z hf
    refine lv_iload_n hx hb dX9_price_15 rfl (lv_at hl 1 rfl) ?_
    refine lv_iload_n hx hb dX9_price_16 rfl (lv_at hl 2 rfl) ?_
    obtain ⟨r6, u5, h4, hf⟩ := ob_some hf
    refine endI okB hw (runS_ok (As := [.int a1, .int a2]) (rest := []) okB hc hw (c_X9_cell l ev a1 a2 u2 h4 H.size) ks_X9_cell ml_X9_110 hl.1 rfl rfl (Nat.le_of_ble_eq_true rfl) (rm_le (by decide) (by decide)) dX9_price_17) (fun H locs hw => ?_)
    refine lv_istore_n (lv' := [(3, .int r6), (0, .ref (ev.2.1 0)), (1, .int a1), (2, .int a2)]) hx hb dX9_price_20 rfl hl (by decide) rfl (fun ls hl => ?_)
    refine lv_aload_n hx hb dX9_price_21 rfl (lv_at hl 1 rfl) ?_
    refine gB0_0 hc hw fl_X9_12 dX9_price_22 ?_
    refine gB1_2 hc hw fl_X9_113 dX9_price_25 ?_
    refine lv_iload_n hx hb dX9_price_28 rfl (lv_at hl 0 rfl) ?_
    obtain ⟨z, hf⟩ := oi_some hf
    refine aB12 hc hw z dX9_price_29 ?_
    refine lv_if_ne (tgt := 40) hx hb dX9_price_30 (by decide) (fun z => ?_) (fun z => ?_)
    · have hf := it_neg z hf
      refine lv_aload_n hx hb dX9_price_40 rfl (lv_at hl 1 rfl) ?_
      refine gB0_0 hc hw fl_X9_12 dX9_price_41 ?_
      refine lv_iload_n hx hb dX9_price_44 rfl (lv_at hl 0 rfl) ?_
      obtain ⟨r9, u8, h7, hf⟩ := ob_some hf
      refine endI okB hw (runV_ok (As := [.int r6]) (rest := []) okB hc hw (c_X1_priceAt l ev r6 u5 h7 H.size) kv_X1_priceAt ml_X9_131 (rvB1 ev u5) hl.1 rfl rfl (Nat.le_of_ble_eq_true rfl) (rm_le (by decide) (by decide)) dX9_price_45) (fun H locs hw => ?_)
      exact retI hc hr hlk hw hf dX9_price_48
    · have hf := it_pos z hf
      refine lv_aload_n hx hb dX9_price_33 rfl (lv_at hl 1 rfl) ?_
      refine lv_bipush (v := (-5 : Int32)) hx hb dX9_price_34 (by decide) ?_
      obtain ⟨r12, u11, h10, hf⟩ := ob_some hf
      refine endI okB hw (runV_ok (As := [.int (-5 : Int32)]) (rest := []) okB hc hw (c_X9_refuse l ev (-5 : Int32) u5 h10 H.size) kv_X9_refuse ml_X9_62 (rvB0 ev u5) hl.1 rfl rfl (Nat.le_of_ble_eq_true rfl) (rm_le (by decide) (by decide)) dX9_price_36) (fun H locs hw => ?_)
      exact retI hc hr hlk hw hf dX9_price_39
  · have hf := it_neg z hf
    refine lv_aload_n hx hb dX9_price_9 rfl (lv_at hl 0 rfl) ?_
    refine lv_iconst (v := (-1 : Int32)) hx hb dX9_price_10 (by decide) ?_
    obtain ⟨r15, u14, h13, hf⟩ := ob_some hf
    refine endI okB hw (runV_ok (As := [.int (-1 : Int32)]) (rest := []) okB hc hw (c_X9_refuse l ev (-1 : Int32) u2 h13 H.size) kv_X9_refuse ml_X9_62 (rvB0 ev u2) hl.1 rfl rfl (Nat.le_of_ble_eq_true rfl) (rm_le (by decide) (by decide)) dX9_price_11) (fun H locs hw => ?_)
    exact retI hc hr hlk hw hf dX9_price_14
def f_X9_noScorer (a0 : Int32) (u : SS) : Option (Int32 × SS) :=
  if a0 < 0 then (some ((1 : Int32), u)) else (if a0 < (6 : Int32) then (some ((0 : Int32), u)) else (some ((1 : Int32), u)))
set_option maxHeartbeats 4000000 in
set_option maxRecDepth 100000 in
theorem c_X9_noScorer (l : Launch) (ev : EV) (a0 : Int32) (u : SS) {r : Int32} {u' : SS} (hf : f_X9_noScorer a0 u = some (r, u')) : MI wdB l yX9_noScorer cX9_noScorer 1 (some .boolean) 0 ev [.int a0] u r u' := by
  refine bodyI (by decide +kernel) rfl (Nat.le_of_ble_eq_true rfl) ?_
  intro p e s m below meth cd ls H locs hc hr hlk hw hl
  generalize hav : (List.toArray [.int a0] : Array Value) = av at hc ⊢
  obtain ⟨hx, hb, hml, hown, hts, hK, hZ⟩ := id hc
  have hl : lv_has ls 1 [(0, .int a0)] := hl
  unfold f_X9_noScorer at hf
  refine lv_iload_n hx hb dX9_noScorer_0 rfl (lv_at hl 0 rfl) ?_
  refine lv_if_lt (tgt := 10) hx hb dX9_noScorer_1 (by decide) (fun z => ?_) (fun z => ?_)
  · have hf := it_pos z hf
    refine lv_iconst (v := (1 : Int32)) hx hb dX9_noScorer_10 (by decide) ?_
    refine lv_goto (tgt := 15) hx hb dX9_noScorer_11 (by decide) ?_
    exact retZ hc hr hlk hw nz1 hf dX9_noScorer_15
  · have hf := it_neg z hf
    refine lv_iload_n hx hb dX9_noScorer_4 rfl (lv_at hl 0 rfl) ?_
    refine lv_bipush (v := (6 : Int32)) hx hb dX9_noScorer_5 (by decide) ?_
    refine lv_icmp_lt (tgt := 14) hx hb dX9_noScorer_7 (by decide) (fun z => ?_) (fun z => ?_)
    · have hf := it_pos z hf
      refine lv_iconst (v := (0 : Int32)) hx hb dX9_noScorer_14 (by decide) ?_
      exact retZ hc hr hlk hw nz0 hf dX9_noScorer_15
    · have hf := it_neg z hf
      refine lv_iconst (v := (1 : Int32)) hx hb dX9_noScorer_10 (by decide) ?_
      refine lv_goto (tgt := 15) hx hb dX9_noScorer_11 (by decide) ?_
      exact retZ hc hr hlk hw nz1 hf dX9_noScorer_15
def f_X1_isLapsed (a1 : Int32) (u : SS) : Option (Int32 × SS) :=
  oi a1 48 (if (gA u 5 a1.toNatClampNeg) = 0 then (some ((0 : Int32), u)) else (oi a1 48 (if (gI u 0) ≤ (gA u 5 a1.toNatClampNeg) then (some ((0 : Int32), u)) else (some ((1 : Int32), u)))))
set_option maxHeartbeats 4000000 in
set_option maxRecDepth 100000 in
theorem c_X1_isLapsed (l : Launch) (ev : EV) (a1 : Int32) (u : SS) {r : Int32} {u' : SS} (hf : f_X1_isLapsed a1 u = some (r, u')) : MI wdB l yX1_isLapsed cX1_isLapsed 2 (some .boolean) 0 ev [.ref (ev.2.1 1), .int a1] u r u' := by
  refine bodyI (by decide +kernel) rfl (Nat.le_of_ble_eq_true rfl) ?_
  intro p e s m below meth cd ls H locs hc hr hlk hw hl
  generalize hav : (List.toArray [.ref (ev.2.1 1), .int a1] : Array Value) = av at hc ⊢
  obtain ⟨hx, hb, hml, hown, hts, hK, hZ⟩ := id hc
  have hl : lv_has ls 2 [(0, .ref (ev.2.1 1)), (1, .int a1)] := hl
  unfold f_X1_isLapsed at hf
  refine lv_aload_n hx hb dX1_isLapsed_0 rfl (lv_at hl 0 rfl) ?_
  refine gB1_4 hc hw fl_X1_25 dX1_isLapsed_1 ?_
  refine lv_iload_n hx hb dX1_isLapsed_4 rfl (lv_at hl 1 rfl) ?_
  obtain ⟨z, hf⟩ := oi_some hf
  refine aB14 hc hw z dX1_isLapsed_5 ?_
  refine lv_if_eq (tgt := 26) hx hb dX1_isLapsed_6 (by decide) (fun z => ?_) (fun z => ?_)
  · have hf := it_pos z hf
    refine lv_iconst (v := (0 : Int32)) hx hb dX1_isLapsed_26 (by decide) ?_
    exact retZ hc hr hlk hw nz0 hf dX1_isLapsed_27
  · have hf := it_neg z hf
    refine lv_aload_n hx hb dX1_isLapsed_9 rfl (lv_at hl 0 rfl) ?_
    refine gB1_9 hc hw fl_X1_47 dX1_isLapsed_10 ?_
    refine lv_aload_n hx hb dX1_isLapsed_13 rfl (lv_at hl 0 rfl) ?_
    refine gB1_4 hc hw fl_X1_25 dX1_isLapsed_14 ?_
    refine lv_iload_n hx hb dX1_isLapsed_17 rfl (lv_at hl 1 rfl) ?_
    obtain ⟨z, hf⟩ := oi_some hf
    refine aB14 hc hw z dX1_isLapsed_18 ?_
    refine lv_icmp_le (tgt := 26) hx hb dX1_isLapsed_19 (by decide) (fun z => ?_) (fun z => ?_)
    · have hf := it_pos z hf
      refine lv_iconst (v := (0 : Int32)) hx hb dX1_isLapsed_26 (by decide) ?_
      exact retZ hc hr hlk hw nz0 hf dX1_isLapsed_27
    · have hf := it_neg z hf
      refine lv_iconst (v := (1 : Int32)) hx hb dX1_isLapsed_22 (by decide) ?_
      refine lv_goto (tgt := 27) hx hb dX1_isLapsed_23 (by decide) ?_
      exact retZ hc hr hlk hw nz1 hf dX1_isLapsed_27
def f_X1_isOutAt (a1 : Int32) (u : SS) : Option (Int32 × SS) :=
  oi a1 48 (if (gA u 4 a1.toNatClampNeg) = 0 then (ob (f_X1_isLapsed a1 u) fun r3 u2 => if r3 = 0 then (some ((0 : Int32), u2)) else (some ((1 : Int32), u2))) else (some ((1 : Int32), u)))
set_option maxHeartbeats 4000000 in
set_option maxRecDepth 100000 in
theorem c_X1_isOutAt (l : Launch) (ev : EV) (a1 : Int32) (u : SS) {r : Int32} {u' : SS} (hf : f_X1_isOutAt a1 u = some (r, u')) : MI wdB l yX1_isOutAt cX1_isOutAt 2 (some .boolean) 1 ev [.ref (ev.2.1 1), .int a1] u r u' := by
  refine bodyI (by decide +kernel) rfl (Nat.le_of_ble_eq_true rfl) ?_
  intro p e s m below meth cd ls H locs hc hr hlk hw hl
  generalize hav : (List.toArray [.ref (ev.2.1 1), .int a1] : Array Value) = av at hc ⊢
  obtain ⟨hx, hb, hml, hown, hts, hK, hZ⟩ := id hc
  have hl : lv_has ls 2 [(0, .ref (ev.2.1 1)), (1, .int a1)] := hl
  unfold f_X1_isOutAt at hf
  refine lv_aload_n hx hb dX1_isOutAt_0 rfl (lv_at hl 0 rfl) ?_
  refine gB1_3 hc hw fl_X1_22 dX1_isOutAt_1 ?_
  refine lv_iload_n hx hb dX1_isOutAt_4 rfl (lv_at hl 1 rfl) ?_
  obtain ⟨z, hf⟩ := oi_some hf
  refine aB13 hc hw z dX1_isOutAt_5 ?_
  refine lv_if_ne (tgt := 17) hx hb dX1_isOutAt_6 (by decide) (fun z => ?_) (fun z => ?_)
  · have hf := it_neg z hf
    refine lv_iconst (v := (1 : Int32)) hx hb dX1_isOutAt_17 (by decide) ?_
    refine lv_goto (tgt := 22) hx hb dX1_isOutAt_18 (by decide) ?_
    exact retZ hc hr hlk hw nz1 hf dX1_isOutAt_22
  · have hf := it_pos z hf
    refine lv_aload_n hx hb dX1_isOutAt_9 rfl (lv_at hl 0 rfl) ?_
    refine lv_iload_n hx hb dX1_isOutAt_10 rfl (lv_at hl 1 rfl) ?_
    obtain ⟨r3, u2, h1, hf⟩ := ob_some hf
    refine endI okB hw (runV_ok (As := [.int a1]) (rest := []) okB hc hw (c_X1_isLapsed l ev a1 u h1 H.size) kv_X1_isLapsed ml_X1_72 (rvB1 ev u) hl.1 rfl rfl (Nat.le_of_ble_eq_true rfl) (rm_le (by decide) (by decide)) dX1_isOutAt_11) (fun H locs hw => ?_)
    refine lv_if_eq (tgt := 21) hx hb dX1_isOutAt_14 (by decide) (fun z => ?_) (fun z => ?_)
    · have hf := it_pos z hf
      refine lv_iconst (v := (0 : Int32)) hx hb dX1_isOutAt_21 (by decide) ?_
      exact retZ hc hr hlk hw nz0 hf dX1_isOutAt_22
    · have hf := it_neg z hf
      refine lv_iconst (v := (1 : Int32)) hx hb dX1_isOutAt_17 (by decide) ?_
      refine lv_goto (tgt := 22) hx hb dX1_isOutAt_18 (by decide) ?_
      exact retZ hc hr hlk hw nz1 hf dX1_isOutAt_22
def f_X1_standsAt (a1 : Int32) (u : SS) : Option (Int32 × SS) :=
  oi a1 48 (if (gA u 3 a1.toNatClampNeg) = 0 then (some ((0 : Int32), u)) else (ob (f_X1_isOutAt a1 u) fun r3 u2 => if r3 = 0 then (some ((1 : Int32), u2)) else (some ((0 : Int32), u2))))
set_option maxHeartbeats 4000000 in
set_option maxRecDepth 100000 in
theorem c_X1_standsAt (l : Launch) (ev : EV) (a1 : Int32) (u : SS) {r : Int32} {u' : SS} (hf : f_X1_standsAt a1 u = some (r, u')) : MI wdB l yX1_standsAt cX1_standsAt 2 (some .boolean) 2 ev [.ref (ev.2.1 1), .int a1] u r u' := by
  refine bodyI (by decide +kernel) rfl (Nat.le_of_ble_eq_true rfl) ?_
  intro p e s m below meth cd ls H locs hc hr hlk hw hl
  generalize hav : (List.toArray [.ref (ev.2.1 1), .int a1] : Array Value) = av at hc ⊢
  obtain ⟨hx, hb, hml, hown, hts, hK, hZ⟩ := id hc
  have hl : lv_has ls 2 [(0, .ref (ev.2.1 1)), (1, .int a1)] := hl
  unfold f_X1_standsAt at hf
  refine lv_aload_n hx hb dX1_standsAt_0 rfl (lv_at hl 0 rfl) ?_
  refine gB1_2 hc hw fl_X1_18 dX1_standsAt_1 ?_
  refine lv_iload_n hx hb dX1_standsAt_4 rfl (lv_at hl 1 rfl) ?_
  obtain ⟨z, hf⟩ := oi_some hf
  refine aB12 hc hw z dX1_standsAt_5 ?_
  refine lv_if_eq (tgt := 21) hx hb dX1_standsAt_6 (by decide) (fun z => ?_) (fun z => ?_)
  · have hf := it_pos z hf
    refine lv_iconst (v := (0 : Int32)) hx hb dX1_standsAt_21 (by decide) ?_
    exact retZ hc hr hlk hw nz0 hf dX1_standsAt_22
  · have hf := it_neg z hf
    refine lv_aload_n hx hb dX1_standsAt_9 rfl (lv_at hl 0 rfl) ?_
    refine lv_iload_n hx hb dX1_standsAt_10 rfl (lv_at hl 1 rfl) ?_
    obtain ⟨r3, u2, h1, hf⟩ := ob_some hf
    refine endI okB hw (runV_ok (As := [.int a1]) (rest := []) okB hc hw (c_X1_isOutAt l ev a1 u h1 H.size) kv_X1_isOutAt ml_X1_76 (rvB1 ev u) hl.1 rfl rfl (Nat.le_of_ble_eq_true rfl) (rm_le (by decide) (by decide)) dX1_standsAt_11) (fun H locs hw => ?_)
    refine lv_if_ne (tgt := 21) hx hb dX1_standsAt_14 (by decide) (fun z => ?_) (fun z => ?_)
    · have hf := it_neg z hf
      refine lv_iconst (v := (0 : Int32)) hx hb dX1_standsAt_21 (by decide) ?_
      exact retZ hc hr hlk hw nz0 hf dX1_standsAt_22
    · have hf := it_pos z hf
      refine lv_iconst (v := (1 : Int32)) hx hb dX1_standsAt_17 (by decide) ?_
      refine lv_goto (tgt := 22) hx hb dX1_standsAt_18 (by decide) ?_
      exact retZ hc hr hlk hw nz1 hf dX1_standsAt_22
def f_X5_put (a1 : Int32) (a2 : Int32) (a3 : Int32) (u : SS) : Option (Int32 × SS) :=
  oi ((a1 * (48 : Int32)) + a2) 288 (lt (gA u 10 ((a1 * (48 : Int32)) + a2).toNatClampNeg) fun x1 => oi ((a1 * (48 : Int32)) + a2) 288 (lt (tA u 10 ((a1 * (48 : Int32)) + a2) a3) fun u2 => some (x1, u2)))
set_option maxHeartbeats 4000000 in
set_option maxRecDepth 100000 in
theorem c_X5_put (l : Launch) (ev : EV) (a1 : Int32) (a2 : Int32) (a3 : Int32) (u : SS) {r : Int32} {u' : SS} (hf : f_X5_put a1 a2 a3 u = some (r, u')) : MI wdB l yX5_put cX5_put 5 (some .int) 0 ev [.ref (ev.2.1 2), .int a1, .int a2, .int a3] u r u' := by
  refine bodyI (by decide +kernel) rfl (Nat.le_of_ble_eq_true rfl) ?_
  intro p e s m below meth cd ls H locs hc hr hlk hw hl
  generalize hav : (List.toArray [.ref (ev.2.1 2), .int a1, .int a2, .int a3] : Array Value) = av at hc ⊢
  obtain ⟨hx, hb, hml, hown, hts, hK, hZ⟩ := id hc
  have hl : lv_has ls 5 [(0, .ref (ev.2.1 2)), (1, .int a1), (2, .int a2), (3, .int a3)] := hl
  unfold f_X5_put at hf
  refine lv_aload_n hx hb dX5_put_0 rfl (lv_at hl 0 rfl) ?_
  refine gB2_0 hc hw fl_X5_9 dX5_put_1 ?_
  refine lv_iload_n hx hb dX5_put_4 rfl (lv_at hl 1 rfl) ?_
  refine lv_bipush (v := (48 : Int32)) hx hb dX5_put_5 (by decide) ?_
  refine lv_imul hx hb dX5_put_7 ?_
  refine lv_iload_n hx hb dX5_put_8 rfl (lv_at hl 2 rfl) ?_
  refine lv_iadd hx hb dX5_put_9 ?_
  obtain ⟨z, hf⟩ := oi_some hf
  refine aB19 hc hw z dX5_put_10 ?_
  obtain ⟨x1, ex1, hf⟩ := lt_some hf
  refine tope ex1 ?_
  refine lv_istore (lv' := [(4, .int x1), (0, .ref (ev.2.1 2)), (1, .int a1), (2, .int a2), (3, .int a3)]) hx hb dX5_put_11 hl (by decide) rfl (fun ls hl => ?_)
  refine lv_aload_n hx hb dX5_put_13 rfl (lv_at hl 1 rfl) ?_
  refine gB2_0 hc hw fl_X5_9 dX5_put_14 ?_
  refine lv_iload_n hx hb dX5_put_17 rfl (lv_at hl 2 rfl) ?_
  refine lv_bipush (v := (48 : Int32)) hx hb dX5_put_18 (by decide) ?_
  refine lv_imul hx hb dX5_put_20 ?_
  refine lv_iload_n hx hb dX5_put_21 rfl (lv_at hl 3 rfl) ?_
  refine lv_iadd hx hb dX5_put_22 ?_
  refine lv_iload_n hx hb dX5_put_23 rfl (lv_at hl 4 rfl) ?_
  obtain ⟨z, hf⟩ := oi_some hf
  refine tB19 hc hw z dX5_put_24 (fun H locs hw => ?_)
  obtain ⟨u2, eu2, hf⟩ := lt_some hf
  have hw := VW.nm eu2 hw
  refine lv_iload hx hb dX5_put_25 (lv_at hl 0 rfl) ?_
  exact retI hc hr hlk hw hf dX5_put_27
