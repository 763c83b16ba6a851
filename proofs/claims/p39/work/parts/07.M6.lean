def f_X10_rebate_L22 (u : SS) : Option (Int32 × SS) :=
  ob (f_X10_refuse (-4 : Int32) u) fun r6 u5 => some (r6, u5)
def f_X10_rebate_L41 (u : SS) : Option (Int32 × SS) :=
  ob (f_X10_refuse (-6 : Int32) u) fun r9 u8 => some (r9, u8)
def f_X10_rebate (a1 : Int32) (a2 : Int32) (a3 : Int32) (u : SS) : Option (Int32 × SS) :=
  ob (f_X10_isBidder a1 u) fun r3 u2 => if r3 = 0 then (ob (f_X10_refuse (-1 : Int32) u2) fun r15 u14 => some (r15, u14)) else (if a2 < (1 : Int32) then (f_X10_rebate_L22 u2) else (if 0 ≤ a3 then (if (6 : Int32) < a2 then (f_X10_rebate_L41 u2) else (if a3 ≤ (50 : Int32) then (oi (((7 : Int32) * a1) + a2) 56 (lt (gA u2 17 (((7 : Int32) * a1) + a2).toNatClampNeg) fun x10 => oi (((7 : Int32) * a1) + a2) 56 (lt (tA u2 17 (((7 : Int32) * a1) + a2) a3) fun u11 => lt (sI u11 16 (0 : Int32)) fun u12 => some (x10, u12)))) else (f_X10_rebate_L41 u2))) else (f_X10_rebate_L22 u2)))
set_option maxHeartbeats 4000000 in
set_option maxRecDepth 100000 in
theorem c_X10_rebate (l : Launch) (ev : EV) (a1 : Int32) (a2 : Int32) (a3 : Int32) (u : SS) {r : Int32} {u' : SS} (hf : f_X10_rebate a1 a2 a3 u = some (r, u')) : MI wdM l yX10_rebate cX10_rebate 5 (some .int) 2 ev [.ref (ev.2.1 0), .int a1, .int a2, .int a3] u r u' := by
  refine bodyI (by decide +kernel) rfl (Nat.le_of_ble_eq_true rfl) ?_
  intro p e s m below meth cd ls H locs hc hr hlk hw hl
  generalize hav : (List.toArray [.ref (ev.2.1 0), .int a1, .int a2, .int a3] : Array Value) = av at hc ⊢
  obtain ⟨hx, hb, hml, hown, hts, hK, hZ⟩ := id hc
  have hl : lv_has ls 5 [(0, .ref (ev.2.1 0)), (1, .int a1), (2, .int a2), (3, .int a3)] := hl
  have wL22 : ∀ (u : SS) (H : Heap) (locs : List Loc) (ls : Array Slot), VW wdM ev s u H locs → lv_has ls 5 [(0, .ref (ev.2.1 0))] → f_X10_rebate_L22  u = some (r, u') → W p l e (rmk 2) s m av below meth cd H locs 0 0 (ZI wdM ev s below av r u') (F0 m 22 ls []) := by
    intro  u H locs ls hw hl hf
    unfold f_X10_rebate_L22 at hf
    refine lv_aload_n hx hb dX10_rebate_22 rfl (lv_at hl 0 rfl) ?_
    refine lv_bipush (v := (-4 : Int32)) hx hb dX10_rebate_23 (by decide) ?_
    obtain ⟨r6, u5, h4, hf⟩ := ob_some hf
    refine endI okM hw (runV_ok (As := [.int (-4 : Int32)]) (rest := []) okM hc hw (c_X10_refuse l ev (-4 : Int32) u h4 H.size) kv_X10_refuse ml_X10_151 (rvM0 ev u) hl.1 rfl rfl (Nat.le_of_ble_eq_true rfl) (rm_le (by decide) (by decide)) dX10_rebate_25) (fun H locs hw => ?_)
    exact retI hc hr hlk hw hf dX10_rebate_28
  have wL41 : ∀ (u : SS) (H : Heap) (locs : List Loc) (ls : Array Slot), VW wdM ev s u H locs → lv_has ls 5 [(0, .ref (ev.2.1 0))] → f_X10_rebate_L41  u = some (r, u') → W p l e (rmk 2) s m av below meth cd H locs 0 0 (ZI wdM ev s below av r u') (F0 m 41 ls []) := by
    intro  u H locs ls hw hl hf
    unfold f_X10_rebate_L41 at hf
    refine lv_aload_n hx hb dX10_rebate_41 rfl (lv_at hl 0 rfl) ?_
    refine lv_bipush (v := (-6 : Int32)) hx hb dX10_rebate_42 (by decide) ?_
    obtain ⟨r9, u8, h7, hf⟩ := ob_some hf
    refine endI okM hw (runV_ok (As := [.int (-6 : Int32)]) (rest := []) okM hc hw (c_X10_refuse l ev (-6 : Int32) u h7 H.size) kv_X10_refuse ml_X10_151 (rvM0 ev u) hl.1 rfl rfl (Nat.le_of_ble_eq_true rfl) (rm_le (by decide) (by decide)) dX10_rebate_44) (fun H locs hw => ?_)
    exact retI hc hr hlk hw hf dX10_rebate_47
  unfold f_X10_rebate at hf
  refine lv_iload_n hx hb dX10_rebate_0 rfl (lv_at hl 1 rfl) ?_
  obtain ⟨r3, u2, h1, hf⟩ := ob_some hf
  refine endI okM hw (runS_ok (As := [.int a1]) (rest := []) okM hc hw (c_X10_isBidder l ev a1 u h1 H.size) ks_X10_isBidder ml_X10_166 hl.1 rfl rfl (Nat.le_of_ble_eq_true rfl) (rm_le (by decide) (by decide)) dX10_rebate_1) (fun H locs hw => ?_)
  refine lv_if_ne (tgt := 13) hx hb dX10_rebate_4 (by decide) (fun z => ?_) (fun z => ?_)
  · have hf := it_neg z hf
    refine lv_iload_n hx hb dX10_rebate_13 rfl (lv_at hl 2 rfl) ?_
    refine lv_iconst (v := (1 : Int32)) hx hb dX10_rebate_14 (by decide) ?_
    refine lv_icmp_lt (tgt := 22) hx hb dX10_rebate_15 (by decide) (fun z => ?_) (fun z => ?_)
    · have hf := it_pos z hf
      exact wL22 u2 H locs ls hw (lv_sub hl [0] rfl) hf
    · have hf := it_neg z hf
      refine lv_iload_n hx hb dX10_rebate_18 rfl (lv_at hl 3 rfl) ?_
      refine lv_if_ge (tgt := 29) hx hb dX10_rebate_19 (by decide) (fun z => ?_) (fun z => ?_)
      · have hf := it_pos z hf
        refine lv_iload_n hx hb dX10_rebate_29 rfl (lv_at hl 2 rfl) ?_
        refine lv_bipush (v := (6 : Int32)) hx hb dX10_rebate_30 (by decide) ?_
        refine lv_icmp_gt (tgt := 41) hx hb dX10_rebate_32 (by decide) (fun z => ?_) (fun z => ?_)
        · have hf := it_pos z hf
          exact wL41 u2 H locs ls hw (lv_sub hl [0] rfl) hf
        · have hf := it_neg z hf
          refine lv_iload_n hx hb dX10_rebate_35 rfl (lv_at hl 3 rfl) ?_
          refine lv_bipush (v := (50 : Int32)) hx hb dX10_rebate_36 (by decide) ?_
          refine lv_icmp_le (tgt := 48) hx hb dX10_rebate_38 (by decide) (fun z => ?_) (fun z => ?_)
          · have hf := it_pos z hf
            refine lv_aload_n hx hb dX10_rebate_48 rfl (lv_at hl 0 rfl) ?_
            refine gM0_39 hc hw fl_X10_82 dX10_rebate_49 ?_
            refine lv_bipush (v := (7 : Int32)) hx hb dX10_rebate_52 (by decide) ?_
            refine lv_iload_n hx hb dX10_rebate_54 rfl (lv_at hl 1 rfl) ?_
            refine lv_imul hx hb dX10_rebate_55 ?_
            refine lv_iload_n hx hb dX10_rebate_56 rfl (lv_at hl 2 rfl) ?_
            refine lv_iadd hx hb dX10_rebate_57 ?_
            obtain ⟨z, hf⟩ := oi_some hf
            refine aM22 hc hw z dX10_rebate_58 ?_
            obtain ⟨x10, ex10, hf⟩ := lt_some hf
            refine tope ex10 ?_
            refine lv_istore (lv' := [(4, .int x10), (0, .ref (ev.2.1 0)), (1, .int a1), (2, .int a2), (3, .int a3)]) hx hb dX10_rebate_59 hl (by decide) rfl (fun ls hl => ?_)
            refine lv_aload_n hx hb dX10_rebate_61 rfl (lv_at hl 1 rfl) ?_
            refine gM0_39 hc hw fl_X10_82 dX10_rebate_62 ?_
            refine lv_bipush (v := (7 : Int32)) hx hb dX10_rebate_65 (by decide) ?_
            refine lv_iload_n hx hb dX10_rebate_67 rfl (lv_at hl 2 rfl) ?_
            refine lv_imul hx hb dX10_rebate_68 ?_
            refine lv_iload_n hx hb dX10_rebate_69 rfl (lv_at hl 3 rfl) ?_
            refine lv_iadd hx hb dX10_rebate_70 ?_
            refine lv_iload_n hx hb dX10_rebate_71 rfl (lv_at hl 4 rfl) ?_
            obtain ⟨z, hf⟩ := oi_some hf
            refine tM22 hc hw z dX10_rebate_72 (fun H locs hw => ?_)
            obtain ⟨u11, eu11, hf⟩ := lt_some hf
            have hw := VW.nm eu11 hw
            refine lv_aload_n hx hb dX10_rebate_73 rfl (lv_at hl 1 rfl) ?_
            refine lv_iconst (v := (0 : Int32)) hx hb dX10_rebate_74 (by decide) ?_
            refine pM0_40 hc hw fl_X10_156 nz0 fz0 dX10_rebate_75 (fun H locs hw => ?_)
            obtain ⟨u12, eu12, hf⟩ := lt_some hf
            have hw := VW.nm eu12 hw
            refine lv_iload hx hb dX10_rebate_78 (lv_at hl 0 rfl) ?_
            exact retI hc hr hlk hw hf dX10_rebate_80
          · have hf := it_neg z hf
            exact wL41 u2 H locs ls hw (lv_sub hl [0] rfl) hf
      · have hf := it_neg z hf
        exact wL22 u2 H locs ls hw (lv_sub hl [0] rfl) hf
  · have hf := it_pos z hf
    refine lv_aload_n hx hb dX10_rebate_7 rfl (lv_at hl 0 rfl) ?_
    refine lv_iconst (v := (-1 : Int32)) hx hb dX10_rebate_8 (by decide) ?_
    obtain ⟨r15, u14, h13, hf⟩ := ob_some hf
    refine endI okM hw (runV_ok (As := [.int (-1 : Int32)]) (rest := []) okM hc hw (c_X10_refuse l ev (-1 : Int32) u2 h13 H.size) kv_X10_refuse ml_X10_151 (rvM0 ev u2) hl.1 rfl rfl (Nat.le_of_ble_eq_true rfl) (rm_le (by decide) (by decide)) dX10_rebate_9) (fun H locs hw => ?_)
    exact retI hc hr hlk hw hf dX10_rebate_12
def f_X10_valueOf (a1 : Int32) (u : SS) : Option (Int32 × SS) :=
  oi a1 8 (oi a1 8 (oi (((7 : Int32) * a1) + (gA u 22 a1.toNatClampNeg)) 56 (some ((((((gA u 23 a1.toNatClampNeg).toInt64) * (((100 : Int32) - (gA u 17 (((7 : Int32) * a1) + (gA u 22 a1.toNatClampNeg)).toNatClampNeg)).toInt64)) + (99 : Int64)) / (100 : Int64)).toInt32, u))))
set_option maxHeartbeats 4000000 in
set_option maxRecDepth 100000 in
theorem c_X10_valueOf (l : Launch) (ev : EV) (a1 : Int32) (u : SS) {r : Int32} {u' : SS} (hf : f_X10_valueOf a1 u = some (r, u')) : MI wdM l yX10_valueOf cX10_valueOf 2 (some .int) 0 ev [.ref (ev.2.1 0), .int a1] u r u' := by
  refine bodyI (by decide +kernel) rfl (Nat.le_of_ble_eq_true rfl) ?_
  intro p e s m below meth cd ls H locs hc hr hlk hw hl
  generalize hav : (List.toArray [.ref (ev.2.1 0), .int a1] : Array Value) = av at hc ⊢
  obtain ⟨hx, hb, hml, hown, hts, hK, hZ⟩ := id hc
  have hl : lv_has ls 2 [(0, .ref (ev.2.1 0)), (1, .int a1)] := hl
  unfold f_X10_valueOf at hf
  refine lv_aload_n hx hb dX10_valueOf_0 rfl (lv_at hl 0 rfl) ?_
  refine gM0_48 hc hw fl_X10_100 dX10_valueOf_1 ?_
  refine lv_iload_n hx hb dX10_valueOf_4 rfl (lv_at hl 1 rfl) ?_
  obtain ⟨z, hf⟩ := oi_some hf
  refine aM28 hc hw z dX10_valueOf_5 ?_
  refine lv_i2l (v := (gA u 23 a1.toNatClampNeg).toInt64) hx hb dX10_valueOf_6 rfl ?_
  refine lv_bipush (v := (100 : Int32)) hx hb dX10_valueOf_7 (by decide) ?_
  refine lv_aload_n hx hb dX10_valueOf_9 rfl (lv_at hl 0 rfl) ?_
  refine gM0_39 hc hw fl_X10_82 dX10_valueOf_10 ?_
  refine lv_bipush (v := (7 : Int32)) hx hb dX10_valueOf_13 (by decide) ?_
  refine lv_iload_n hx hb dX10_valueOf_15 rfl (lv_at hl 1 rfl) ?_
  refine lv_imul hx hb dX10_valueOf_16 ?_
  refine lv_aload_n hx hb dX10_valueOf_17 rfl (lv_at hl 0 rfl) ?_
  refine gM0_47 hc hw fl_X10_97 dX10_valueOf_18 ?_
  refine lv_iload_n hx hb dX10_valueOf_21 rfl (lv_at hl 1 rfl) ?_
  obtain ⟨z, hf⟩ := oi_some hf
  refine aM27 hc hw z dX10_valueOf_22 ?_
  refine lv_iadd hx hb dX10_valueOf_23 ?_
  obtain ⟨z, hf⟩ := oi_some hf
  refine aM22 hc hw z dX10_valueOf_24 ?_
  refine lv_isub hx hb dX10_valueOf_25 ?_
  refine lv_i2l (v := ((100 : Int32) - (gA u 17 (((7 : Int32) * a1) + (gA u 22 a1.toNatClampNeg)).toNatClampNeg)).toInt64) hx hb dX10_valueOf_26 rfl ?_
  refine lv_lmul hx hb dX10_valueOf_27 ?_
  refine lv_ldc2 (v := (99 : Int64)) hx hb hown (hts _ ct_X10_327) dX10_valueOf_28 ?_
  refine lv_ladd hx hb dX10_valueOf_31 ?_
  refine lv_ldc2 (v := (100 : Int64)) hx hb hown (hts _ ct_X10_187) dX10_valueOf_32 ?_
  refine lv_ldiv hx hb dX10_valueOf_35 (by decide) ?_
  refine lv_l2i (v := (((((gA u 23 a1.toNatClampNeg).toInt64) * (((100 : Int32) - (gA u 17 (((7 : Int32) * a1) + (gA u 22 a1.toNatClampNeg)).toNatClampNeg)).toInt64)) + (99 : Int64)) / (100 : Int64)).toInt32) hx hb dX10_valueOf_36 rfl ?_
  exact retI hc hr hlk hw hf dX10_valueOf_37
def f_X10_isFirst_L67 (k2 : Int32 → SS → Option (Int32 × SS)) (b1 : Int32) (b2 : Int32) (q0 : Int32) (u : SS) : Option (Int32 × SS) :=
  if b2 = q0 then (lt (b1 + (1 : Int32)) fun x1 => k2 x1 u) else (if q0 ≤ b2 then (some ((0 : Int32), u)) else (some ((1 : Int32), u)))
def f_X10_isFirst_L46 (k2 : Int32 → SS → Option (Int32 × SS)) (b1 : Int32) (q0 : Int32) (u : SS) : Option (Int32 × SS) :=
  oi b1 6 (if 0 ≤ (gA u 18 b1.toNatClampNeg) then (oi b1 6 (f_X10_isFirst_L67 k2 b1 q0 (gA u 18 b1.toNatClampNeg) u)) else (f_X10_isFirst_L67 k2 b1 q0 (8 : Int32) u))
def b_X10_isFirst_L2 (k2 : Int32 → SS → Option (Int32 × SS)) (b1 : Int32) (u : SS) : Option (Int32 × SS) :=
  if (gI u 2) ≤ b1 then (some ((0 : Int32), u)) else (oi b1 6 (oi b1 6 (if (gA u 20 b1.toNatClampNeg) ≤ (gA u 21 b1.toNatClampNeg) then (f_X10_isFirst_L46 k2 b1 (8 : Int32) u) else (oi b1 6 (oi (((8 : Int32) * b1) + (gA u 21 b1.toNatClampNeg)) 48 (f_X10_isFirst_L46 k2 b1 (gA u 19 (((8 : Int32) * b1) + (gA u 21 b1.toNatClampNeg)).toNatClampNeg) u))))))
def f_X10_isFirst_L2 : Nat → Int32 → SS → Option (Int32 × SS)
  | 0 => fun _ _ => none
  | n + 1 => b_X10_isFirst_L2 (f_X10_isFirst_L2 n)
def f_X10_isFirst (u : SS) : Option (Int32 × SS) :=
  f_X10_isFirst_L2 FU (0 : Int32) u
set_option maxHeartbeats 4000000 in
set_option maxRecDepth 100000 in
theorem c_X10_isFirst (l : Launch) (ev : EV) (u : SS) {r : Int32} {u' : SS} (hf : f_X10_isFirst  u = some (r, u')) : MI wdM l yX10_isFirst cX10_isFirst 4 (some .boolean) 0 ev [.ref (ev.2.1 0)] u r u' := by
  refine bodyI (by decide +kernel) rfl (Nat.le_of_ble_eq_true rfl) ?_
  intro p e s m below meth cd ls H locs hc hr hlk hw hl
  generalize hav : (List.toArray [.ref (ev.2.1 0)] : Array Value) = av at hc ⊢
  obtain ⟨hx, hb, hml, hown, hts, hK, hZ⟩ := id hc
  have hl : lv_has ls 4 [(0, .ref (ev.2.1 0))] := hl
  have wL67 : ∀ (k2 : Int32 → SS → Option (Int32 × SS)) (hk2 : ∀ (b1 : Int32) (u : SS) (H : Heap) (locs : List Loc) (ls : Array Slot), VW wdM ev s u H locs → lv_has ls 4 [(0, .ref (ev.2.1 0)), (1, .int b1)] → k2 b1 u = some (r, u') → W p l e (rmk 0) s m av below meth cd H locs 0 0 (ZI wdM ev s below av r u') (F0 m 2 ls [])) (b1 : Int32) (b2 : Int32) (q0 : Int32) (u : SS) (H : Heap) (locs : List Loc) (ls : Array Slot), VW wdM ev s u H locs → lv_has ls 4 [(0, .ref (ev.2.1 0)), (1, .int b1), (2, .int b2)] → f_X10_isFirst_L67 k2 b1 b2 q0 u = some (r, u') → W p l e (rmk 0) s m av below meth cd H locs 0 0 (ZI wdM ev s below av r u') (F0 m 67 ls [.int q0]) := by
    intro k2 hk2 b1 b2 q0 u H locs ls hw hl hf
    unfold f_X10_isFirst_L67 at hf
    refine lv_istore_n (lv' := [(3, .int q0), (0, .ref (ev.2.1 0)), (1, .int b1), (2, .int b2)]) hx hb dX10_isFirst_67 rfl hl (by decide) rfl (fun ls hl => ?_)
    refine lv_iload_n hx hb dX10_isFirst_68 rfl (lv_at hl 3 rfl) ?_
    refine lv_iload_n hx hb dX10_isFirst_69 rfl (lv_at hl 0 rfl) ?_
    refine lv_icmp_eq (tgt := 84) hx hb dX10_isFirst_70 (by decide) (fun z => ?_) (fun z => ?_)
    · have hf := it_pos z hf
      obtain ⟨x1, ex1, hf⟩ := lt_some hf
      refine lv_iinc (v := x1) (lv' := [(1, .int x1), (3, .int q0), (0, .ref (ev.2.1 0)), (2, .int b2)]) hx hb dX10_isFirst_84 hl (k := 2) rfl (by rw [ex1]; rfl) (by decide) rfl (fun ls hl => ?_)
      refine lv_goto (tgt := 2) hx hb dX10_isFirst_87 (by decide) ?_
      exact hk2 x1 u H locs ls hw (lv_sub hl [2, 0] rfl) hf
    · have hf := it_neg z hf
      refine lv_iload_n hx hb dX10_isFirst_73 rfl (lv_at hl 3 rfl) ?_
      refine lv_iload_n hx hb dX10_isFirst_74 rfl (lv_at hl 0 rfl) ?_
      refine lv_icmp_ge (tgt := 82) hx hb dX10_isFirst_75 (by decide) (fun z => ?_) (fun z => ?_)
      · have hf := it_pos z hf
        refine lv_iconst (v := (0 : Int32)) hx hb dX10_isFirst_82 (by decide) ?_
        exact retZ hc hr hlk hw nz0 hf dX10_isFirst_83
      · have hf := it_neg z hf
        refine lv_iconst (v := (1 : Int32)) hx hb dX10_isFirst_78 (by decide) ?_
        refine lv_goto (tgt := 83) hx hb dX10_isFirst_79 (by decide) ?_
        exact retZ hc hr hlk hw nz1 hf dX10_isFirst_83
  have wL46 : ∀ (k2 : Int32 → SS → Option (Int32 × SS)) (hk2 : ∀ (b1 : Int32) (u : SS) (H : Heap) (locs : List Loc) (ls : Array Slot), VW wdM ev s u H locs → lv_has ls 4 [(0, .ref (ev.2.1 0)), (1, .int b1)] → k2 b1 u = some (r, u') → W p l e (rmk 0) s m av below meth cd H locs 0 0 (ZI wdM ev s below av r u') (F0 m 2 ls [])) (b1 : Int32) (q0 : Int32) (u : SS) (H : Heap) (locs : List Loc) (ls : Array Slot), VW wdM ev s u H locs → lv_has ls 4 [(0, .ref (ev.2.1 0)), (1, .int b1)] → f_X10_isFirst_L46 k2 b1 q0 u = some (r, u') → W p l e (rmk 0) s m av below meth cd H locs 0 0 (ZI wdM ev s below av r u') (F0 m 46 ls [.int q0]) := by
    intro k2 hk2 b1 q0 u H locs ls hw hl hf
    unfold f_X10_isFirst_L46 at hf
    refine lv_istore_n (lv' := [(2, .int q0), (0, .ref (ev.2.1 0)), (1, .int b1)]) hx hb dX10_isFirst_46 rfl hl (by decide) rfl (fun ls hl => ?_)
    refine lv_aload_n hx hb dX10_isFirst_47 rfl (lv_at hl 1 rfl) ?_
    refine gM0_41 hc hw fl_X10_85 dX10_isFirst_48 ?_
    refine lv_iload_n hx hb dX10_isFirst_51 rfl (lv_at hl 2 rfl) ?_
    obtain ⟨z, hf⟩ := oi_some hf
    refine aM23 hc hw z dX10_isFirst_52 ?_
    refine lv_if_ge (tgt := 61) hx hb dX10_isFirst_53 (by decide) (fun z => ?_) (fun z => ?_)
    · have hf := it_pos z hf
      refine lv_aload_n hx hb dX10_isFirst_61 rfl (lv_at hl 1 rfl) ?_
      refine gM0_41 hc hw fl_X10_85 dX10_isFirst_62 ?_
      refine lv_iload_n hx hb dX10_isFirst_65 rfl (lv_at hl 2 rfl) ?_
      obtain ⟨z, hf⟩ := oi_some hf
      refine aM23 hc hw z dX10_isFirst_66 ?_
      exact wL67 k2 hk2 b1 q0 (gA u 18 b1.toNatClampNeg) u H locs ls hw (lv_sub hl [1, 2, 0] rfl) hf
    · have hf := it_neg z hf
      refine lv_bipush (v := (8 : Int32)) hx hb dX10_isFirst_56 (by decide) ?_
      refine lv_goto (tgt := 67) hx hb dX10_isFirst_58 (by decide) ?_
      exact wL67 k2 hk2 b1 q0 (8 : Int32) u H locs ls hw (lv_sub hl [1, 2, 0] rfl) hf
  have wL2 : ∀ (n : Nat) (b1 : Int32) (u : SS) (H : Heap) (locs : List Loc) (ls : Array Slot), VW wdM ev s u H locs → lv_has ls 4 [(0, .ref (ev.2.1 0)), (1, .int b1)] → f_X10_isFirst_L2 n b1 u = some (r, u') → W p l e (rmk 0) s m av below meth cd H locs 0 0 (ZI wdM ev s below av r u') (F0 m 2 ls []) := by
    intro n
    induction n with
    | zero =>
      intro b1 u H locs ls hw hl hf
      cases hf
    | succ n hk2 =>
      intro b1 u H locs ls hw hl hf
      have hf : b_X10_isFirst_L2 (f_X10_isFirst_L2 n) b1 u = some (r, u') := hf
      unfold b_X10_isFirst_L2 at hf
      refine lv_iload_n hx hb dX10_isFirst_2 rfl (lv_at hl 1 rfl) ?_
      refine lv_aload_n hx hb dX10_isFirst_3 rfl (lv_at hl 0 rfl) ?_
      refine gM0_3 hc hw fl_X10_17 dX10_isFirst_4 ?_
      refine lv_icmp_ge (tgt := 90) hx hb dX10_isFirst_7 (by decide) (fun z => ?_) (fun z => ?_)
      · have hf := it_pos z hf
        refine lv_iconst (v := (0 : Int32)) hx hb dX10_isFirst_90 (by decide) ?_
        exact retZ hc hr hlk hw nz0 hf dX10_isFirst_91
      · have hf := it_neg z hf
        refine lv_aload_n hx hb dX10_isFirst_10 rfl (lv_at hl 0 rfl) ?_
        refine gM0_46 hc hw fl_X10_94 dX10_isFirst_11 ?_
        refine lv_iload_n hx hb dX10_isFirst_14 rfl (lv_at hl 1 rfl) ?_
        obtain ⟨z, hf⟩ := oi_some hf
        refine aM26 hc hw z dX10_isFirst_15 ?_
        refine lv_aload_n hx hb dX10_isFirst_16 rfl (lv_at hl 0 rfl) ?_
        refine gM0_45 hc hw fl_X10_91 dX10_isFirst_17 ?_
        refine lv_iload_n hx hb dX10_isFirst_20 rfl (lv_at hl 1 rfl) ?_
        obtain ⟨z, hf⟩ := oi_some hf
        refine aM25 hc hw z dX10_isFirst_21 ?_
        refine lv_icmp_ge (tgt := 44) hx hb dX10_isFirst_22 (by decide) (fun z => ?_) (fun z => ?_)
        · have hf := it_pos z hf
          refine lv_bipush (v := (8 : Int32)) hx hb dX10_isFirst_44 (by decide) ?_
          exact wL46 (f_X10_isFirst_L2 n) hk2 b1 (8 : Int32) u H locs ls hw (lv_sub hl [0, 1] rfl) hf
        · have hf := it_neg z hf
          refine lv_aload_n hx hb dX10_isFirst_25 rfl (lv_at hl 0 rfl) ?_
          refine gM0_44 hc hw fl_X10_88 dX10_isFirst_26 ?_
          refine lv_bipush (v := (8 : Int32)) hx hb dX10_isFirst_29 (by decide) ?_
          refine lv_iload_n hx hb dX10_isFirst_31 rfl (lv_at hl 1 rfl) ?_
          refine lv_imul hx hb dX10_isFirst_32 ?_
          refine lv_aload_n hx hb dX10_isFirst_33 rfl (lv_at hl 0 rfl) ?_
          refine gM0_46 hc hw fl_X10_94 dX10_isFirst_34 ?_
          refine lv_iload_n hx hb dX10_isFirst_37 rfl (lv_at hl 1 rfl) ?_
          obtain ⟨z, hf⟩ := oi_some hf
          refine aM26 hc hw z dX10_isFirst_38 ?_
          refine lv_iadd hx hb dX10_isFirst_39 ?_
          obtain ⟨z, hf⟩ := oi_some hf
          refine aM24 hc hw z dX10_isFirst_40 ?_
          refine lv_goto (tgt := 46) hx hb dX10_isFirst_41 (by decide) ?_
          exact wL46 (f_X10_isFirst_L2 n) hk2 b1 (gA u 19 (((8 : Int32) * b1) + (gA u 21 b1.toNatClampNeg)).toNatClampNeg) u H locs ls hw (lv_sub hl [0, 1] rfl) hf
  unfold f_X10_isFirst at hf
  refine lv_iconst (v := (0 : Int32)) hx hb dX10_isFirst_0 (by decide) ?_
  refine lv_istore_n (lv' := [(1, .int (0 : Int32)), (0, .ref (ev.2.1 0))]) hx hb dX10_isFirst_1 rfl hl (by decide) rfl (fun ls hl => ?_)
  exact wL2 FU (0 : Int32) u H locs ls hw (lv_sub hl [1, 0] rfl) hf
def f_X10_tryPicks_L340 (k285 : Int32 → SS → Option SS) (b5 : Int32) (q0 : Int32) (q1 : Int32) (u : SS) : Option SS :=
  oi q1 6 (lt (tA u 18 q1 q0) fun u7 => lt (b5 + (1 : Int32)) fun x8 => k285 x8 u7)
def b_X10_tryPicks_L285 (k285 : Int32 → SS → Option SS) (b5 : Int32) (u : SS) : Option SS :=
  if (gI u 2) ≤ b5 then (some u) else (oi b5 6 (oi b5 6 (if (gA u 20 b5.toNatClampNeg) ≤ (gA u 21 b5.toNatClampNeg) then (f_X10_tryPicks_L340 k285 b5 (-9 : Int32) b5 u) else (oi b5 6 (oi (((8 : Int32) * b5) + (gA u 21 b5.toNatClampNeg)) 48 (f_X10_tryPicks_L340 k285 b5 (gA u 19 (((8 : Int32) * b5) + (gA u 21 b5.toNatClampNeg)).toNatClampNeg) b5 u))))))
def f_X10_tryPicks_L285 : Nat → Int32 → SS → Option SS
  | 0 => fun _ _ => none
  | n + 1 => b_X10_tryPicks_L285 (f_X10_tryPicks_L285 n)
def f_X10_tryPicks_L260 (b1 : Int32) (b2 : Int32) (b3 : Int32) (q0 : Int32) (u : SS) : Option SS :=
  if q0 = 0 then (some u) else (lt (sI u 20 b1) fun u4 => lt (sI u4 21 b3) fun u5 => lt (sI u5 19 b2) fun u6 => f_X10_tryPicks_L285 FU (0 : Int32) u6)
def f_X10_tryPicks_L176 (k130 : Int32 → Int32 → Int32 → Int32 → SS → Option SS) (b1 : Int32) (b2 : Int32) (b4 : Int32) (q0 : Int32) (q1 : Int32) (u : SS) : Option SS :=
  lt (q1 + q0) fun x9 => lt (b4 + (1 : Int32)) fun x10 => k130 b1 b2 x9 x10 u
def b_X10_tryPicks_L130 (k130 : Int32 → Int32 → Int32 → Int32 → SS → Option SS) (b1 : Int32) (b2 : Int32) (b3 : Int32) (b4 : Int32) (u : SS) : Option SS :=
  if (8 : Int32) ≤ b4 then (if b1 = (gI u 20) then (if b3 = (gI u 21) then (if b2 = (gI u 19) then (ob (f_X10_isFirst u) fun r3 u2 => f_X10_tryPicks_L260 b1 b2 b3 r3 u2) else (if (gI u 19) ≤ b2 then (f_X10_tryPicks_L260 b1 b2 b3 (0 : Int32) u) else (f_X10_tryPicks_L260 b1 b2 b3 (1 : Int32) u))) else (if (gI u 21) ≤ b3 then (f_X10_tryPicks_L260 b1 b2 b3 (0 : Int32) u) else (f_X10_tryPicks_L260 b1 b2 b3 (1 : Int32) u))) else (if b1 ≤ (gI u 20) then (f_X10_tryPicks_L260 b1 b2 b3 (0 : Int32) u) else (f_X10_tryPicks_L260 b1 b2 b3 (1 : Int32) u))) else (oi b4 8 (oi b4 8 (if (gA u 22 b4.toNatClampNeg) ≤ (gA u 16 b4.toNatClampNeg) then (oi b4 8 (if (gA u 22 b4.toNatClampNeg) ≤ 0 then (f_X10_tryPicks_L176 k130 b1 b2 b4 (0 : Int32) b3 u) else (ob (f_X10_valueOf b4 u) fun r13 u12 => f_X10_tryPicks_L176 k130 b1 b2 b4 r13 b3 u12))) else (some u))))
def f_X10_tryPicks_L130 : Nat → Int32 → Int32 → Int32 → Int32 → SS → Option SS
  | 0 => fun _ _ _ _ _ => none
  | n + 1 => b_X10_tryPicks_L130 (f_X10_tryPicks_L130 n)
def f_X10_tryPicks_L119 (k34 : Int32 → Int32 → Int32 → SS → Option SS) (b1 : Int32) (b2 : Int32) (b3 : Int32) (u : SS) : Option SS :=
  lt (b3 + (1 : Int32)) fun x14 => k34 b1 b2 x14 u
def b_X10_tryPicks_L34 (k34 : Int32 → Int32 → Int32 → SS → Option SS) (b1 : Int32) (b2 : Int32) (b3 : Int32) (u : SS) : Option SS :=
  if (gI u 2) ≤ b3 then (f_X10_tryPicks_L130 FU b1 b2 (0 : Int32) (0 : Int32) u) else (oi b3 6 (oi b3 6 (if (gA u 20 b3.toNatClampNeg) ≤ (gA u 21 b3.toNatClampNeg) then (f_X10_tryPicks_L119 k34 b1 b2 b3 u) else (oi b3 6 (oi (((8 : Int32) * b3) + (gA u 21 b3.toNatClampNeg)) 48 (lt (gA u 19 (((8 : Int32) * b3) + (gA u 21 b3.toNatClampNeg)).toNatClampNeg) fun x15 => oi x15 8 (oi x15 8 (lt (tA u 22 x15 ((gA u 22 x15.toNatClampNeg) + (1 : Int32))) fun u16 => oi x15 8 (ob (f_X10_priceOf (((8 : Int32) * b3) + x15) u16) fun r19 u18 => oi x15 8 (lt (tA u18 23 x15 ((gA u16 23 x15.toNatClampNeg) + r19)) fun u20 => oi b3 6 (lt (b2 + (gA u20 21 b3.toNatClampNeg)) fun x21 => lt (b1 + (1 : Int32)) fun x22 => f_X10_tryPicks_L119 k34 x22 x21 b3 u20)))))))))))
def f_X10_tryPicks_L34 : Nat → Int32 → Int32 → Int32 → SS → Option SS
  | 0 => fun _ _ _ _ => none
  | n + 1 => b_X10_tryPicks_L34 (f_X10_tryPicks_L34 n)
def b_X10_tryPicks_L6 (k6 : Int32 → Int32 → Int32 → SS → Option SS) (b1 : Int32) (b2 : Int32) (b3 : Int32) (u : SS) : Option SS :=
  if (8 : Int32) ≤ b3 then (f_X10_tryPicks_L34 FU b1 b2 (0 : Int32) u) else (oi b3 8 (lt (tA u 22 b3 (0 : Int32)) fun u23 => oi b3 8 (lt (tA u23 23 b3 (0 : Int32)) fun u24 => lt (b3 + (1 : Int32)) fun x25 => k6 b1 b2 x25 u24)))
def f_X10_tryPicks_L6 : Nat → Int32 → Int32 → Int32 → SS → Option SS
  | 0 => fun _ _ _ _ => none
  | n + 1 => b_X10_tryPicks_L6 (f_X10_tryPicks_L6 n)
def f_X10_tryPicks (u : SS) : Option SS :=
  f_X10_tryPicks_L6 FU (0 : Int32) (0 : Int32) (0 : Int32) u
set_option maxHeartbeats 4000000 in
set_option maxRecDepth 100000 in
theorem c_X10_tryPicks (l : Launch) (ev : EV) (u : SS) {u' : SS} (hf : f_X10_tryPicks  u = some u') : MV wdM l yX10_tryPicks cX10_tryPicks 6 none 2 ev [.ref (ev.2.1 0)] u u' := by
  refine bodyV (by decide +kernel) rfl (Nat.le_of_ble_eq_true rfl) ?_
  intro p e s m below meth cd ls H locs hc hr hlk hw hl
  generalize hav : (List.toArray [.ref (ev.2.1 0)] : Array Value) = av at hc ⊢
  obtain ⟨hx, hb, hml, hown, hts, hK, hZ⟩ := id hc
  have hl : lv_has ls 6 [(0, .ref (ev.2.1 0))] := hl
  have wL340 : ∀ (k285 : Int32 → SS → Option SS) (hk285 : ∀ (b5 : Int32) (u : SS) (H : Heap) (locs : List Loc) (ls : Array Slot), VW wdM ev s u H locs → lv_has ls 6 [(0, .ref (ev.2.1 0)), (5, .int b5)] → k285 b5 u = some u' → W p l e (rmk 2) s m av below meth cd H locs 0 0 (ZV wdM ev s below av u') (F0 m 285 ls [])) (b5 : Int32) (q0 : Int32) (q1 : Int32) (u : SS) (H : Heap) (locs : List Loc) (ls : Array Slot), VW wdM ev s u H locs → lv_has ls 6 [(0, .ref (ev.2.1 0)), (5, .int b5)] → f_X10_tryPicks_L340 k285 b5 q0 q1 u = some u' → W p l e (rmk 2) s m av below meth cd H locs 0 0 (ZV wdM ev s below av u') (F0 m 340 ls [.int q0, .int q1, .ref (ev.2.1 23)]) := by
    intro k285 hk285 b5 q0 q1 u H locs ls hw hl hf
    unfold f_X10_tryPicks_L340 at hf
    obtain ⟨z, hf⟩ := oi_some hf
    refine tM23 hc hw z dX10_tryPicks_340 (fun H locs hw => ?_)
    obtain ⟨u7, eu7, hf⟩ := lt_some hf
    have hw := VW.nm eu7 hw
    obtain ⟨x8, ex8, hf⟩ := lt_some hf
    refine lv_iinc (v := x8) (lv' := [(5, .int x8), (0, .ref (ev.2.1 0))]) hx hb dX10_tryPicks_341 hl (k := 1) rfl (by rw [ex8]; rfl) (by decide) rfl (fun ls hl => ?_)
    refine lv_goto (tgt := 285) hx hb dX10_tryPicks_344 (by decide) ?_
    exact hk285 x8 u7 H locs ls hw (lv_sub hl [1, 0] rfl) hf
  have wL285 : ∀ (n : Nat) (b5 : Int32) (u : SS) (H : Heap) (locs : List Loc) (ls : Array Slot), VW wdM ev s u H locs → lv_has ls 6 [(0, .ref (ev.2.1 0)), (5, .int b5)] → f_X10_tryPicks_L285 n b5 u = some u' → W p l e (rmk 2) s m av below meth cd H locs 0 0 (ZV wdM ev s below av u') (F0 m 285 ls []) := by
    intro n
    induction n with
    | zero =>
      intro b5 u H locs ls hw hl hf
      cases hf
    | succ n hk285 =>
      intro b5 u H locs ls hw hl hf
      have hf : b_X10_tryPicks_L285 (f_X10_tryPicks_L285 n) b5 u = some u' := hf
      unfold b_X10_tryPicks_L285 at hf
      refine lv_iload hx hb dX10_tryPicks_285 (lv_at hl 1 rfl) ?_
      refine lv_aload_n hx hb dX10_tryPicks_287 rfl (lv_at hl 0 rfl) ?_
      refine gM0_3 hc hw fl_X10_17 dX10_tryPicks_288 ?_
      refine lv_icmp_ge (tgt := 347) hx hb dX10_tryPicks_291 (by decide) (fun z => ?_) (fun z => ?_)
      · have hf := it_pos z hf
        exact retV hc hr hlk hw hf dX10_tryPicks_347
      · have hf := it_neg z hf
        refine lv_aload_n hx hb dX10_tryPicks_294 rfl (lv_at hl 0 rfl) ?_
        refine gM0_41 hc hw fl_X10_85 dX10_tryPicks_295 ?_
        refine lv_iload hx hb dX10_tryPicks_298 (lv_at hl 1 rfl) ?_
        refine lv_aload_n hx hb dX10_tryPicks_300 rfl (lv_at hl 0 rfl) ?_
        refine gM0_46 hc hw fl_X10_94 dX10_tryPicks_301 ?_
        refine lv_iload hx hb dX10_tryPicks_304 (lv_at hl 1 rfl) ?_
        obtain ⟨z, hf⟩ := oi_some hf
        refine aM26 hc hw z dX10_tryPicks_306 ?_
        refine lv_aload_n hx hb dX10_tryPicks_307 rfl (lv_at hl 0 rfl) ?_
        refine gM0_45 hc hw fl_X10_91 dX10_tryPicks_308 ?_
        refine lv_iload hx hb dX10_tryPicks_311 (lv_at hl 1 rfl) ?_
        obtain ⟨z, hf⟩ := oi_some hf
        refine aM25 hc hw z dX10_tryPicks_313 ?_
        refine lv_icmp_ge (tgt := 338) hx hb dX10_tryPicks_314 (by decide) (fun z => ?_) (fun z => ?_)
        · have hf := it_pos z hf
          refine lv_bipush (v := (-9 : Int32)) hx hb dX10_tryPicks_338 (by decide) ?_
          exact wL340 (f_X10_tryPicks_L285 n) hk285 b5 (-9 : Int32) b5 u H locs ls hw (lv_sub hl [0, 1] rfl) hf
        · have hf := it_neg z hf
          refine lv_aload_n hx hb dX10_tryPicks_317 rfl (lv_at hl 0 rfl) ?_
          refine gM0_44 hc hw fl_X10_88 dX10_tryPicks_318 ?_
          refine lv_bipush (v := (8 : Int32)) hx hb dX10_tryPicks_321 (by decide) ?_
          refine lv_iload hx hb dX10_tryPicks_323 (lv_at hl 1 rfl) ?_
          refine lv_imul hx hb dX10_tryPicks_325 ?_
          refine lv_aload_n hx hb dX10_tryPicks_326 rfl (lv_at hl 0 rfl) ?_
          refine gM0_46 hc hw fl_X10_94 dX10_tryPicks_327 ?_
          refine lv_iload hx hb dX10_tryPicks_330 (lv_at hl 1 rfl) ?_
          obtain ⟨z, hf⟩ := oi_some hf
          refine aM26 hc hw z dX10_tryPicks_332 ?_
          refine lv_iadd hx hb dX10_tryPicks_333 ?_
          obtain ⟨z, hf⟩ := oi_some hf
          refine aM24 hc hw z dX10_tryPicks_334 ?_
          refine lv_goto (tgt := 340) hx hb dX10_tryPicks_335 (by decide) ?_
          exact wL340 (f_X10_tryPicks_L285 n) hk285 b5 (gA u 19 (((8 : Int32) * b5) + (gA u 21 b5.toNatClampNeg)).toNatClampNeg) b5 u H locs ls hw (lv_sub hl [0, 1] rfl) hf
  have wL260 : ∀ (b1 : Int32) (b2 : Int32) (b3 : Int32) (q0 : Int32) (u : SS) (H : Heap) (locs : List Loc) (ls : Array Slot), VW wdM ev s u H locs → lv_has ls 6 [(0, .ref (ev.2.1 0)), (1, .int b1), (2, .int b2), (3, .int b3)] → f_X10_tryPicks_L260 b1 b2 b3 q0 u = some u' → W p l e (rmk 2) s m av below meth cd H locs 0 0 (ZV wdM ev s below av u') (F0 m 260 ls [.int q0]) := by
    intro b1 b2 b3 q0 u H locs ls hw hl hf
    unfold f_X10_tryPicks_L260 at hf
    refine lv_istore (lv' := [(4, .int q0), (0, .ref (ev.2.1 0)), (1, .int b1), (2, .int b2), (3, .int b3)]) hx hb dX10_tryPicks_260 hl (by decide) rfl (fun ls hl => ?_)
    refine lv_iload hx hb dX10_tryPicks_262 (lv_at hl 0 rfl) ?_
    refine lv_if_eq (tgt := 347) hx hb dX10_tryPicks_264 (by decide) (fun z => ?_) (fun z => ?_)
    · have hf := it_pos z hf
      exact retV hc hr hlk hw hf dX10_tryPicks_347
    · have hf := it_neg z hf
      refine lv_aload_n hx hb dX10_tryPicks_267 rfl (lv_at hl 1 rfl) ?_
      refine lv_iload_n hx hb dX10_tryPicks_268 rfl (lv_at hl 2 rfl) ?_
      refine pM0_50 hc hw fl_X10_332 dX10_tryPicks_269 (fun H locs hw => ?_)
      obtain ⟨u4, eu4, hf⟩ := lt_some hf
      have hw := VW.nm eu4 hw
      refine lv_aload_n hx hb dX10_tryPicks_272 rfl (lv_at hl 1 rfl) ?_
      refine lv_iload_n hx hb dX10_tryPicks_273 rfl (lv_at hl 4 rfl) ?_
      refine pM0_51 hc hw fl_X10_335 dX10_tryPicks_274 (fun H locs hw => ?_)
      obtain ⟨u5, eu5, hf⟩ := lt_some hf
      have hw := VW.nm eu5 hw
      refine lv_aload_n hx hb dX10_tryPicks_277 rfl (lv_at hl 1 rfl) ?_
      refine lv_iload_n hx hb dX10_tryPicks_278 rfl (lv_at hl 3 rfl) ?_
      refine pM0_49 hc hw fl_X10_338 dX10_tryPicks_279 (fun H locs hw => ?_)
      obtain ⟨u6, eu6, hf⟩ := lt_some hf
      have hw := VW.nm eu6 hw
      refine lv_iconst (v := (0 : Int32)) hx hb dX10_tryPicks_282 (by decide) ?_
      refine lv_istore (lv' := [(5, .int (0 : Int32)), (4, .int q0), (0, .ref (ev.2.1 0)), (1, .int b1), (2, .int b2), (3, .int b3)]) hx hb dX10_tryPicks_283 hl (by decide) rfl (fun ls hl => ?_)
      exact wL285 FU (0 : Int32) u6 H locs ls hw (lv_sub hl [2, 0] rfl) hf
  have wL176 : ∀ (k130 : Int32 → Int32 → Int32 → Int32 → SS → Option SS) (hk130 : ∀ (b1 : Int32) (b2 : Int32) (b3 : Int32) (b4 : Int32) (u : SS) (H : Heap) (locs : List Loc) (ls : Array Slot), VW wdM ev s u H locs → lv_has ls 6 [(0, .ref (ev.2.1 0)), (1, .int b1), (2, .int b2), (3, .int b3), (4, .int b4)] → k130 b1 b2 b3 b4 u = some u' → W p l e (rmk 2) s m av below meth cd H locs 0 0 (ZV wdM ev s below av u') (F0 m 130 ls [])) (b1 : Int32) (b2 : Int32) (b4 : Int32) (q0 : Int32) (q1 : Int32) (u : SS) (H : Heap) (locs : List Loc) (ls : Array Slot), VW wdM ev s u H locs → lv_has ls 6 [(0, .ref (ev.2.1 0)), (1, .int b1), (2, .int b2), (4, .int b4)] → f_X10_tryPicks_L176 k130 b1 b2 b4 q0 q1 u = some u' → W p l e (rmk 2) s m av below meth cd H locs 0 0 (ZV wdM ev s below av u') (F0 m 176 ls [.int q0, .int q1]) := by
    intro k130 hk130 b1 b2 b4 q0 q1 u H locs ls hw hl hf
    unfold f_X10_tryPicks_L176 at hf
    refine lv_iadd hx hb dX10_tryPicks_176 ?_
    obtain ⟨x9, ex9, hf⟩ := lt_some hf
    refine tope ex9 ?_
    refine lv_istore_n (lv' := [(3, .int x9), (0, .ref (ev.2.1 0)), (1, .int b1), (2, .int b2), (4, .int b4)]) hx hb dX10_tryPicks_177 rfl hl (by decide) rfl (fun ls hl => ?_)
    obtain ⟨x10, ex10, hf⟩ := lt_some hf
    refine lv_iinc (v := x10) (lv' := [(4, .int x10), (3, .int x9), (0, .ref (ev.2.1 0)), (1, .int b1), (2, .int b2)]) hx hb dX10_tryPicks_178 hl (k := 4) rfl (by rw [ex10]; rfl) (by decide) rfl (fun ls hl => ?_)
    refine lv_goto (tgt := 130) hx hb dX10_tryPicks_181 (by decide) ?_
    exact hk130 b1 b2 x9 x10 u H locs ls hw (lv_sub hl [2, 3, 4, 1, 0] rfl) hf
  have wL130 : ∀ (n : Nat) (b1 : Int32) (b2 : Int32) (b3 : Int32) (b4 : Int32) (u : SS) (H : Heap) (locs : List Loc) (ls : Array Slot), VW wdM ev s u H locs → lv_has ls 6 [(0, .ref (ev.2.1 0)), (1, .int b1), (2, .int b2), (3, .int b3), (4, .int b4)] → f_X10_tryPicks_L130 n b1 b2 b3 b4 u = some u' → W p l e (rmk 2) s m av below meth cd H locs 0 0 (ZV wdM ev s below av u') (F0 m 130 ls []) := by
    intro n
    induction n with
    | zero =>
      intro b1 b2 b3 b4 u H locs ls hw hl hf
      cases hf
    | succ n hk130 =>
      intro b1 b2 b3 b4 u H locs ls hw hl hf
      have hf : b_X10_tryPicks_L130 (f_X10_tryPicks_L130 n) b1 b2 b3 b4 u = some u' := hf
      unfold b_X10_tryPicks_L130 at hf
      refine lv_iload hx hb dX10_tryPicks_130 (lv_at hl 4 rfl) ?_
      refine lv_bipush (v := (8 : Int32)) hx hb dX10_tryPicks_132 (by decide) ?_
      refine lv_icmp_ge (tgt := 184) hx hb dX10_tryPicks_134 (by decide) (fun z => ?_) (fun z => ?_)
      · have hf := it_pos z hf
        refine lv_iload_n hx hb dX10_tryPicks_184 rfl (lv_at hl 1 rfl) ?_
        refine lv_aload_n hx hb dX10_tryPicks_185 rfl (lv_at hl 0 rfl) ?_
        refine gM0_50 hc hw fl_X10_332 dX10_tryPicks_186 ?_
        refine lv_icmp_eq (tgt := 208) hx hb dX10_tryPicks_189 (by decide) (fun z => ?_) (fun z => ?_)
        · have hf := it_pos z hf
          refine lv_iload_n hx hb dX10_tryPicks_208 rfl (lv_at hl 3 rfl) ?_
          refine lv_aload_n hx hb dX10_tryPicks_209 rfl (lv_at hl 0 rfl) ?_
          refine gM0_51 hc hw fl_X10_335 dX10_tryPicks_210 ?_
          refine lv_icmp_eq (tgt := 232) hx hb dX10_tryPicks_213 (by decide) (fun z => ?_) (fun z => ?_)
          · have hf := it_pos z hf
            refine lv_iload_n hx hb dX10_tryPicks_232 rfl (lv_at hl 2 rfl) ?_
            refine lv_aload_n hx hb dX10_tryPicks_233 rfl (lv_at hl 0 rfl) ?_
            refine gM0_49 hc hw fl_X10_338 dX10_tryPicks_234 ?_
            refine lv_icmp_eq (tgt := 256) hx hb dX10_tryPicks_237 (by decide) (fun z => ?_) (fun z => ?_)
            · have hf := it_pos z hf
              refine lv_aload_n hx hb dX10_tryPicks_256 rfl (lv_at hl 0 rfl) ?_
              obtain ⟨r3, u2, h1, hf⟩ := ob_some hf
              refine endI okM hw (runV_ok (As := []) (rest := []) okM hc hw (c_X10_isFirst l ev u h1 H.size) kv_X10_isFirst ml_X10_341 (rvM0 ev u) hl.1 rfl rfl (Nat.le_of_ble_eq_true rfl) (rm_le (by decide) (by decide)) dX10_tryPicks_257) (fun H locs hw => ?_)
              exact wL260 b1 b2 b3 r3 u2 H locs ls hw (lv_sub hl [0, 1, 2, 3] rfl) hf
            · have hf := it_neg z hf
              refine lv_iload_n hx hb dX10_tryPicks_240 rfl (lv_at hl 2 rfl) ?_
              refine lv_aload_n hx hb dX10_tryPicks_241 rfl (lv_at hl 0 rfl) ?_
              refine gM0_49 hc hw fl_X10_338 dX10_tryPicks_242 ?_
              refine lv_icmp_ge (tgt := 252) hx hb dX10_tryPicks_245 (by decide) (fun z => ?_) (fun z => ?_)
              · have hf := it_pos z hf
                refine lv_iconst (v := (0 : Int32)) hx hb dX10_tryPicks_252 (by decide) ?_
                refine lv_goto (tgt := 260) hx hb dX10_tryPicks_253 (by decide) ?_
                exact wL260 b1 b2 b3 (0 : Int32) u H locs ls hw (lv_sub hl [0, 1, 2, 3] rfl) hf
              · have hf := it_neg z hf
                refine lv_iconst (v := (1 : Int32)) hx hb dX10_tryPicks_248 (by decide) ?_
                refine lv_goto (tgt := 260) hx hb dX10_tryPicks_249 (by decide) ?_
                exact wL260 b1 b2 b3 (1 : Int32) u H locs ls hw (lv_sub hl [0, 1, 2, 3] rfl) hf
          · have hf := it_neg z hf
            refine lv_iload_n hx hb dX10_tryPicks_216 rfl (lv_at hl 3 rfl) ?_
            refine lv_aload_n hx hb dX10_tryPicks_217 rfl (lv_at hl 0 rfl) ?_
            refine gM0_51 hc hw fl_X10_335 dX10_tryPicks_218 ?_
            refine lv_icmp_ge (tgt := 228) hx hb dX10_tryPicks_221 (by decide) (fun z => ?_) (fun z => ?_)
            · have hf := it_pos z hf
              refine lv_iconst (v := (0 : Int32)) hx hb dX10_tryPicks_228 (by decide) ?_
              refine lv_goto (tgt := 260) hx hb dX10_tryPicks_229 (by decide) ?_
              exact wL260 b1 b2 b3 (0 : Int32) u H locs ls hw (lv_sub hl [0, 1, 2, 3] rfl) hf
            · have hf := it_neg z hf
              refine lv_iconst (v := (1 : Int32)) hx hb dX10_tryPicks_224 (by decide) ?_
              refine lv_goto (tgt := 260) hx hb dX10_tryPicks_225 (by decide) ?_
              exact wL260 b1 b2 b3 (1 : Int32) u H locs ls hw (lv_sub hl [0, 1, 2, 3] rfl) hf
        · have hf := it_neg z hf
          refine lv_iload_n hx hb dX10_tryPicks_192 rfl (lv_at hl 1 rfl) ?_
          refine lv_aload_n hx hb dX10_tryPicks_193 rfl (lv_at hl 0 rfl) ?_
          refine gM0_50 hc hw fl_X10_332 dX10_tryPicks_194 ?_
          refine lv_icmp_le (tgt := 204) hx hb dX10_tryPicks_197 (by decide) (fun z => ?_) (fun z => ?_)
          · have hf := it_pos z hf
            refine lv_iconst (v := (0 : Int32)) hx hb dX10_tryPicks_204 (by decide) ?_
            refine lv_goto (tgt := 260) hx hb dX10_tryPicks_205 (by decide) ?_
            exact wL260 b1 b2 b3 (0 : Int32) u H locs ls hw (lv_sub hl [0, 1, 2, 3] rfl) hf
          · have hf := it_neg z hf
            refine lv_iconst (v := (1 : Int32)) hx hb dX10_tryPicks_200 (by decide) ?_
            refine lv_goto (tgt := 260) hx hb dX10_tryPicks_201 (by decide) ?_
            exact wL260 b1 b2 b3 (1 : Int32) u H locs ls hw (lv_sub hl [0, 1, 2, 3] rfl) hf
      · have hf := it_neg z hf
        refine lv_aload_n hx hb dX10_tryPicks_137 rfl (lv_at hl 0 rfl) ?_
        refine gM0_47 hc hw fl_X10_97 dX10_tryPicks_138 ?_
        refine lv_iload hx hb dX10_tryPicks_141 (lv_at hl 4 rfl) ?_
        obtain ⟨z, hf⟩ := oi_some hf
        refine aM27 hc hw z dX10_tryPicks_143 ?_
        refine lv_aload_n hx hb dX10_tryPicks_144 rfl (lv_at hl 0 rfl) ?_
        refine gM0_38 hc hw fl_X10_79 dX10_tryPicks_145 ?_
        refine lv_iload hx hb dX10_tryPicks_148 (lv_at hl 4 rfl) ?_
        obtain ⟨z, hf⟩ := oi_some hf
        refine aM21 hc hw z dX10_tryPicks_150 ?_
        refine lv_icmp_le (tgt := 155) hx hb dX10_tryPicks_151 (by decide) (fun z => ?_) (fun z => ?_)
        · have hf := it_pos z hf
          refine lv_iload_n hx hb dX10_tryPicks_155 rfl (lv_at hl 3 rfl) ?_
          refine lv_aload_n hx hb dX10_tryPicks_156 rfl (lv_at hl 0 rfl) ?_
          refine gM0_47 hc hw fl_X10_97 dX10_tryPicks_157 ?_
          refine lv_iload hx hb dX10_tryPicks_160 (lv_at hl 4 rfl) ?_
          obtain ⟨z, hf⟩ := oi_some hf
          refine aM27 hc hw z dX10_tryPicks_162 ?_
          refine lv_if_le (tgt := 175) hx hb dX10_tryPicks_163 (by decide) (fun z => ?_) (fun z => ?_)
          · have hf := it_pos z hf
            refine lv_iconst (v := (0 : Int32)) hx hb dX10_tryPicks_175 (by decide) ?_
            exact wL176 (f_X10_tryPicks_L130 n) hk130 b1 b2 b4 (0 : Int32) b3 u H locs ls hw (lv_sub hl [0, 1, 2, 4] rfl) hf
          · have hf := it_neg z hf
            refine lv_aload_n hx hb dX10_tryPicks_166 rfl (lv_at hl 0 rfl) ?_
            refine lv_iload hx hb dX10_tryPicks_167 (lv_at hl 4 rfl) ?_
            obtain ⟨r13, u12, h11, hf⟩ := ob_some hf
            refine endI okM hw (runV_ok (As := [.int b4]) (rest := [.int b3]) okM hc hw (c_X10_valueOf l ev b4 u h11 H.size) kv_X10_valueOf ml_X10_329 (rvM0 ev u) hl.1 rfl rfl (Nat.le_of_ble_eq_true rfl) (rm_le (by decide) (by decide)) dX10_tryPicks_169) (fun H locs hw => ?_)
            refine lv_goto (tgt := 176) hx hb dX10_tryPicks_172 (by decide) ?_
            exact wL176 (f_X10_tryPicks_L130 n) hk130 b1 b2 b4 r13 b3 u12 H locs ls hw (lv_sub hl [0, 1, 2, 4] rfl) hf
        · have hf := it_neg z hf
          exact retV hc hr hlk hw hf dX10_tryPicks_154
  have wL119 : ∀ (k34 : Int32 → Int32 → Int32 → SS → Option SS) (hk34 : ∀ (b1 : Int32) (b2 : Int32) (b3 : Int32) (u : SS) (H : Heap) (locs : List Loc) (ls : Array Slot), VW wdM ev s u H locs → lv_has ls 6 [(0, .ref (ev.2.1 0)), (1, .int b1), (2, .int b2), (3, .int b3)] → k34 b1 b2 b3 u = some u' → W p l e (rmk 2) s m av below meth cd H locs 0 0 (ZV wdM ev s below av u') (F0 m 34 ls [])) (b1 : Int32) (b2 : Int32) (b3 : Int32) (u : SS) (H : Heap) (locs : List Loc) (ls : Array Slot), VW wdM ev s u H locs → lv_has ls 6 [(0, .ref (ev.2.1 0)), (1, .int b1), (2, .int b2), (3, .int b3)] → f_X10_tryPicks_L119 k34 b1 b2 b3 u = some u' → W p l e (rmk 2) s m av below meth cd H locs 0 0 (ZV wdM ev s below av u') (F0 m 119 ls []) := by
    intro k34 hk34 b1 b2 b3 u H locs ls hw hl hf
    unfold f_X10_tryPicks_L119 at hf
    obtain ⟨x14, ex14, hf⟩ := lt_some hf
    refine lv_iinc (v := x14) (lv' := [(3, .int x14), (0, .ref (ev.2.1 0)), (1, .int b1), (2, .int b2)]) hx hb dX10_tryPicks_119 hl (k := 3) rfl (by rw [ex14]; rfl) (by decide) rfl (fun ls hl => ?_)
    refine lv_goto (tgt := 34) hx hb dX10_tryPicks_122 (by decide) ?_
    exact hk34 b1 b2 x14 u H locs ls hw (lv_sub hl [1, 2, 3, 0] rfl) hf
  have wL34 : ∀ (n : Nat) (b1 : Int32) (b2 : Int32) (b3 : Int32) (u : SS) (H : Heap) (locs : List Loc) (ls : Array Slot), VW wdM ev s u H locs → lv_has ls 6 [(0, .ref (ev.2.1 0)), (1, .int b1), (2, .int b2), (3, .int b3)] → f_X10_tryPicks_L34 n b1 b2 b3 u = some u' → W p l e (rmk 2) s m av below meth cd H locs 0 0 (ZV wdM ev s below av u') (F0 m 34 ls []) := by
    intro n
    induction n with
    | zero =>
      intro b1 b2 b3 u H locs ls hw hl hf
      cases hf
    | succ n hk34 =>
      intro b1 b2 b3 u H locs ls hw hl hf
      have hf : b_X10_tryPicks_L34 (f_X10_tryPicks_L34 n) b1 b2 b3 u = some u' := hf
      unfold b_X10_tryPicks_L34 at hf
      refine lv_iload_n hx hb dX10_tryPicks_34 rfl (lv_at hl 3 rfl) ?_
      refine lv_aload_n hx hb dX10_tryPicks_35 rfl (lv_at hl 0 rfl) ?_
      refine gM0_3 hc hw fl_X10_17 dX10_tryPicks_36 ?_
      refine lv_icmp_ge (tgt := 125) hx hb dX10_tryPicks_39 (by decide) (fun z => ?_) (fun z => ?_)
      · have hf := it_pos z hf
        refine lv_iconst (v := (0 : Int32)) hx hb dX10_tryPicks_125 (by decide) ?_
        refine lv_istore_n (lv' := [(3, .int (0 : Int32)), (0, .ref (ev.2.1 0)), (1, .int b1), (2, .int b2)]) hx hb dX10_tryPicks_126 rfl hl (by decide) rfl (fun ls hl => ?_)
        refine lv_iconst (v := (0 : Int32)) hx hb dX10_tryPicks_127 (by decide) ?_
        refine lv_istore (lv' := [(4, .int (0 : Int32)), (3, .int (0 : Int32)), (0, .ref (ev.2.1 0)), (1, .int b1), (2, .int b2)]) hx hb dX10_tryPicks_128 hl (by decide) rfl (fun ls hl => ?_)
        exact wL130 FU b1 b2 (0 : Int32) (0 : Int32) u H locs ls hw (lv_sub hl [2, 3, 4, 1, 0] rfl) hf
      · have hf := it_neg z hf
        refine lv_aload_n hx hb dX10_tryPicks_42 rfl (lv_at hl 0 rfl) ?_
        refine gM0_46 hc hw fl_X10_94 dX10_tryPicks_43 ?_
        refine lv_iload_n hx hb dX10_tryPicks_46 rfl (lv_at hl 3 rfl) ?_
        obtain ⟨z, hf⟩ := oi_some hf
        refine aM26 hc hw z dX10_tryPicks_47 ?_
        refine lv_aload_n hx hb dX10_tryPicks_48 rfl (lv_at hl 0 rfl) ?_
        refine gM0_45 hc hw fl_X10_91 dX10_tryPicks_49 ?_
        refine lv_iload_n hx hb dX10_tryPicks_52 rfl (lv_at hl 3 rfl) ?_
        obtain ⟨z, hf⟩ := oi_some hf
        refine aM25 hc hw z dX10_tryPicks_53 ?_
        refine lv_icmp_ge (tgt := 119) hx hb dX10_tryPicks_54 (by decide) (fun z => ?_) (fun z => ?_)
        · have hf := it_pos z hf
          exact wL119 (f_X10_tryPicks_L34 n) hk34 b1 b2 b3 u H locs ls hw (lv_sub hl [0, 1, 2, 3] rfl) hf
        · have hf := it_neg z hf
          refine lv_aload_n hx hb dX10_tryPicks_57 rfl (lv_at hl 0 rfl) ?_
          refine gM0_44 hc hw fl_X10_88 dX10_tryPicks_58 ?_
          refine lv_bipush (v := (8 : Int32)) hx hb dX10_tryPicks_61 (by decide) ?_
          refine lv_iload_n hx hb dX10_tryPicks_63 rfl (lv_at hl 3 rfl) ?_
          refine lv_imul hx hb dX10_tryPicks_64 ?_
          refine lv_aload_n hx hb dX10_tryPicks_65 rfl (lv_at hl 0 rfl) ?_
          refine gM0_46 hc hw fl_X10_94 dX10_tryPicks_66 ?_
          refine lv_iload_n hx hb dX10_tryPicks_69 rfl (lv_at hl 3 rfl) ?_
          obtain ⟨z, hf⟩ := oi_some hf
          refine aM26 hc hw z dX10_tryPicks_70 ?_
          refine lv_iadd hx hb dX10_tryPicks_71 ?_
          obtain ⟨z, hf⟩ := oi_some hf
          refine aM24 hc hw z dX10_tryPicks_72 ?_
          obtain ⟨x15, ex15, hf⟩ := lt_some hf
          refine tope ex15 ?_
          refine lv_istore (lv' := [(4, .int x15), (0, .ref (ev.2.1 0)), (1, .int b1), (2, .int b2), (3, .int b3)]) hx hb dX10_tryPicks_73 hl (by decide) rfl (fun ls hl => ?_)
          refine lv_aload_n hx hb dX10_tryPicks_75 rfl (lv_at hl 1 rfl) ?_
          refine gM0_47 hc hw fl_X10_97 dX10_tryPicks_76 ?_
          refine lv_iload hx hb dX10_tryPicks_79 (lv_at hl 0 rfl) ?_
          refine lv_dup2_11 hx hb dX10_tryPicks_81 rfl rfl ?_
          obtain ⟨z, hf⟩ := oi_some hf
          refine aM27 hc hw z dX10_tryPicks_82 ?_
          refine lv_iconst (v := (1 : Int32)) hx hb dX10_tryPicks_83 (by decide) ?_
          refine lv_iadd hx hb dX10_tryPicks_84 ?_
          obtain ⟨z, hf⟩ := oi_some hf
          refine tM27 hc hw z dX10_tryPicks_85 (fun H locs hw => ?_)
          obtain ⟨u16, eu16, hf⟩ := lt_some hf
          have hw := VW.nm eu16 hw
          refine lv_aload_n hx hb dX10_tryPicks_86 rfl (lv_at hl 1 rfl) ?_
          refine gM0_48 hc hw fl_X10_100 dX10_tryPicks_87 ?_
          refine lv_iload hx hb dX10_tryPicks_90 (lv_at hl 0 rfl) ?_
          refine lv_dup2_11 hx hb dX10_tryPicks_92 rfl rfl ?_
          obtain ⟨z, hf⟩ := oi_some hf
          refine aM28 hc hw z dX10_tryPicks_93 ?_
          refine lv_aload_n hx hb dX10_tryPicks_94 rfl (lv_at hl 1 rfl) ?_
          refine lv_bipush (v := (8 : Int32)) hx hb dX10_tryPicks_95 (by decide) ?_
          refine lv_iload_n hx hb dX10_tryPicks_97 rfl (lv_at hl 4 rfl) ?_
          refine lv_imul hx hb dX10_tryPicks_98 ?_
          refine lv_iload hx hb dX10_tryPicks_99 (lv_at hl 0 rfl) ?_
          refine lv_iadd hx hb dX10_tryPicks_101 ?_
          obtain ⟨r19, u18, h17, hf⟩ := ob_some hf
          refine endI okM hw (runV_ok (As := [.int (((8 : Int32) * b3) + x15)]) (rest := [.int (gA u16 23 x15.toNatClampNeg), .int x15, .ref (ev.2.1 28)]) okM hc hw (c_X10_priceOf l ev (((8 : Int32) * b3) + x15) u16 h17 H.size) kv_X10_priceOf ml_X10_191 (rvM0 ev u16) hl.1 rfl rfl (Nat.le_of_ble_eq_true rfl) (rm_le (by decide) (by decide)) dX10_tryPicks_102) (fun H locs hw => ?_)
          refine lv_iadd hx hb dX10_tryPicks_105 ?_
          obtain ⟨z, hf⟩ := oi_some hf
          refine tM28 hc hw z dX10_tryPicks_106 (fun H locs hw => ?_)
          obtain ⟨u20, eu20, hf⟩ := lt_some hf
          have hw := VW.nm eu20 hw
          refine lv_iload_n hx hb dX10_tryPicks_107 rfl (lv_at hl 3 rfl) ?_
          refine lv_aload_n hx hb dX10_tryPicks_108 rfl (lv_at hl 1 rfl) ?_
          refine gM0_46 hc hw fl_X10_94 dX10_tryPicks_109 ?_
          refine lv_iload_n hx hb dX10_tryPicks_112 rfl (lv_at hl 4 rfl) ?_
          obtain ⟨z, hf⟩ := oi_some hf
          refine aM26 hc hw z dX10_tryPicks_113 ?_
          refine lv_iadd hx hb dX10_tryPicks_114 ?_
          obtain ⟨x21, ex21, hf⟩ := lt_some hf
          refine tope ex21 ?_
          refine lv_istore_n (lv' := [(2, .int x21), (4, .int x15), (0, .ref (ev.2.1 0)), (1, .int b1), (3, .int b3)]) hx hb dX10_tryPicks_115 rfl hl (by decide) rfl (fun ls hl => ?_)
          obtain ⟨x22, ex22, hf⟩ := lt_some hf
          refine lv_iinc (v := x22) (lv' := [(1, .int x22), (2, .int x21), (4, .int x15), (0, .ref (ev.2.1 0)), (3, .int b3)]) hx hb dX10_tryPicks_116 hl (k := 3) rfl (by rw [ex22]; rfl) (by decide) rfl (fun ls hl => ?_)
          exact wL119 (f_X10_tryPicks_L34 n) hk34 x22 x21 b3 u20 H locs ls hw (lv_sub hl [3, 0, 1, 4] rfl) hf
  have wL6 : ∀ (n : Nat) (b1 : Int32) (b2 : Int32) (b3 : Int32) (u : SS) (H : Heap) (locs : List Loc) (ls : Array Slot), VW wdM ev s u H locs → lv_has ls 6 [(0, .ref (ev.2.1 0)), (1, .int b1), (2, .int b2), (3, .int b3)] → f_X10_tryPicks_L6 n b1 b2 b3 u = some u' → W p l e (rmk 2) s m av below meth cd H locs 0 0 (ZV wdM ev s below av u') (F0 m 6 ls []) := by
    intro n
    induction n with
    | zero =>
      intro b1 b2 b3 u H locs ls hw hl hf
      cases hf
    | succ n hk6 =>
      intro b1 b2 b3 u H locs ls hw hl hf
      have hf : b_X10_tryPicks_L6 (f_X10_tryPicks_L6 n) b1 b2 b3 u = some u' := hf
      unfold b_X10_tryPicks_L6 at hf
      refine lv_iload_n hx hb dX10_tryPicks_6 rfl (lv_at hl 3 rfl) ?_
      refine lv_bipush (v := (8 : Int32)) hx hb dX10_tryPicks_7 (by decide) ?_
      refine lv_icmp_ge (tgt := 32) hx hb dX10_tryPicks_9 (by decide) (fun z => ?_) (fun z => ?_)
      · have hf := it_pos z hf
        refine lv_iconst (v := (0 : Int32)) hx hb dX10_tryPicks_32 (by decide) ?_
        refine lv_istore_n (lv' := [(3, .int (0 : Int32)), (0, .ref (ev.2.1 0)), (1, .int b1), (2, .int b2)]) hx hb dX10_tryPicks_33 rfl hl (by decide) rfl (fun ls hl => ?_)
        exact wL34 FU b1 b2 (0 : Int32) u H locs ls hw (lv_sub hl [1, 2, 3, 0] rfl) hf
      · have hf := it_neg z hf
        refine lv_aload_n hx hb dX10_tryPicks_12 rfl (lv_at hl 0 rfl) ?_
        refine gM0_47 hc hw fl_X10_97 dX10_tryPicks_13 ?_
        refine lv_iload_n hx hb dX10_tryPicks_16 rfl (lv_at hl 3 rfl) ?_
        refine lv_iconst (v := (0 : Int32)) hx hb dX10_tryPicks_17 (by decide) ?_
        obtain ⟨z, hf⟩ := oi_some hf
        refine tM27 hc hw z dX10_tryPicks_18 (fun H locs hw => ?_)
        obtain ⟨u23, eu23, hf⟩ := lt_some hf
        have hw := VW.nm eu23 hw
        refine lv_aload_n hx hb dX10_tryPicks_19 rfl (lv_at hl 0 rfl) ?_
        refine gM0_48 hc hw fl_X10_100 dX10_tryPicks_20 ?_
        refine lv_iload_n hx hb dX10_tryPicks_23 rfl (lv_at hl 3 rfl) ?_
        refine lv_iconst (v := (0 : Int32)) hx hb dX10_tryPicks_24 (by decide) ?_
        obtain ⟨z, hf⟩ := oi_some hf
        refine tM28 hc hw z dX10_tryPicks_25 (fun H locs hw => ?_)
        obtain ⟨u24, eu24, hf⟩ := lt_some hf
        have hw := VW.nm eu24 hw
        obtain ⟨x25, ex25, hf⟩ := lt_some hf
        refine lv_iinc (v := x25) (lv' := [(3, .int x25), (0, .ref (ev.2.1 0)), (1, .int b1), (2, .int b2)]) hx hb dX10_tryPicks_26 hl (k := 3) rfl (by rw [ex25]; rfl) (by decide) rfl (fun ls hl => ?_)
        refine lv_goto (tgt := 6) hx hb dX10_tryPicks_29 (by decide) ?_
        exact hk6 b1 b2 x25 u24 H locs ls hw (lv_sub hl [1, 2, 3, 0] rfl) hf
  unfold f_X10_tryPicks at hf
  refine lv_iconst (v := (0 : Int32)) hx hb dX10_tryPicks_0 (by decide) ?_
  refine lv_istore_n (lv' := [(1, .int (0 : Int32)), (0, .ref (ev.2.1 0))]) hx hb dX10_tryPicks_1 rfl hl (by decide) rfl (fun ls hl => ?_)
  refine lv_iconst (v := (0 : Int32)) hx hb dX10_tryPicks_2 (by decide) ?_
  refine lv_istore_n (lv' := [(2, .int (0 : Int32)), (1, .int (0 : Int32)), (0, .ref (ev.2.1 0))]) hx hb dX10_tryPicks_3 rfl hl (by decide) rfl (fun ls hl => ?_)
  refine lv_iconst (v := (0 : Int32)) hx hb dX10_tryPicks_4 (by decide) ?_
  refine lv_istore_n (lv' := [(3, .int (0 : Int32)), (2, .int (0 : Int32)), (1, .int (0 : Int32)), (0, .ref (ev.2.1 0))]) hx hb dX10_tryPicks_5 rfl hl (by decide) rfl (fun ls hl => ?_)
  exact wL6 FU (0 : Int32) (0 : Int32) (0 : Int32) u H locs ls hw (lv_sub hl [3, 2, 1, 0] rfl) hf
def f_X10_findWhole_L162 (k91 : Int32 → SS → Option SS) (b1 : Int32) (u : SS) : Option SS :=
  k91 b1 u
def f_X10_findWhole_L147 (k91 : Int32 → SS → Option SS) (b2 : Int32) (q0 : Int32) (u : SS) : Option SS :=
  if q0 = 0 then (f_X10_findWhole_L162 k91 q0 u) else (oi b2 6 (oi b2 6 (lt (tA u 21 b2 ((gA u 21 b2.toNatClampNeg) + (1 : Int32))) fun u8 => f_X10_findWhole_L162 k91 q0 u8)))
def f_X10_findWhole_L138 (k91 : Int32 → SS → Option SS) (b2 : Int32) (u : SS) : Option SS :=
  if b2 < 0 then (f_X10_findWhole_L147 k91 b2 (0 : Int32) u) else (f_X10_findWhole_L147 k91 b2 (1 : Int32) u)
def b_X10_findWhole_L106 (k91 : Int32 → SS → Option SS) (k106 : Int32 → SS → Option SS) (b2 : Int32) (u : SS) : Option SS :=
  if b2 < 0 then (f_X10_findWhole_L138 k91 b2 u) else (oi b2 6 (oi b2 6 (if (gA u 21 b2.toNatClampNeg) = (gA u 20 b2.toNatClampNeg) then (oi b2 6 (lt (tA u 21 b2 (0 : Int32)) fun u9 => lt (b2 + (-1 : Int32)) fun x10 => k106 x10 u9)) else (f_X10_findWhole_L138 k91 b2 u))))
def f_X10_findWhole_L106 (k91 : Int32 → SS → Option SS) : Nat → Int32 → SS → Option SS
  | 0 => fun _ _ => none
  | n + 1 => b_X10_findWhole_L106 k91 (f_X10_findWhole_L106 k91 n)
def b_X10_findWhole_L91 (k91 : Int32 → SS → Option SS) (b1 : Int32) (u : SS) : Option SS :=
  if b1 = 0 then (lt (sI u 17 (gI u 20)) fun u3 => lt (sI u3 18 (gI u3 21)) fun u4 => some u4) else (ov (f_X10_tryPicks u) fun u6 => lt ((gI u6 2) - (1 : Int32)) fun x7 => f_X10_findWhole_L106 k91 FU x7 u6)
def f_X10_findWhole_L91 : Nat → Int32 → SS → Option SS
  | 0 => fun _ _ => none
  | n + 1 => b_X10_findWhole_L91 (f_X10_findWhole_L91 n)
def b_X10_findWhole_L40 (k15 : Int32 → SS → Option SS) (k40 : Int32 → Int32 → SS → Option SS) (b1 : Int32) (b2 : Int32) (u : SS) : Option SS :=
  if (gI u 15) ≤ b2 then (oi b1 6 (lt (tA u 21 b1 (0 : Int32)) fun u14 => lt (b1 + (1 : Int32)) fun x15 => k15 x15 u14)) else (oi b2 8 (oi (((8 : Int32) * b1) + b2) 48 (lt (tA u 19 (((8 : Int32) * b1) + b2) (gA u 15 b2.toNatClampNeg)) fun u16 => lt (b2 + (1 : Int32)) fun x17 => k40 b1 x17 u16)))
def f_X10_findWhole_L40 (k15 : Int32 → SS → Option SS) : Nat → Int32 → Int32 → SS → Option SS
  | 0 => fun _ _ _ => none
  | n + 1 => b_X10_findWhole_L40 k15 (f_X10_findWhole_L40 k15 n)
def b_X10_findWhole_L15 (k15 : Int32 → SS → Option SS) (b1 : Int32) (u : SS) : Option SS :=
  if (gI u 2) ≤ b1 then (lt (sI u 20 (-1 : Int32)) fun u2 => f_X10_findWhole_L91 FU (1 : Int32) u2) else (ov (f_X10_findOrder b1 u) fun u12 => oi b1 6 (lt (tA u12 20 b1 (gI u12 15)) fun u13 => f_X10_findWhole_L40 k15 FU b1 (0 : Int32) u13))
def f_X10_findWhole_L15 : Nat → Int32 → SS → Option SS
  | 0 => fun _ _ => none
  | n + 1 => b_X10_findWhole_L15 (f_X10_findWhole_L15 n)
def f_X10_findWhole (u : SS) : Option SS :=
  if (gI u 16) = 0 then (lt (sI u 16 (1 : Int32)) fun u1 => f_X10_findWhole_L15 FU (0 : Int32) u1) else (some u)
set_option maxHeartbeats 4000000 in
set_option maxRecDepth 100000 in
theorem c_X10_findWhole (l : Launch) (ev : EV) (u : SS) {u' : SS} (hf : f_X10_findWhole  u = some u') : MV wdM l yX10_findWhole cX10_findWhole 3 none 8 ev [.ref (ev.2.1 0)] u u' := by
  refine bodyV (by decide +kernel) rfl (Nat.le_of_ble_eq_true rfl) ?_
  intro p e s m below meth cd ls H locs hc hr hlk hw hl
  generalize hav : (List.toArray [.ref (ev.2.1 0)] : Array Value) = av at hc ⊢
  obtain ⟨hx, hb, hml, hown, hts, hK, hZ⟩ := id hc
  have hl : lv_has ls 3 [(0, .ref (ev.2.1 0))] := hl
  have wL162 : ∀ (k91 : Int32 → SS → Option SS) (hk91 : ∀ (b1 : Int32) (u : SS) (H : Heap) (locs : List Loc) (ls : Array Slot), VW wdM ev s u H locs → lv_has ls 3 [(0, .ref (ev.2.1 0)), (1, .int b1)] → k91 b1 u = some u' → W p l e (rmk 8) s m av below meth cd H locs 0 0 (ZV wdM ev s below av u') (F0 m 91 ls [])) (b1 : Int32) (u : SS) (H : Heap) (locs : List Loc) (ls : Array Slot), VW wdM ev s u H locs → lv_has ls 3 [(0, .ref (ev.2.1 0)), (1, .int b1)] → f_X10_findWhole_L162 k91 b1 u = some u' → W p l e (rmk 8) s m av below meth cd H locs 0 0 (ZV wdM ev s below av u') (F0 m 162 ls []) := by
    intro k91 hk91 b1 u H locs ls hw hl hf
    unfold f_X10_findWhole_L162 at hf
    refine lv_goto (tgt := 91) hx hb dX10_findWhole_162 (by decide) ?_
    exact hk91 b1 u H locs ls hw (lv_sub hl [0, 1] rfl) hf
  have wL147 : ∀ (k91 : Int32 → SS → Option SS) (hk91 : ∀ (b1 : Int32) (u : SS) (H : Heap) (locs : List Loc) (ls : Array Slot), VW wdM ev s u H locs → lv_has ls 3 [(0, .ref (ev.2.1 0)), (1, .int b1)] → k91 b1 u = some u' → W p l e (rmk 8) s m av below meth cd H locs 0 0 (ZV wdM ev s below av u') (F0 m 91 ls [])) (b2 : Int32) (q0 : Int32) (u : SS) (H : Heap) (locs : List Loc) (ls : Array Slot), VW wdM ev s u H locs → lv_has ls 3 [(0, .ref (ev.2.1 0)), (2, .int b2)] → f_X10_findWhole_L147 k91 b2 q0 u = some u' → W p l e (rmk 8) s m av below meth cd H locs 0 0 (ZV wdM ev s below av u') (F0 m 147 ls [.int q0]) := by
    intro k91 hk91 b2 q0 u H locs ls hw hl hf
    unfold f_X10_findWhole_L147 at hf
    refine lv_istore_n (lv' := [(1, .int q0), (0, .ref (ev.2.1 0)), (2, .int b2)]) hx hb dX10_findWhole_147 rfl hl (by decide) rfl (fun ls hl => ?_)
    refine lv_iload_n hx hb dX10_findWhole_148 rfl (lv_at hl 0 rfl) ?_
    refine lv_if_eq (tgt := 162) hx hb dX10_findWhole_149 (by decide) (fun z => ?_) (fun z => ?_)
    · have hf := it_pos z hf
      exact wL162 k91 hk91 q0 u H locs ls hw (lv_sub hl [1, 0] rfl) hf
    · have hf := it_neg z hf
      refine lv_aload_n hx hb dX10_findWhole_152 rfl (lv_at hl 1 rfl) ?_
      refine gM0_46 hc hw fl_X10_94 dX10_findWhole_153 ?_
      refine lv_iload_n hx hb dX10_findWhole_156 rfl (lv_at hl 2 rfl) ?_
      refine lv_dup2_11 hx hb dX10_findWhole_157 rfl rfl ?_
      obtain ⟨z, hf⟩ := oi_some hf
      refine aM26 hc hw z dX10_findWhole_158 ?_
      refine lv_iconst (v := (1 : Int32)) hx hb dX10_findWhole_159 (by decide) ?_
      refine lv_iadd hx hb dX10_findWhole_160 ?_
      obtain ⟨z, hf⟩ := oi_some hf
      refine tM26 hc hw z dX10_findWhole_161 (fun H locs hw => ?_)
      obtain ⟨u8, eu8, hf⟩ := lt_some hf
      have hw := VW.nm eu8 hw
      exact wL162 k91 hk91 q0 u8 H locs ls hw (lv_sub hl [1, 0] rfl) hf
  have wL138 : ∀ (k91 : Int32 → SS → Option SS) (hk91 : ∀ (b1 : Int32) (u : SS) (H : Heap) (locs : List Loc) (ls : Array Slot), VW wdM ev s u H locs → lv_has ls 3 [(0, .ref (ev.2.1 0)), (1, .int b1)] → k91 b1 u = some u' → W p l e (rmk 8) s m av below meth cd H locs 0 0 (ZV wdM ev s below av u') (F0 m 91 ls [])) (b2 : Int32) (u : SS) (H : Heap) (locs : List Loc) (ls : Array Slot), VW wdM ev s u H locs → lv_has ls 3 [(0, .ref (ev.2.1 0)), (2, .int b2)] → f_X10_findWhole_L138 k91 b2 u = some u' → W p l e (rmk 8) s m av below meth cd H locs 0 0 (ZV wdM ev s below av u') (F0 m 138 ls []) := by
    intro k91 hk91 b2 u H locs ls hw hl hf
    unfold f_X10_findWhole_L138 at hf
    refine lv_iload_n hx hb dX10_findWhole_138 rfl (lv_at hl 1 rfl) ?_
    refine lv_if_lt (tgt := 146) hx hb dX10_findWhole_139 (by decide) (fun z => ?_) (fun z => ?_)
    · have hf := it_pos z hf
      refine lv_iconst (v := (0 : Int32)) hx hb dX10_findWhole_146 (by decide) ?_
      exact wL147 k91 hk91 b2 (0 : Int32) u H locs ls hw (lv_sub hl [0, 1] rfl) hf
    · have hf := it_neg z hf
      refine lv_iconst (v := (1 : Int32)) hx hb dX10_findWhole_142 (by decide) ?_
      refine lv_goto (tgt := 147) hx hb dX10_findWhole_143 (by decide) ?_
      exact wL147 k91 hk91 b2 (1 : Int32) u H locs ls hw (lv_sub hl [0, 1] rfl) hf
  have wL106 : ∀ (k91 : Int32 → SS → Option SS) (hk91 : ∀ (b1 : Int32) (u : SS) (H : Heap) (locs : List Loc) (ls : Array Slot), VW wdM ev s u H locs → lv_has ls 3 [(0, .ref (ev.2.1 0)), (1, .int b1)] → k91 b1 u = some u' → W p l e (rmk 8) s m av below meth cd H locs 0 0 (ZV wdM ev s below av u') (F0 m 91 ls [])) (n : Nat) (b2 : Int32) (u : SS) (H : Heap) (locs : List Loc) (ls : Array Slot), VW wdM ev s u H locs → lv_has ls 3 [(0, .ref (ev.2.1 0)), (2, .int b2)] → f_X10_findWhole_L106 k91 n b2 u = some u' → W p l e (rmk 8) s m av below meth cd H locs 0 0 (ZV wdM ev s below av u') (F0 m 106 ls []) := by
    intro k91 hk91 n
    induction n with
    | zero =>
      intro b2 u H locs ls hw hl hf
      cases hf
    | succ n hk106 =>
      intro b2 u H locs ls hw hl hf
      have hf : b_X10_findWhole_L106 k91 (f_X10_findWhole_L106 k91 n) b2 u = some u' := hf
      unfold b_X10_findWhole_L106 at hf
      refine lv_iload_n hx hb dX10_findWhole_106 rfl (lv_at hl 1 rfl) ?_
      refine lv_if_lt (tgt := 138) hx hb dX10_findWhole_107 (by decide) (fun z => ?_) (fun z => ?_)
      · have hf := it_pos z hf
        exact wL138 k91 hk91 b2 u H locs ls hw (lv_sub hl [0, 1] rfl) hf
      · have hf := it_neg z hf
        refine lv_aload_n hx hb dX10_findWhole_110 rfl (lv_at hl 0 rfl) ?_
        refine gM0_46 hc hw fl_X10_94 dX10_findWhole_111 ?_
        refine lv_iload_n hx hb dX10_findWhole_114 rfl (lv_at hl 1 rfl) ?_
        obtain ⟨z, hf⟩ := oi_some hf
        refine aM26 hc hw z dX10_findWhole_115 ?_
        refine lv_aload_n hx hb dX10_findWhole_116 rfl (lv_at hl 0 rfl) ?_
        refine gM0_45 hc hw fl_X10_91 dX10_findWhole_117 ?_
        refine lv_iload_n hx hb dX10_findWhole_120 rfl (lv_at hl 1 rfl) ?_
        obtain ⟨z, hf⟩ := oi_some hf
        refine aM25 hc hw z dX10_findWhole_121 ?_
        refine lv_icmp_ne (tgt := 138) hx hb dX10_findWhole_122 (by decide) (fun z => ?_) (fun z => ?_)
        · have hf := it_neg z hf
          exact wL138 k91 hk91 b2 u H locs ls hw (lv_sub hl [0, 1] rfl) hf
        · have hf := it_pos z hf
          refine lv_aload_n hx hb dX10_findWhole_125 rfl (lv_at hl 0 rfl) ?_
          refine gM0_46 hc hw fl_X10_94 dX10_findWhole_126 ?_
          refine lv_iload_n hx hb dX10_findWhole_129 rfl (lv_at hl 1 rfl) ?_
          refine lv_iconst (v := (0 : Int32)) hx hb dX10_findWhole_130 (by decide) ?_
          obtain ⟨z, hf⟩ := oi_some hf
          refine tM26 hc hw z dX10_findWhole_131 (fun H locs hw => ?_)
          obtain ⟨u9, eu9, hf⟩ := lt_some hf
          have hw := VW.nm eu9 hw
          obtain ⟨x10, ex10, hf⟩ := lt_some hf
          refine lv_iinc (v := x10) (lv' := [(2, .int x10), (0, .ref (ev.2.1 0))]) hx hb dX10_findWhole_132 hl (k := 1) rfl (by rw [ex10]; rfl) (by decide) rfl (fun ls hl => ?_)
          refine lv_goto (tgt := 106) hx hb dX10_findWhole_135 (by decide) ?_
          exact hk106 x10 u9 H locs ls hw (lv_sub hl [1, 0] rfl) hf
  have wL91 : ∀ (n : Nat) (b1 : Int32) (u : SS) (H : Heap) (locs : List Loc) (ls : Array Slot), VW wdM ev s u H locs → lv_has ls 3 [(0, .ref (ev.2.1 0)), (1, .int b1)] → f_X10_findWhole_L91 n b1 u = some u' → W p l e (rmk 8) s m av below meth cd H locs 0 0 (ZV wdM ev s below av u') (F0 m 91 ls []) := by
    intro n
    induction n with
    | zero =>
      intro b1 u H locs ls hw hl hf
      cases hf
    | succ n hk91 =>
      intro b1 u H locs ls hw hl hf
      have hf : b_X10_findWhole_L91 (f_X10_findWhole_L91 n) b1 u = some u' := hf
      unfold b_X10_findWhole_L91 at hf
      refine lv_iload_n hx hb dX10_findWhole_91 rfl (lv_at hl 1 rfl) ?_
      refine lv_if_eq (tgt := 165) hx hb dX10_findWhole_92 (by decide) (fun z => ?_) (fun z => ?_)
      · have hf := it_pos z hf
        refine lv_aload_n hx hb dX10_findWhole_165 rfl (lv_at hl 0 rfl) ?_
        refine lv_aload_n hx hb dX10_findWhole_166 rfl (lv_at hl 0 rfl) ?_
        refine gM0_50 hc hw fl_X10_332 dX10_findWhole_167 ?_
        refine pM0_42 hc hw fl_X10_347 dX10_findWhole_170 (fun H locs hw => ?_)
        obtain ⟨u3, eu3, hf⟩ := lt_some hf
        have hw := VW.nm eu3 hw
        refine lv_aload_n hx hb dX10_findWhole_173 rfl (lv_at hl 0 rfl) ?_
        refine lv_aload_n hx hb dX10_findWhole_174 rfl (lv_at hl 0 rfl) ?_
        refine gM0_51 hc hw fl_X10_335 dX10_findWhole_175 ?_
        refine pM0_43 hc hw fl_X10_350 dX10_findWhole_178 (fun H locs hw => ?_)
        obtain ⟨u4, eu4, hf⟩ := lt_some hf
        have hw := VW.nm eu4 hw
        exact retV hc hr hlk hw hf dX10_findWhole_181
      · have hf := it_neg z hf
        refine lv_aload_n hx hb dX10_findWhole_95 rfl (lv_at hl 0 rfl) ?_
        obtain ⟨u6, h5, hf⟩ := ov_some hf
        refine endV okM hw (runV_ok (As := []) (rest := []) okM hc hw (c_X10_tryPicks l ev u h5 H.size) kv_X10_tryPicks ml_X10_344 (rvM0 ev u) hl.1 rfl rfl (Nat.le_of_ble_eq_true rfl) (rm_le (by decide) (by decide)) dX10_findWhole_96) (fun H locs hw => ?_)
        refine lv_aload_n hx hb dX10_findWhole_99 rfl (lv_at hl 0 rfl) ?_
        refine gM0_3 hc hw fl_X10_17 dX10_findWhole_100 ?_
        refine lv_iconst (v := (1 : Int32)) hx hb dX10_findWhole_103 (by decide) ?_
        refine lv_isub hx hb dX10_findWhole_104 ?_
        obtain ⟨x7, ex7, hf⟩ := lt_some hf
        refine tope ex7 ?_
        refine lv_istore_n (lv' := [(2, .int x7), (0, .ref (ev.2.1 0)), (1, .int b1)]) hx hb dX10_findWhole_105 rfl hl (by decide) rfl (fun ls hl => ?_)
        exact wL106 (f_X10_findWhole_L91 n) hk91 FU x7 u6 H locs ls hw (lv_sub hl [1, 0] rfl) hf
  have wL40 : ∀ (k15 : Int32 → SS → Option SS) (hk15 : ∀ (b1 : Int32) (u : SS) (H : Heap) (locs : List Loc) (ls : Array Slot), VW wdM ev s u H locs → lv_has ls 3 [(0, .ref (ev.2.1 0)), (1, .int b1)] → k15 b1 u = some u' → W p l e (rmk 8) s m av below meth cd H locs 0 0 (ZV wdM ev s below av u') (F0 m 15 ls [])) (n : Nat) (b1 : Int32) (b2 : Int32) (u : SS) (H : Heap) (locs : List Loc) (ls : Array Slot), VW wdM ev s u H locs → lv_has ls 3 [(0, .ref (ev.2.1 0)), (1, .int b1), (2, .int b2)] → f_X10_findWhole_L40 k15 n b1 b2 u = some u' → W p l e (rmk 8) s m av below meth cd H locs 0 0 (ZV wdM ev s below av u') (F0 m 40 ls []) := by
    intro k15 hk15 n
    induction n with
    | zero =>
      intro b1 b2 u H locs ls hw hl hf
      cases hf
    | succ n hk40 =>
      intro b1 b2 u H locs ls hw hl hf
      have hf : b_X10_findWhole_L40 k15 (f_X10_findWhole_L40 k15 n) b1 b2 u = some u' := hf
      unfold b_X10_findWhole_L40 at hf
      refine lv_iload_n hx hb dX10_findWhole_40 rfl (lv_at hl 2 rfl) ?_
      refine lv_aload_n hx hb dX10_findWhole_41 rfl (lv_at hl 0 rfl) ?_
      refine gM0_37 hc hw fl_X10_315 dX10_findWhole_42 ?_
      refine lv_icmp_ge (tgt := 71) hx hb dX10_findWhole_45 (by decide) (fun z => ?_) (fun z => ?_)
      · have hf := it_pos z hf
        refine lv_aload_n hx hb dX10_findWhole_71 rfl (lv_at hl 0 rfl) ?_
        refine gM0_46 hc hw fl_X10_94 dX10_findWhole_72 ?_
        refine lv_iload_n hx hb dX10_findWhole_75 rfl (lv_at hl 1 rfl) ?_
        refine lv_iconst (v := (0 : Int32)) hx hb dX10_findWhole_76 (by decide) ?_
        obtain ⟨z, hf⟩ := oi_some hf
        refine tM26 hc hw z dX10_findWhole_77 (fun H locs hw => ?_)
        obtain ⟨u14, eu14, hf⟩ := lt_some hf
        have hw := VW.nm eu14 hw
        obtain ⟨x15, ex15, hf⟩ := lt_some hf
        refine lv_iinc (v := x15) (lv' := [(1, .int x15), (0, .ref (ev.2.1 0)), (2, .int b2)]) hx hb dX10_findWhole_78 hl (k := 1) rfl (by rw [ex15]; rfl) (by decide) rfl (fun ls hl => ?_)
        refine lv_goto (tgt := 15) hx hb dX10_findWhole_81 (by decide) ?_
        exact hk15 x15 u14 H locs ls hw (lv_sub hl [1, 0] rfl) hf
      · have hf := it_neg z hf
        refine lv_aload_n hx hb dX10_findWhole_48 rfl (lv_at hl 0 rfl) ?_
        refine gM0_44 hc hw fl_X10_88 dX10_findWhole_49 ?_
        refine lv_bipush (v := (8 : Int32)) hx hb dX10_findWhole_52 (by decide) ?_
        refine lv_iload_n hx hb dX10_findWhole_54 rfl (lv_at hl 1 rfl) ?_
        refine lv_imul hx hb dX10_findWhole_55 ?_
        refine lv_iload_n hx hb dX10_findWhole_56 rfl (lv_at hl 2 rfl) ?_
        refine lv_iadd hx hb dX10_findWhole_57 ?_
        refine lv_aload_n hx hb dX10_findWhole_58 rfl (lv_at hl 0 rfl) ?_
        refine gM0_36 hc hw fl_X10_76 dX10_findWhole_59 ?_
        refine lv_iload_n hx hb dX10_findWhole_62 rfl (lv_at hl 2 rfl) ?_
        obtain ⟨z, hf⟩ := oi_some hf
        refine aM20 hc hw z dX10_findWhole_63 ?_
        obtain ⟨z, hf⟩ := oi_some hf
        refine tM24 hc hw z dX10_findWhole_64 (fun H locs hw => ?_)
        obtain ⟨u16, eu16, hf⟩ := lt_some hf
        have hw := VW.nm eu16 hw
        obtain ⟨x17, ex17, hf⟩ := lt_some hf
        refine lv_iinc (v := x17) (lv' := [(2, .int x17), (0, .ref (ev.2.1 0)), (1, .int b1)]) hx hb dX10_findWhole_65 hl (k := 2) rfl (by rw [ex17]; rfl) (by decide) rfl (fun ls hl => ?_)
        refine lv_goto (tgt := 40) hx hb dX10_findWhole_68 (by decide) ?_
        exact hk40 b1 x17 u16 H locs ls hw (lv_sub hl [1, 2, 0] rfl) hf
  have wL15 : ∀ (n : Nat) (b1 : Int32) (u : SS) (H : Heap) (locs : List Loc) (ls : Array Slot), VW wdM ev s u H locs → lv_has ls 3 [(0, .ref (ev.2.1 0)), (1, .int b1)] → f_X10_findWhole_L15 n b1 u = some u' → W p l e (rmk 8) s m av below meth cd H locs 0 0 (ZV wdM ev s below av u') (F0 m 15 ls []) := by
    intro n
    induction n with
    | zero =>
      intro b1 u H locs ls hw hl hf
      cases hf
    | succ n hk15 =>
      intro b1 u H locs ls hw hl hf
      have hf : b_X10_findWhole_L15 (f_X10_findWhole_L15 n) b1 u = some u' := hf
      unfold b_X10_findWhole_L15 at hf
      refine lv_iload_n hx hb dX10_findWhole_15 rfl (lv_at hl 1 rfl) ?_
      refine lv_aload_n hx hb dX10_findWhole_16 rfl (lv_at hl 0 rfl) ?_
      refine gM0_3 hc hw fl_X10_17 dX10_findWhole_17 ?_
      refine lv_icmp_ge (tgt := 84) hx hb dX10_findWhole_20 (by decide) (fun z => ?_) (fun z => ?_)
      · have hf := it_pos z hf
        refine lv_aload_n hx hb dX10_findWhole_84 rfl (lv_at hl 0 rfl) ?_
        refine lv_iconst (v := (-1 : Int32)) hx hb dX10_findWhole_85 (by decide) ?_
        refine pM0_50 hc hw fl_X10_332 dX10_findWhole_86 (fun H locs hw => ?_)
        obtain ⟨u2, eu2, hf⟩ := lt_some hf
        have hw := VW.nm eu2 hw
        refine lv_iconst (v := (1 : Int32)) hx hb dX10_findWhole_89 (by decide) ?_
        refine lv_istore_n (lv' := [(1, .int (1 : Int32)), (0, .ref (ev.2.1 0))]) hx hb dX10_findWhole_90 rfl hl (by decide) rfl (fun ls hl => ?_)
        exact wL91 FU (1 : Int32) u2 H locs ls hw (lv_sub hl [1, 0] rfl) hf
      · have hf := it_neg z hf
        refine lv_aload_n hx hb dX10_findWhole_23 rfl (lv_at hl 0 rfl) ?_
        refine lv_iload_n hx hb dX10_findWhole_24 rfl (lv_at hl 1 rfl) ?_
        obtain ⟨u12, h11, hf⟩ := ov_some hf
        refine endV okM hw (runV_ok (As := [.int b1]) (rest := []) okM hc hw (c_X10_findOrder l ev b1 u h11 H.size) kv_X10_findOrder ml_X10_321 (rvM0 ev u) hl.1 rfl rfl (Nat.le_of_ble_eq_true rfl) (rm_le (by decide) (by decide)) dX10_findWhole_25) (fun H locs hw => ?_)
        refine lv_aload_n hx hb dX10_findWhole_28 rfl (lv_at hl 0 rfl) ?_
        refine gM0_45 hc hw fl_X10_91 dX10_findWhole_29 ?_
        refine lv_iload_n hx hb dX10_findWhole_32 rfl (lv_at hl 1 rfl) ?_
        refine lv_aload_n hx hb dX10_findWhole_33 rfl (lv_at hl 0 rfl) ?_
        refine gM0_37 hc hw fl_X10_315 dX10_findWhole_34 ?_
        obtain ⟨z, hf⟩ := oi_some hf
        refine tM25 hc hw z dX10_findWhole_37 (fun H locs hw => ?_)
        obtain ⟨u13, eu13, hf⟩ := lt_some hf
        have hw := VW.nm eu13 hw
        refine lv_iconst (v := (0 : Int32)) hx hb dX10_findWhole_38 (by decide) ?_
        refine lv_istore_n (lv' := [(2, .int (0 : Int32)), (0, .ref (ev.2.1 0)), (1, .int b1)]) hx hb dX10_findWhole_39 rfl hl (by decide) rfl (fun ls hl => ?_)
        exact wL40 (f_X10_findWhole_L15 n) hk15 FU b1 (0 : Int32) u13 H locs ls hw (lv_sub hl [1, 2, 0] rfl) hf
  unfold f_X10_findWhole at hf
  refine lv_aload_n hx hb dX10_findWhole_0 rfl (lv_at hl 0 rfl) ?_
  refine gM0_40 hc hw fl_X10_156 dX10_findWhole_1 ?_
  refine lv_if_eq (tgt := 8) hx hb dX10_findWhole_4 (by decide) (fun z => ?_) (fun z => ?_)
  · have hf := it_pos z hf
    refine lv_aload_n hx hb dX10_findWhole_8 rfl (lv_at hl 0 rfl) ?_
    refine lv_iconst (v := (1 : Int32)) hx hb dX10_findWhole_9 (by decide) ?_
    refine pM0_40 hc hw fl_X10_156 nz1 fz1 dX10_findWhole_10 (fun H locs hw => ?_)
    obtain ⟨u1, eu1, hf⟩ := lt_some hf
    have hw := VW.nm eu1 hw
    refine lv_iconst (v := (0 : Int32)) hx hb dX10_findWhole_13 (by decide) ?_
    refine lv_istore_n (lv' := [(1, .int (0 : Int32)), (0, .ref (ev.2.1 0))]) hx hb dX10_findWhole_14 rfl hl (by decide) rfl (fun ls hl => ?_)
    exact wL15 FU (0 : Int32) u1 H locs ls hw (lv_sub hl [1, 0] rfl) hf
  · have hf := it_neg z hf
    exact retV hc hr hlk hw hf dX10_findWhole_7
def f_X10_whole (a1 : Int32) (u : SS) : Option (Int32 × SS) :=
  ob (f_X10_in a1 (0 : Int32) (1 : Int32) u) fun r3 u2 => if r3 = 0 then (ob (f_X10_refuse (-2 : Int32) u2) fun r14 u13 => some (r14, u13)) else (ob (f_X10_isOpen u2) fun r6 u5 => if r6 = 0 then (ov (f_X10_findWhole u5) fun u8 => if a1 = 0 then (some ((gI u8 17), u8)) else (some ((gI u8 18), u8))) else (ob (f_X10_refuse (-3 : Int32) u5) fun r11 u10 => some (r11, u10)))
set_option maxHeartbeats 4000000 in
set_option maxRecDepth 100000 in
theorem c_X10_whole (l : Launch) (ev : EV) (a1 : Int32) (u : SS) {r : Int32} {u' : SS} (hf : f_X10_whole a1 u = some (r, u')) : MI wdM l yX10_whole cX10_whole 2 (some .int) 9 ev [.ref (ev.2.1 0), .int a1] u r u' := by
  refine bodyI (by decide +kernel) rfl (Nat.le_of_ble_eq_true rfl) ?_
  intro p e s m below meth cd ls H locs hc hr hlk hw hl
  generalize hav : (List.toArray [.ref (ev.2.1 0), .int a1] : Array Value) = av at hc ⊢
  obtain ⟨hx, hb, hml, hown, hts, hK, hZ⟩ := id hc
  have hl : lv_has ls 2 [(0, .ref (ev.2.1 0)), (1, .int a1)] := hl
  unfold f_X10_whole at hf
  refine lv_iload_n hx hb dX10_whole_0 rfl (lv_at hl 1 rfl) ?_
  refine lv_iconst (v := (0 : Int32)) hx hb dX10_whole_1 (by decide) ?_
  refine lv_iconst (v := (1 : Int32)) hx hb dX10_whole_2 (by decide) ?_
  obtain ⟨r3, u2, h1, hf⟩ := ob_some hf
  refine endI okM hw (runS_ok (As := [.int a1, .int (0 : Int32), .int (1 : Int32)]) (rest := []) okM hc hw (c_X10_in l ev a1 (0 : Int32) (1 : Int32) u h1 H.size) ks_X10_in ml_X10_144 hl.1 rfl rfl (Nat.le_of_ble_eq_true rfl) (rm_le (by decide) (by decide)) dX10_whole_3) (fun H locs hw => ?_)
  refine lv_if_ne (tgt := 16) hx hb dX10_whole_6 (by decide) (fun z => ?_) (fun z => ?_)
  · have hf := it_neg z hf
    refine lv_aload_n hx hb dX10_whole_16 rfl (lv_at hl 0 rfl) ?_
    obtain ⟨r6, u5, h4, hf⟩ := ob_some hf
    refine endI okM hw (runV_ok (As := []) (rest := []) okM hc hw (c_X10_isOpen l ev u2 h4 H.size) kv_X10_isOpen ml_X10_160 (rvM0 ev u2) hl.1 rfl rfl (Nat.le_of_ble_eq_true rfl) (rm_le (by decide) (by decide)) dX10_whole_17) (fun H locs hw => ?_)
    refine lv_if_eq (tgt := 30) hx hb dX10_whole_20 (by decide) (fun z => ?_) (fun z => ?_)
    · have hf := it_pos z hf
      refine lv_aload_n hx hb dX10_whole_30 rfl (lv_at hl 0 rfl) ?_
      obtain ⟨u8, h7, hf⟩ := ov_some hf
      refine endV okM hw (runV_ok (As := []) (rest := []) okM hc hw (c_X10_findWhole l ev u5 h7 H.size) kv_X10_findWhole ml_X10_353 (rvM0 ev u5) hl.1 rfl rfl (Nat.le_of_ble_eq_true rfl) (rm_le (by decide) (by decide)) dX10_whole_31) (fun H locs hw => ?_)
      refine lv_iload_n hx hb dX10_whole_34 rfl (lv_at hl 1 rfl) ?_
      refine lv_if_ne (tgt := 45) hx hb dX10_whole_35 (by decide) (fun z => ?_) (fun z => ?_)
      · have hf := it_neg z hf
        refine lv_aload_n hx hb dX10_whole_45 rfl (lv_at hl 0 rfl) ?_
        refine gM0_43 hc hw fl_X10_350 dX10_whole_46 ?_
        exact retI hc hr hlk hw hf dX10_whole_49
      · have hf := it_pos z hf
        refine lv_aload_n hx hb dX10_whole_38 rfl (lv_at hl 0 rfl) ?_
        refine gM0_42 hc hw fl_X10_347 dX10_whole_39 ?_
        refine lv_goto (tgt := 49) hx hb dX10_whole_42 (by decide) ?_
        exact retI hc hr hlk hw hf dX10_whole_49
    · have hf := it_neg z hf
      refine lv_aload_n hx hb dX10_whole_23 rfl (lv_at hl 0 rfl) ?_
      refine lv_bipush (v := (-3 : Int32)) hx hb dX10_whole_24 (by decide) ?_
      obtain ⟨r11, u10, h9, hf⟩ := ob_some hf
      refine endI okM hw (runV_ok (As := [.int (-3 : Int32)]) (rest := []) okM hc hw (c_X10_refuse l ev (-3 : Int32) u5 h9 H.size) kv_X10_refuse ml_X10_151 (rvM0 ev u5) hl.1 rfl rfl (Nat.le_of_ble_eq_true rfl) (rm_le (by decide) (by decide)) dX10_whole_26) (fun H locs hw => ?_)
      exact retI hc hr hlk hw hf dX10_whole_29
  · have hf := it_pos z hf
    refine lv_aload_n hx hb dX10_whole_9 rfl (lv_at hl 0 rfl) ?_
    refine lv_bipush (v := (-2 : Int32)) hx hb dX10_whole_10 (by decide) ?_
    obtain ⟨r14, u13, h12, hf⟩ := ob_some hf
    refine endI okM hw (runV_ok (As := [.int (-2 : Int32)]) (rest := []) okM hc hw (c_X10_refuse l ev (-2 : Int32) u2 h12 H.size) kv_X10_refuse ml_X10_151 (rvM0 ev u2) hl.1 rfl rfl (Nat.le_of_ble_eq_true rfl) (rm_le (by decide) (by decide)) dX10_whole_12) (fun H locs hw => ?_)
    exact retI hc hr hlk hw hf dX10_whole_15
def f_X10_winner (a1 : Int32) (u : SS) : Option (Int32 × SS) :=
  ob (f_X10_isLot a1 u) fun r3 u2 => if r3 = 0 then (ob (f_X10_refuse (-1 : Int32) u2) fun r14 u13 => some (r14, u13)) else (ob (f_X10_isOpen u2) fun r6 u5 => if r6 = 0 then (ov (f_X10_findWhole u5) fun u8 => oi a1 6 (some ((gA u8 18 a1.toNatClampNeg), u8))) else (ob (f_X10_refuse (-3 : Int32) u5) fun r11 u10 => some (r11, u10)))
set_option maxHeartbeats 4000000 in
set_option maxRecDepth 100000 in
theorem c_X10_winner (l : Launch) (ev : EV) (a1 : Int32) (u : SS) {r : Int32} {u' : SS} (hf : f_X10_winner a1 u = some (r, u')) : MI wdM l yX10_winner cX10_winner 2 (some .int) 9 ev [.ref (ev.2.1 0), .int a1] u r u' := by
  refine bodyI (by decide +kernel) rfl (Nat.le_of_ble_eq_true rfl) ?_
  intro p e s m below meth cd ls H locs hc hr hlk hw hl
  generalize hav : (List.toArray [.ref (ev.2.1 0), .int a1] : Array Value) = av at hc ⊢
  obtain ⟨hx, hb, hml, hown, hts, hK, hZ⟩ := id hc
  have hl : lv_has ls 2 [(0, .ref (ev.2.1 0)), (1, .int a1)] := hl
  unfold f_X10_winner at hf
  refine lv_aload_n hx hb dX10_winner_0 rfl (lv_at hl 0 rfl) ?_
  refine lv_iload_n hx hb dX10_winner_1 rfl (lv_at hl 1 rfl) ?_
  obtain ⟨r3, u2, h1, hf⟩ := ob_some hf
  refine endI okM hw (runV_ok (As := [.int a1]) (rest := []) okM hc hw (c_X10_isLot l ev a1 u h1 H.size) kv_X10_isLot ml_X10_170 (rvM0 ev u) hl.1 rfl rfl (Nat.le_of_ble_eq_true rfl) (rm_le (by decide) (by decide)) dX10_winner_2) (fun H locs hw => ?_)
  refine lv_if_ne (tgt := 14) hx hb dX10_winner_5 (by decide) (fun z => ?_) (fun z => ?_)
  · have hf := it_neg z hf
    refine lv_aload_n hx hb dX10_winner_14 rfl (lv_at hl 0 rfl) ?_
    obtain ⟨r6, u5, h4, hf⟩ := ob_some hf
    refine endI okM hw (runV_ok (As := []) (rest := []) okM hc hw (c_X10_isOpen l ev u2 h4 H.size) kv_X10_isOpen ml_X10_160 (rvM0 ev u2) hl.1 rfl rfl (Nat.le_of_ble_eq_true rfl) (rm_le (by decide) (by decide)) dX10_winner_15) (fun H locs hw => ?_)
    refine lv_if_eq (tgt := 28) hx hb dX10_winner_18 (by decide) (fun z => ?_) (fun z => ?_)
    · have hf := it_pos z hf
      refine lv_aload_n hx hb dX10_winner_28 rfl (lv_at hl 0 rfl) ?_
      obtain ⟨u8, h7, hf⟩ := ov_some hf
      refine endV okM hw (runV_ok (As := []) (rest := []) okM hc hw (c_X10_findWhole l ev u5 h7 H.size) kv_X10_findWhole ml_X10_353 (rvM0 ev u5) hl.1 rfl rfl (Nat.le_of_ble_eq_true rfl) (rm_le (by decide) (by decide)) dX10_winner_29) (fun H locs hw => ?_)
      refine lv_aload_n hx hb dX10_winner_32 rfl (lv_at hl 0 rfl) ?_
      refine gM0_41 hc hw fl_X10_85 dX10_winner_33 ?_
      refine lv_iload_n hx hb dX10_winner_36 rfl (lv_at hl 1 rfl) ?_
      obtain ⟨z, hf⟩ := oi_some hf
      refine aM23 hc hw z dX10_winner_37 ?_
      exact retI hc hr hlk hw hf dX10_winner_38
    · have hf := it_neg z hf
      refine lv_aload_n hx hb dX10_winner_21 rfl (lv_at hl 0 rfl) ?_
      refine lv_bipush (v := (-3 : Int32)) hx hb dX10_winner_22 (by decide) ?_
      obtain ⟨r11, u10, h9, hf⟩ := ob_some hf
      refine endI okM hw (runV_ok (As := [.int (-3 : Int32)]) (rest := []) okM hc hw (c_X10_refuse l ev (-3 : Int32) u5 h9 H.size) kv_X10_refuse ml_X10_151 (rvM0 ev u5) hl.1 rfl rfl (Nat.le_of_ble_eq_true rfl) (rm_le (by decide) (by decide)) dX10_winner_24) (fun H locs hw => ?_)
      exact retI hc hr hlk hw hf dX10_winner_27
  · have hf := it_pos z hf
    refine lv_aload_n hx hb dX10_winner_8 rfl (lv_at hl 0 rfl) ?_
    refine lv_iconst (v := (-1 : Int32)) hx hb dX10_winner_9 (by decide) ?_
    obtain ⟨r14, u13, h12, hf⟩ := ob_some hf
    refine endI okM hw (runV_ok (As := [.int (-1 : Int32)]) (rest := []) okM hc hw (c_X10_refuse l ev (-1 : Int32) u2 h12 H.size) kv_X10_refuse ml_X10_151 (rvM0 ev u2) hl.1 rfl rfl (Nat.le_of_ble_eq_true rfl) (rm_le (by decide) (by decide)) dX10_winner_10) (fun H locs hw => ?_)
    exact retI hc hr hlk hw hf dX10_winner_13
def f_X10_award_L30 (u : SS) : Option (Int32 × SS) :=
  ob (f_X10_refuse (-3 : Int32) u) fun r9 u8 => some (r9, u8)
def f_X10_award_L136 (k72 : Int32 → SS → Option (Int32 × SS)) (b2 : Int32) (q0 : Int32) (q1 : Int32) (u : SS) : Option (Int32 × SS) :=
  oi q1 6 (lt (tA u 25 q1 q0) fun u18 => oi b2 6 (lt (tA u18 26 b2 (0 : Int32)) fun u19 => lt (b2 + (1 : Int32)) fun x20 => k72 x20 u19))
def f_X10_award_L102 (k72 : Int32 → SS → Option (Int32 × SS)) (b2 : Int32) (q0 : Int32) (q1 : Int32) (u : SS) : Option (Int32 × SS) :=
  oi q1 6 (lt (tA u 24 q1 q0) fun u14 => oi b2 6 (if 0 ≤ (gA u14 24 b2.toNatClampNeg) then (oi b2 6 (ob (f_X10_priceOf (((8 : Int32) * b2) + (gA u14 24 b2.toNatClampNeg)) u14) fun r17 u16 => f_X10_award_L136 k72 b2 r17 b2 u16)) else (f_X10_award_L136 k72 b2 (0 : Int32) b2 u14)))
def b_X10_award_L72 (k72 : Int32 → SS → Option (Int32 × SS)) (b2 : Int32) (u : SS) : Option (Int32 × SS) :=
  if (6 : Int32) ≤ b2 then (some ((gI u 17), u)) else (if (gI u 2) ≤ b2 then (f_X10_award_L102 k72 b2 (-9 : Int32) b2 u) else (oi b2 6 (f_X10_award_L102 k72 b2 (gA u 18 b2.toNatClampNeg) b2 u)))
def f_X10_award_L72 : Nat → Int32 → SS → Option (Int32 × SS)
  | 0 => fun _ _ => none
  | n + 1 => b_X10_award_L72 (f_X10_award_L72 n)
def f_X10_award_L65 (q0 : Int32) (q1 : Int32) (q2 : Int32) (u : SS) : Option (Int32 × SS) :=
  lt (sI u 24 (q2 + (q1 * q0))) fun u13 => f_X10_award_L72 FU (0 : Int32) u13
def f_X10_award (a1 : Int32) (u : SS) : Option (Int32 × SS) :=
  ob (f_X10_in a1 (0 : Int32) (1 : Int32) u) fun r3 u2 => if r3 = 0 then (ob (f_X10_refuse (-2 : Int32) u2) fun r23 u22 => some (r23, u22)) else (ob (f_X10_isOpen u2) fun r6 u5 => if r6 = 0 then (if (gI u5 22) = 0 then (ov (f_X10_findWhole u5) fun u11 => lt (sI u11 22 (1 : Int32)) fun u12 => if a1 = 0 then (f_X10_award_L65 (10 : Int32) (1440 : Int32) (gI u12 0) u12) else (f_X10_award_L65 (13 : Int32) (1440 : Int32) (gI u12 0) u12)) else (f_X10_award_L30 u5)) else (f_X10_award_L30 u5))
set_option maxHeartbeats 4000000 in
set_option maxRecDepth 100000 in
theorem c_X10_award (l : Launch) (ev : EV) (a1 : Int32) (u : SS) {r : Int32} {u' : SS} (hf : f_X10_award a1 u = some (r, u')) : MI wdM l yX10_award cX10_award 3 (some .int) 9 ev [.ref (ev.2.1 0), .int a1] u r u' := by
  refine bodyI (by decide +kernel) rfl (Nat.le_of_ble_eq_true rfl) ?_
  intro p e s m below meth cd ls H locs hc hr hlk hw hl
  generalize hav : (List.toArray [.ref (ev.2.1 0), .int a1] : Array Value) = av at hc ⊢
  obtain ⟨hx, hb, hml, hown, hts, hK, hZ⟩ := id hc
  have hl : lv_has ls 3 [(0, .ref (ev.2.1 0)), (1, .int a1)] := hl
  have wL30 : ∀ (u : SS) (H : Heap) (locs : List Loc) (ls : Array Slot), VW wdM ev s u H locs → lv_has ls 3 [(0, .ref (ev.2.1 0))] → f_X10_award_L30  u = some (r, u') → W p l e (rmk 9) s m av below meth cd H locs 0 0 (ZI wdM ev s below av r u') (F0 m 30 ls []) := by
    intro  u H locs ls hw hl hf
    unfold f_X10_award_L30 at hf
    refine lv_aload_n hx hb dX10_award_30 rfl (lv_at hl 0 rfl) ?_
    refine lv_bipush (v := (-3 : Int32)) hx hb dX10_award_31 (by decide) ?_
    obtain ⟨r9, u8, h7, hf⟩ := ob_some hf
    refine endI okM hw (runV_ok (As := [.int (-3 : Int32)]) (rest := []) okM hc hw (c_X10_refuse l ev (-3 : Int32) u h7 H.size) kv_X10_refuse ml_X10_151 (rvM0 ev u) hl.1 rfl rfl (Nat.le_of_ble_eq_true rfl) (rm_le (by decide) (by decide)) dX10_award_33) (fun H locs hw => ?_)
    exact retI hc hr hlk hw hf dX10_award_36
  have wL136 : ∀ (k72 : Int32 → SS → Option (Int32 × SS)) (hk72 : ∀ (b2 : Int32) (u : SS) (H : Heap) (locs : List Loc) (ls : Array Slot), VW wdM ev s u H locs → lv_has ls 3 [(0, .ref (ev.2.1 0)), (2, .int b2)] → k72 b2 u = some (r, u') → W p l e (rmk 9) s m av below meth cd H locs 0 0 (ZI wdM ev s below av r u') (F0 m 72 ls [])) (b2 : Int32) (q0 : Int32) (q1 : Int32) (u : SS) (H : Heap) (locs : List Loc) (ls : Array Slot), VW wdM ev s u H locs → lv_has ls 3 [(0, .ref (ev.2.1 0)), (2, .int b2)] → f_X10_award_L136 k72 b2 q0 q1 u = some (r, u') → W p l e (rmk 9) s m av below meth cd H locs 0 0 (ZI wdM ev s below av r u') (F0 m 136 ls [.int q0, .int q1, .ref (ev.2.1 30)]) := by
    intro k72 hk72 b2 q0 q1 u H locs ls hw hl hf
    unfold f_X10_award_L136 at hf
    obtain ⟨z, hf⟩ := oi_some hf
    refine tM30 hc hw z dX10_award_136 (fun H locs hw => ?_)
    obtain ⟨u18, eu18, hf⟩ := lt_some hf
    have hw := VW.nm eu18 hw
    refine lv_aload_n hx hb dX10_award_137 rfl (lv_at hl 0 rfl) ?_
    refine gM0_57 hc hw fl_X10_109 dX10_award_138 ?_
    refine lv_iload_n hx hb dX10_award_141 rfl (lv_at hl 1 rfl) ?_
    refine lv_iconst (v := (0 : Int32)) hx hb dX10_award_142 (by decide) ?_
    obtain ⟨z, hf⟩ := oi_some hf
    refine tM31 hc hw z dX10_award_143 (fun H locs hw => ?_)
    obtain ⟨u19, eu19, hf⟩ := lt_some hf
    have hw := VW.nm eu19 hw
    obtain ⟨x20, ex20, hf⟩ := lt_some hf
    refine lv_iinc (v := x20) (lv' := [(2, .int x20), (0, .ref (ev.2.1 0))]) hx hb dX10_award_144 hl (k := 1) rfl (by rw [ex20]; rfl) (by decide) rfl (fun ls hl => ?_)
    refine lv_goto (tgt := 72) hx hb dX10_award_147 (by decide) ?_
    exact hk72 x20 u19 H locs ls hw (lv_sub hl [1, 0] rfl) hf
  have wL102 : ∀ (k72 : Int32 → SS → Option (Int32 × SS)) (hk72 : ∀ (b2 : Int32) (u : SS) (H : Heap) (locs : List Loc) (ls : Array Slot), VW wdM ev s u H locs → lv_has ls 3 [(0, .ref (ev.2.1 0)), (2, .int b2)] → k72 b2 u = some (r, u') → W p l e (rmk 9) s m av below meth cd H locs 0 0 (ZI wdM ev s below av r u') (F0 m 72 ls [])) (b2 : Int32) (q0 : Int32) (q1 : Int32) (u : SS) (H : Heap) (locs : List Loc) (ls : Array Slot), VW wdM ev s u H locs → lv_has ls 3 [(0, .ref (ev.2.1 0)), (2, .int b2)] → f_X10_award_L102 k72 b2 q0 q1 u = some (r, u') → W p l e (rmk 9) s m av below meth cd H locs 0 0 (ZI wdM ev s below av r u') (F0 m 102 ls [.int q0, .int q1, .ref (ev.2.1 29)]) := by
    intro k72 hk72 b2 q0 q1 u H locs ls hw hl hf
    unfold f_X10_award_L102 at hf
    obtain ⟨z, hf⟩ := oi_some hf
    refine tM29 hc hw z dX10_award_102 (fun H locs hw => ?_)
    obtain ⟨u14, eu14, hf⟩ := lt_some hf
    have hw := VW.nm eu14 hw
    refine lv_aload_n hx hb dX10_award_103 rfl (lv_at hl 0 rfl) ?_
    refine gM0_56 hc hw fl_X10_106 dX10_award_104 ?_
    refine lv_iload_n hx hb dX10_award_107 rfl (lv_at hl 1 rfl) ?_
    refine lv_aload_n hx hb dX10_award_108 rfl (lv_at hl 0 rfl) ?_
    refine gM0_55 hc hw fl_X10_103 dX10_award_109 ?_
    refine lv_iload_n hx hb dX10_award_112 rfl (lv_at hl 1 rfl) ?_
    obtain ⟨z, hf⟩ := oi_some hf
    refine aM29 hc hw z dX10_award_113 ?_
    refine lv_if_ge (tgt := 121) hx hb dX10_award_114 (by decide) (fun z => ?_) (fun z => ?_)
    · have hf := it_pos z hf
      refine lv_aload_n hx hb dX10_award_121 rfl (lv_at hl 0 rfl) ?_
      refine lv_bipush (v := (8 : Int32)) hx hb dX10_award_122 (by decide) ?_
      refine lv_iload_n hx hb dX10_award_124 rfl (lv_at hl 1 rfl) ?_
      refine lv_imul hx hb dX10_award_125 ?_
      refine lv_aload_n hx hb dX10_award_126 rfl (lv_at hl 0 rfl) ?_
      refine gM0_55 hc hw fl_X10_103 dX10_award_127 ?_
      refine lv_iload_n hx hb dX10_award_130 rfl (lv_at hl 1 rfl) ?_
      obtain ⟨z, hf⟩ := oi_some hf
      refine aM29 hc hw z dX10_award_131 ?_
      refine lv_iadd hx hb dX10_award_132 ?_
      obtain ⟨r17, u16, h15, hf⟩ := ob_some hf
      refine endI okM hw (runV_ok (As := [.int (((8 : Int32) * b2) + (gA u14 24 b2.toNatClampNeg))]) (rest := [.int b2, .ref (ev.2.1 30)]) okM hc hw (c_X10_priceOf l ev (((8 : Int32) * b2) + (gA u14 24 b2.toNatClampNeg)) u14 h15 H.size) kv_X10_priceOf ml_X10_191 (rvM0 ev u14) hl.1 rfl rfl (Nat.le_of_ble_eq_true rfl) (rm_le (by decide) (by decide)) dX10_award_133) (fun H locs hw => ?_)
      exact wL136 k72 hk72 b2 r17 b2 u16 H locs ls hw (lv_sub hl [0, 1] rfl) hf
    · have hf := it_neg z hf
      refine lv_iconst (v := (0 : Int32)) hx hb dX10_award_117 (by decide) ?_
      refine lv_goto (tgt := 136) hx hb dX10_award_118 (by decide) ?_
      exact wL136 k72 hk72 b2 (0 : Int32) b2 u14 H locs ls hw (lv_sub hl [0, 1] rfl) hf
  have wL72 : ∀ (n : Nat) (b2 : Int32) (u : SS) (H : Heap) (locs : List Loc) (ls : Array Slot), VW wdM ev s u H locs → lv_has ls 3 [(0, .ref (ev.2.1 0)), (2, .int b2)] → f_X10_award_L72 n b2 u = some (r, u') → W p l e (rmk 9) s m av below meth cd H locs 0 0 (ZI wdM ev s below av r u') (F0 m 72 ls []) := by
    intro n
    induction n with
    | zero =>
      intro b2 u H locs ls hw hl hf
      cases hf
    | succ n hk72 =>
      intro b2 u H locs ls hw hl hf
      have hf : b_X10_award_L72 (f_X10_award_L72 n) b2 u = some (r, u') := hf
      unfold b_X10_award_L72 at hf
      refine lv_iload_n hx hb dX10_award_72 rfl (lv_at hl 1 rfl) ?_
      refine lv_bipush (v := (6 : Int32)) hx hb dX10_award_73 (by decide) ?_
      refine lv_icmp_ge (tgt := 150) hx hb dX10_award_75 (by decide) (fun z => ?_) (fun z => ?_)
      · have hf := it_pos z hf
        refine lv_aload_n hx hb dX10_award_150 rfl (lv_at hl 0 rfl) ?_
        refine gM0_42 hc hw fl_X10_347 dX10_award_151 ?_
        exact retI hc hr hlk hw hf dX10_award_154
      · have hf := it_neg z hf
        refine lv_aload_n hx hb dX10_award_78 rfl (lv_at hl 0 rfl) ?_
        refine gM0_55 hc hw fl_X10_103 dX10_award_79 ?_
        refine lv_iload_n hx hb dX10_award_82 rfl (lv_at hl 1 rfl) ?_
        refine lv_iload_n hx hb dX10_award_83 rfl (lv_at hl 1 rfl) ?_
        refine lv_aload_n hx hb dX10_award_84 rfl (lv_at hl 0 rfl) ?_
        refine gM0_3 hc hw fl_X10_17 dX10_award_85 ?_
        refine lv_icmp_ge (tgt := 100) hx hb dX10_award_88 (by decide) (fun z => ?_) (fun z => ?_)
        · have hf := it_pos z hf
          refine lv_bipush (v := (-9 : Int32)) hx hb dX10_award_100 (by decide) ?_
          exact wL102 (f_X10_award_L72 n) hk72 b2 (-9 : Int32) b2 u H locs ls hw (lv_sub hl [0, 1] rfl) hf
        · have hf := it_neg z hf
          refine lv_aload_n hx hb dX10_award_91 rfl (lv_at hl 0 rfl) ?_
          refine gM0_41 hc hw fl_X10_85 dX10_award_92 ?_
          refine lv_iload_n hx hb dX10_award_95 rfl (lv_at hl 1 rfl) ?_
          obtain ⟨z, hf⟩ := oi_some hf
          refine aM23 hc hw z dX10_award_96 ?_
          refine lv_goto (tgt := 102) hx hb dX10_award_97 (by decide) ?_
          exact wL102 (f_X10_award_L72 n) hk72 b2 (gA u 18 b2.toNatClampNeg) b2 u H locs ls hw (lv_sub hl [0, 1] rfl) hf
  have wL65 : ∀ (q0 : Int32) (q1 : Int32) (q2 : Int32) (u : SS) (H : Heap) (locs : List Loc) (ls : Array Slot), VW wdM ev s u H locs → lv_has ls 3 [(0, .ref (ev.2.1 0))] → f_X10_award_L65 q0 q1 q2 u = some (r, u') → W p l e (rmk 9) s m av below meth cd H locs 0 0 (ZI wdM ev s below av r u') (F0 m 65 ls [.int q0, .int q1, .int q2, .ref (ev.2.1 0)]) := by
    intro q0 q1 q2 u H locs ls hw hl hf
    unfold f_X10_award_L65 at hf
    refine lv_imul hx hb dX10_award_65 ?_
    refine lv_iadd hx hb dX10_award_66 ?_
    refine pM0_54 hc hw fl_X10_359 dX10_award_67 (fun H locs hw => ?_)
    obtain ⟨u13, eu13, hf⟩ := lt_some hf
    have hw := VW.nm eu13 hw
    refine lv_iconst (v := (0 : Int32)) hx hb dX10_award_70 (by decide) ?_
    refine lv_istore_n (lv' := [(2, .int (0 : Int32)), (0, .ref (ev.2.1 0))]) hx hb dX10_award_71 rfl hl (by decide) rfl (fun ls hl => ?_)
    exact wL72 FU (0 : Int32) u13 H locs ls hw (lv_sub hl [1, 0] rfl) hf
  unfold f_X10_award at hf
  refine lv_iload_n hx hb dX10_award_0 rfl (lv_at hl 1 rfl) ?_
  refine lv_iconst (v := (0 : Int32)) hx hb dX10_award_1 (by decide) ?_
  refine lv_iconst (v := (1 : Int32)) hx hb dX10_award_2 (by decide) ?_
  obtain ⟨r3, u2, h1, hf⟩ := ob_some hf
  refine endI okM hw (runS_ok (As := [.int a1, .int (0 : Int32), .int (1 : Int32)]) (rest := []) okM hc hw (c_X10_in l ev a1 (0 : Int32) (1 : Int32) u h1 H.size) ks_X10_in ml_X10_144 hl.1 rfl rfl (Nat.le_of_ble_eq_true rfl) (rm_le (by decide) (by decide)) dX10_award_3) (fun H locs hw => ?_)
  refine lv_if_ne (tgt := 16) hx hb dX10_award_6 (by decide) (fun z => ?_) (fun z => ?_)
  · have hf := it_neg z hf
    refine lv_aload_n hx hb dX10_award_16 rfl (lv_at hl 0 rfl) ?_
    obtain ⟨r6, u5, h4, hf⟩ := ob_some hf
    refine endI okM hw (runV_ok (As := []) (rest := []) okM hc hw (c_X10_isOpen l ev u2 h4 H.size) kv_X10_isOpen ml_X10_160 (rvM0 ev u2) hl.1 rfl rfl (Nat.le_of_ble_eq_true rfl) (rm_le (by decide) (by decide)) dX10_award_17) (fun H locs hw => ?_)
    refine lv_if_ne (tgt := 30) hx hb dX10_award_20 (by decide) (fun z => ?_) (fun z => ?_)
    · have hf := it_neg z hf
      exact wL30 u5 H locs ls hw (lv_sub hl [0] rfl) hf
    · have hf := it_pos z hf
      refine lv_aload_n hx hb dX10_award_23 rfl (lv_at hl 0 rfl) ?_
      refine gM0_52 hc hw fl_X10_356 dX10_award_24 ?_
      refine lv_if_eq (tgt := 37) hx hb dX10_award_27 (by decide) (fun z => ?_) (fun z => ?_)
      · have hf := it_pos z hf
        refine lv_aload_n hx hb dX10_award_37 rfl (lv_at hl 0 rfl) ?_
        obtain ⟨u11, h10, hf⟩ := ov_some hf
        refine endV okM hw (runV_ok (As := []) (rest := []) okM hc hw (c_X10_findWhole l ev u5 h10 H.size) kv_X10_findWhole ml_X10_353 (rvM0 ev u5) hl.1 rfl rfl (Nat.le_of_ble_eq_true rfl) (rm_le (by decide) (by decide)) dX10_award_38) (fun H locs hw => ?_)
        refine lv_aload_n hx hb dX10_award_41 rfl (lv_at hl 0 rfl) ?_
        refine lv_iconst (v := (1 : Int32)) hx hb dX10_award_42 (by decide) ?_
        refine pM0_52 hc hw fl_X10_356 nz1 fz1 dX10_award_43 (fun H locs hw => ?_)
        obtain ⟨u12, eu12, hf⟩ := lt_some hf
        have hw := VW.nm eu12 hw
        refine lv_aload_n hx hb dX10_award_46 rfl (lv_at hl 0 rfl) ?_
        refine lv_aload_n hx hb dX10_award_47 rfl (lv_at hl 0 rfl) ?_
        refine gM0_0 hc hw fl_X10_148 dX10_award_48 ?_
        refine lv_sipush (v := (1440 : Int32)) hx hb dX10_award_51 (by decide) ?_
        refine lv_iload_n hx hb dX10_award_54 rfl (lv_at hl 1 rfl) ?_
        refine lv_if_ne (tgt := 63) hx hb dX10_award_55 (by decide) (fun z => ?_) (fun z => ?_)
        · have hf := it_neg z hf
          refine lv_bipush (v := (13 : Int32)) hx hb dX10_award_63 (by decide) ?_
          exact wL65 (13 : Int32) (1440 : Int32) (gI u12 0) u12 H locs ls hw (lv_sub hl [0] rfl) hf
        · have hf := it_pos z hf
          refine lv_bipush (v := (10 : Int32)) hx hb dX10_award_58 (by decide) ?_
          refine lv_goto (tgt := 65) hx hb dX10_award_60 (by decide) ?_
          exact wL65 (10 : Int32) (1440 : Int32) (gI u12 0) u12 H locs ls hw (lv_sub hl [0] rfl) hf
      · have hf := it_neg z hf
        exact wL30 u5 H locs ls hw (lv_sub hl [0] rfl) hf
  · have hf := it_pos z hf
    refine lv_aload_n hx hb dX10_award_9 rfl (lv_at hl 0 rfl) ?_
    refine lv_bipush (v := (-2 : Int32)) hx hb dX10_award_10 (by decide) ?_
    obtain ⟨r23, u22, h21, hf⟩ := ob_some hf
    refine endI okM hw (runV_ok (As := [.int (-2 : Int32)]) (rest := []) okM hc hw (c_X10_refuse l ev (-2 : Int32) u2 h21 H.size) kv_X10_refuse ml_X10_151 (rvM0 ev u2) hl.1 rfl rfl (Nat.le_of_ble_eq_true rfl) (rm_le (by decide) (by decide)) dX10_award_12) (fun H locs hw => ?_)
    exact retI hc hr hlk hw hf dX10_award_15
def f_X10_awarded (a1 : Int32) (u : SS) : Option (Int32 × SS) :=
  ob (f_X10_isLot a1 u) fun r3 u2 => if r3 = 0 then (ob (f_X10_refuse (-1 : Int32) u2) fun r9 u8 => some (r9, u8)) else (if (gI u2 22) = 0 then (ob (f_X10_refuse (-3 : Int32) u2) fun r6 u5 => some (r6, u5)) else (oi a1 6 (some ((gA u2 24 a1.toNatClampNeg), u2))))
set_option maxHeartbeats 4000000 in
set_option maxRecDepth 100000 in
theorem c_X10_awarded (l : Launch) (ev : EV) (a1 : Int32) (u : SS) {r : Int32} {u' : SS} (hf : f_X10_awarded a1 u = some (r, u')) : MI wdM l yX10_awarded cX10_awarded 2 (some .int) 2 ev [.ref (ev.2.1 0), .int a1] u r u' := by
  refine bodyI (by decide +kernel) rfl (Nat.le_of_ble_eq_true rfl) ?_
  intro p e s m below meth cd ls H locs hc hr hlk hw hl
  generalize hav : (List.toArray [.ref (ev.2.1 0), .int a1] : Array Value) = av at hc ⊢
  obtain ⟨hx, hb, hml, hown, hts, hK, hZ⟩ := id hc
  have hl : lv_has ls 2 [(0, .ref (ev.2.1 0)), (1, .int a1)] := hl
  unfold f_X10_awarded at hf
  refine lv_aload_n hx hb dX10_awarded_0 rfl (lv_at hl 0 rfl) ?_
  refine lv_iload_n hx hb dX10_awarded_1 rfl (lv_at hl 1 rfl) ?_
  obtain ⟨r3, u2, h1, hf⟩ := ob_some hf
  refine endI okM hw (runV_ok (As := [.int a1]) (rest := []) okM hc hw (c_X10_isLot l ev a1 u h1 H.size) kv_X10_isLot ml_X10_170 (rvM0 ev u) hl.1 rfl rfl (Nat.le_of_ble_eq_true rfl) (rm_le (by decide) (by decide)) dX10_awarded_2) (fun H locs hw => ?_)
  refine lv_if_ne (tgt := 14) hx hb dX10_awarded_5 (by decide) (fun z => ?_) (fun z => ?_)
  · have hf := it_neg z hf
    refine lv_aload_n hx hb dX10_awarded_14 rfl (lv_at hl 0 rfl) ?_
    refine gM0_52 hc hw fl_X10_356 dX10_awarded_15 ?_
    refine lv_if_eq (tgt := 30) hx hb dX10_awarded_18 (by decide) (fun z => ?_) (fun z => ?_)
    · have hf := it_pos z hf
      refine lv_aload_n hx hb dX10_awarded_30 rfl (lv_at hl 0 rfl) ?_
      refine lv_bipush (v := (-3 : Int32)) hx hb dX10_awarded_31 (by decide) ?_
      obtain ⟨r6, u5, h4, hf⟩ := ob_some hf
      refine endI okM hw (runV_ok (As := [.int (-3 : Int32)]) (rest := []) okM hc hw (c_X10_refuse l ev (-3 : Int32) u2 h4 H.size) kv_X10_refuse ml_X10_151 (rvM0 ev u2) hl.1 rfl rfl (Nat.le_of_ble_eq_true rfl) (rm_le (by decide) (by decide)) dX10_awarded_33) (fun H locs hw => ?_)
      exact retI hc hr hlk hw hf dX10_awarded_36
    · have hf := it_neg z hf
      refine lv_aload_n hx hb dX10_awarded_21 rfl (lv_at hl 0 rfl) ?_
      refine gM0_55 hc hw fl_X10_103 dX10_awarded_22 ?_
      refine lv_iload_n hx hb dX10_awarded_25 rfl (lv_at hl 1 rfl) ?_
      obtain ⟨z, hf⟩ := oi_some hf
      refine aM29 hc hw z dX10_awarded_26 ?_
      refine lv_goto (tgt := 36) hx hb dX10_awarded_27 (by decide) ?_
      exact retI hc hr hlk hw hf dX10_awarded_36
  · have hf := it_pos z hf
    refine lv_aload_n hx hb dX10_awarded_8 rfl (lv_at hl 0 rfl) ?_
    refine lv_iconst (v := (-1 : Int32)) hx hb dX10_awarded_9 (by decide) ?_
    obtain ⟨r9, u8, h7, hf⟩ := ob_some hf
    refine endI okM hw (runV_ok (As := [.int (-1 : Int32)]) (rest := []) okM hc hw (c_X10_refuse l ev (-1 : Int32) u2 h7 H.size) kv_X10_refuse ml_X10_151 (rvM0 ev u2) hl.1 rfl rfl (Nat.le_of_ble_eq_true rfl) (rm_le (by decide) (by decide)) dX10_awarded_10) (fun H locs hw => ?_)
    exact retI hc hr hlk hw hf dX10_awarded_13
def f_X10_challenge_L55 (u : SS) : Option (Int32 × SS) :=
  ob (f_X10_refuse (-3 : Int32) u) fun r9 u8 => some (r9, u8)
def f_X10_challenge (a1 : Int32) (a2 : Int32) (u : SS) : Option (Int32 × SS) :=
  ob (f_X10_isLot a1 u) fun r3 u2 => if r3 = 0 then (ob (f_X10_refuse (-1 : Int32) u2) fun r22 u21 => some (r22, u21)) else (ob (f_X10_in a2 (0 : Int32) (2 : Int32) u2) fun r6 u5 => if r6 = 0 then (ob (f_X10_refuse (-2 : Int32) u5) fun r19 u18 => some (r19, u18)) else (if (gI u5 22) = 0 then (f_X10_challenge_L55 u5) else (if (gI u5 23) = 0 then (if (gI u5 0) ≤ (gI u5 24) then (if (gI u5 25) = (20 : Int32) then (ob (f_X10_refuse (-6 : Int32) u5) fun r16 u15 => some (r16, u15)) else (oi (gI u5 25) 20 (lt (tA u5 27 (gI u5 25) a1) fun u10 => oi (gI u10 25) 20 (lt (tA u10 28 (gI u10 25) a2) fun u11 => oi (gI u11 25) 20 (lt (tZ u11 29 (gI u11 25) (1 : Int32)) fun u12 => lt (sI u12 25 ((gI u12 25) + (1 : Int32))) fun u13 => some (((gI u13 25) - (1 : Int32)), u13)))))) else (f_X10_challenge_L55 u5)) else (f_X10_challenge_L55 u5))))
set_option maxHeartbeats 4000000 in
set_option maxRecDepth 100000 in
theorem c_X10_challenge (l : Launch) (ev : EV) (a1 : Int32) (a2 : Int32) (u : SS) {r : Int32} {u' : SS} (hf : f_X10_challenge a1 a2 u = some (r, u')) : MI wdM l yX10_challenge cX10_challenge 3 (some .int) 2 ev [.ref (ev.2.1 0), .int a1, .int a2] u r u' := by
  refine bodyI (by decide +kernel) rfl (Nat.le_of_ble_eq_true rfl) ?_
  intro p e s m below meth cd ls H locs hc hr hlk hw hl
  generalize hav : (List.toArray [.ref (ev.2.1 0), .int a1, .int a2] : Array Value) = av at hc ⊢
  obtain ⟨hx, hb, hml, hown, hts, hK, hZ⟩ := id hc
  have hl : lv_has ls 3 [(0, .ref (ev.2.1 0)), (1, .int a1), (2, .int a2)] := hl
  have wL55 : ∀ (u : SS) (H : Heap) (locs : List Loc) (ls : Array Slot), VW wdM ev s u H locs → lv_has ls 3 [(0, .ref (ev.2.1 0))] → f_X10_challenge_L55  u = some (r, u') → W p l e (rmk 2) s m av below meth cd H locs 0 0 (ZI wdM ev s below av r u') (F0 m 55 ls []) := by
    intro  u H locs ls hw hl hf
    unfold f_X10_challenge_L55 at hf
    refine lv_aload_n hx hb dX10_challenge_55 rfl (lv_at hl 0 rfl) ?_
    refine lv_bipush (v := (-3 : Int32)) hx hb dX10_challenge_56 (by decide) ?_
    obtain ⟨r9, u8, h7, hf⟩ := ob_some hf
    refine endI okM hw (runV_ok (As := [.int (-3 : Int32)]) (rest := []) okM hc hw (c_X10_refuse l ev (-3 : Int32) u h7 H.size) kv_X10_refuse ml_X10_151 (rvM0 ev u) hl.1 rfl rfl (Nat.le_of_ble_eq_true rfl) (rm_le (by decide) (by decide)) dX10_challenge_58) (fun H locs hw => ?_)
    exact retI hc hr hlk hw hf dX10_challenge_61
  unfold f_X10_challenge at hf
  refine lv_aload_n hx hb dX10_challenge_0 rfl (lv_at hl 0 rfl) ?_
  refine lv_iload_n hx hb dX10_challenge_1 rfl (lv_at hl 1 rfl) ?_
  obtain ⟨r3, u2, h1, hf⟩ := ob_some hf
  refine endI okM hw (runV_ok (As := [.int a1]) (rest := []) okM hc hw (c_X10_isLot l ev a1 u h1 H.size) kv_X10_isLot ml_X10_170 (rvM0 ev u) hl.1 rfl rfl (Nat.le_of_ble_eq_true rfl) (rm_le (by decide) (by decide)) dX10_challenge_2) (fun H locs hw => ?_)
  refine lv_if_ne (tgt := 14) hx hb dX10_challenge_5 (by decide) (fun z => ?_) (fun z => ?_)
  · have hf := it_neg z hf
    refine lv_iload_n hx hb dX10_challenge_14 rfl (lv_at hl 2 rfl) ?_
    refine lv_iconst (v := (0 : Int32)) hx hb dX10_challenge_15 (by decide) ?_
    refine lv_iconst (v := (2 : Int32)) hx hb dX10_challenge_16 (by decide) ?_
    obtain ⟨r6, u5, h4, hf⟩ := ob_some hf
    refine endI okM hw (runS_ok (As := [.int a2, .int (0 : Int32), .int (2 : Int32)]) (rest := []) okM hc hw (c_X10_in l ev a2 (0 : Int32) (2 : Int32) u2 h4 H.size) ks_X10_in ml_X10_144 hl.1 rfl rfl (Nat.le_of_ble_eq_true rfl) (rm_le (by decide) (by decide)) dX10_challenge_17) (fun H locs hw => ?_)
    refine lv_if_ne (tgt := 30) hx hb dX10_challenge_20 (by decide) (fun z => ?_) (fun z => ?_)
    · have hf := it_neg z hf
      refine lv_aload_n hx hb dX10_challenge_30 rfl (lv_at hl 0 rfl) ?_
      refine gM0_52 hc hw fl_X10_356 dX10_challenge_31 ?_
      refine lv_if_eq (tgt := 55) hx hb dX10_challenge_34 (by decide) (fun z => ?_) (fun z => ?_)
      · have hf := it_pos z hf
        exact wL55 u5 H locs ls hw (lv_sub hl [0] rfl) hf
      · have hf := it_neg z hf
        refine lv_aload_n hx hb dX10_challenge_37 rfl (lv_at hl 0 rfl) ?_
        refine gM0_53 hc hw fl_X10_362 dX10_challenge_38 ?_
        refine lv_if_ne (tgt := 55) hx hb dX10_challenge_41 (by decide) (fun z => ?_) (fun z => ?_)
        · have hf := it_neg z hf
          exact wL55 u5 H locs ls hw (lv_sub hl [0] rfl) hf
        · have hf := it_pos z hf
          refine lv_aload_n hx hb dX10_challenge_44 rfl (lv_at hl 0 rfl) ?_
          refine gM0_0 hc hw fl_X10_148 dX10_challenge_45 ?_
          refine lv_aload_n hx hb dX10_challenge_48 rfl (lv_at hl 0 rfl) ?_
          refine gM0_54 hc hw fl_X10_359 dX10_challenge_49 ?_
          refine lv_icmp_le (tgt := 62) hx hb dX10_challenge_52 (by decide) (fun z => ?_) (fun z => ?_)
          · have hf := it_pos z hf
            refine lv_aload_n hx hb dX10_challenge_62 rfl (lv_at hl 0 rfl) ?_
            refine gM0_58 hc hw fl_X10_365 dX10_challenge_63 ?_
            refine lv_bipush (v := (20 : Int32)) hx hb dX10_challenge_66 (by decide) ?_
            refine lv_icmp_ne (tgt := 78) hx hb dX10_challenge_68 (by decide) (fun z => ?_) (fun z => ?_)
            · have hf := it_neg z hf
              refine lv_aload_n hx hb dX10_challenge_78 rfl (lv_at hl 0 rfl) ?_
              refine gM0_59 hc hw fl_X10_112 dX10_challenge_79 ?_
              refine lv_aload_n hx hb dX10_challenge_82 rfl (lv_at hl 0 rfl) ?_
              refine gM0_58 hc hw fl_X10_365 dX10_challenge_83 ?_
              refine lv_iload_n hx hb dX10_challenge_86 rfl (lv_at hl 1 rfl) ?_
              obtain ⟨z, hf⟩ := oi_some hf
              refine tM32 hc hw z dX10_challenge_87 (fun H locs hw => ?_)
              obtain ⟨u10, eu10, hf⟩ := lt_some hf
              have hw := VW.nm eu10 hw
              refine lv_aload_n hx hb dX10_challenge_88 rfl (lv_at hl 0 rfl) ?_
              refine gM0_60 hc hw fl_X10_115 dX10_challenge_89 ?_
              refine lv_aload_n hx hb dX10_challenge_92 rfl (lv_at hl 0 rfl) ?_
              refine gM0_58 hc hw fl_X10_365 dX10_challenge_93 ?_
              refine lv_iload_n hx hb dX10_challenge_96 rfl (lv_at hl 2 rfl) ?_
              obtain ⟨z, hf⟩ := oi_some hf
              refine tM33 hc hw z dX10_challenge_97 (fun H locs hw => ?_)
              obtain ⟨u11, eu11, hf⟩ := lt_some hf
              have hw := VW.nm eu11 hw
              refine lv_aload_n hx hb dX10_challenge_98 rfl (lv_at hl 0 rfl) ?_
              refine gM0_61 hc hw fl_X10_118 dX10_challenge_99 ?_
              refine lv_aload_n hx hb dX10_challenge_102 rfl (lv_at hl 0 rfl) ?_
              refine gM0_58 hc hw fl_X10_365 dX10_challenge_103 ?_
              refine lv_iconst (v := (1 : Int32)) hx hb dX10_challenge_106 (by decide) ?_
              obtain ⟨z, hf⟩ := oi_some hf
              refine tM34 hc hw z dX10_challenge_107 (fun H locs hw => ?_)
              obtain ⟨u12, eu12, hf⟩ := lt_some hf
              have hw := VW.nm eu12 hw
              refine lv_aload_n hx hb dX10_challenge_108 rfl (lv_at hl 0 rfl) ?_
              refine lv_dup hx hb dX10_challenge_109 rfl ?_
              refine gM0_58 hc hw fl_X10_365 dX10_challenge_110 ?_
              refine lv_iconst (v := (1 : Int32)) hx hb dX10_challenge_113 (by decide) ?_
              refine lv_iadd hx hb dX10_challenge_114 ?_
              refine pM0_58 hc hw fl_X10_365 dX10_challenge_115 (fun H locs hw => ?_)
              obtain ⟨u13, eu13, hf⟩ := lt_some hf
              have hw := VW.nm eu13 hw
              refine lv_aload_n hx hb dX10_challenge_118 rfl (lv_at hl 0 rfl) ?_
              refine gM0_58 hc hw fl_X10_365 dX10_challenge_119 ?_
              refine lv_iconst (v := (1 : Int32)) hx hb dX10_challenge_122 (by decide) ?_
              refine lv_isub hx hb dX10_challenge_123 ?_
              exact retI hc hr hlk hw hf dX10_challenge_124
            · have hf := it_pos z hf
              refine lv_aload_n hx hb dX10_challenge_71 rfl (lv_at hl 0 rfl) ?_
              refine lv_bipush (v := (-6 : Int32)) hx hb dX10_challenge_72 (by decide) ?_
              obtain ⟨r16, u15, h14, hf⟩ := ob_some hf
              refine endI okM hw (runV_ok (As := [.int (-6 : Int32)]) (rest := []) okM hc hw (c_X10_refuse l ev (-6 : Int32) u5 h14 H.size) kv_X10_refuse ml_X10_151 (rvM0 ev u5) hl.1 rfl rfl (Nat.le_of_ble_eq_true rfl) (rm_le (by decide) (by decide)) dX10_challenge_74) (fun H locs hw => ?_)
              exact retI hc hr hlk hw hf dX10_challenge_77
          · have hf := it_neg z hf
            exact wL55 u5 H locs ls hw (lv_sub hl [0] rfl) hf
    · have hf := it_pos z hf
      refine lv_aload_n hx hb dX10_challenge_23 rfl (lv_at hl 0 rfl) ?_
      refine lv_bipush (v := (-2 : Int32)) hx hb dX10_challenge_24 (by decide) ?_
      obtain ⟨r19, u18, h17, hf⟩ := ob_some hf
      refine endI okM hw (runV_ok (As := [.int (-2 : Int32)]) (rest := []) okM hc hw (c_X10_refuse l ev (-2 : Int32) u5 h17 H.size) kv_X10_refuse ml_X10_151 (rvM0 ev u5) hl.1 rfl rfl (Nat.le_of_ble_eq_true rfl) (rm_le (by decide) (by decide)) dX10_challenge_26) (fun H locs hw => ?_)
      exact retI hc hr hlk hw hf dX10_challenge_29
  · have hf := it_pos z hf
    refine lv_aload_n hx hb dX10_challenge_8 rfl (lv_at hl 0 rfl) ?_
    refine lv_iconst (v := (-1 : Int32)) hx hb dX10_challenge_9 (by decide) ?_
    obtain ⟨r22, u21, h20, hf⟩ := ob_some hf
    refine endI okM hw (runV_ok (As := [.int (-1 : Int32)]) (rest := []) okM hc hw (c_X10_refuse l ev (-1 : Int32) u2 h20 H.size) kv_X10_refuse ml_X10_151 (rvM0 ev u2) hl.1 rfl rfl (Nat.le_of_ble_eq_true rfl) (rm_le (by decide) (by decide)) dX10_challenge_10) (fun H locs hw => ?_)
    exact retI hc hr hlk hw hf dX10_challenge_13
