def f_J6_bitCount_0f7a4 (a0 : Int32) (u : SS) : Option (Int32 × SS) :=
  lt (a0 - (((a0.toUInt32 >>> ((1 : Int32).toUInt32 &&& Int32.toUInt32 31)).toInt32) &&& (1431655765 : Int32))) fun x1 => lt ((x1 &&& (858993459 : Int32)) + (((x1.toUInt32 >>> ((2 : Int32).toUInt32 &&& Int32.toUInt32 31)).toInt32) &&& (858993459 : Int32))) fun x2 => lt ((x2 + ((x2.toUInt32 >>> ((4 : Int32).toUInt32 &&& Int32.toUInt32 31)).toInt32)) &&& (252645135 : Int32)) fun x3 => lt (x3 + ((x3.toUInt32 >>> ((8 : Int32).toUInt32 &&& Int32.toUInt32 31)).toInt32)) fun x4 => lt (x4 + ((x4.toUInt32 >>> ((16 : Int32).toUInt32 &&& Int32.toUInt32 31)).toInt32)) fun x5 => some ((x5 &&& (63 : Int32)), u)
set_option maxHeartbeats 4000000 in
set_option maxRecDepth 100000 in
theorem c_J6_bitCount_0f7a4 (l : Launch) (ev : EV) (a0 : Int32) (u : SS) {r : Int32} {u' : SS} (hf : f_J6_bitCount_0f7a4 a0 u = some (r, u')) : MI wdB l yJ6_bitCount_0f7a4 cJ6_bitCount_0f7a4 1 (some .int) 0 ev [.int a0] u r u' := by
  refine bodyI (by decide +kernel) rfl (Nat.le_of_ble_eq_true rfl) ?_
  intro p e s m below meth cd ls H locs hc hr hlk hw hl
  generalize hav : (List.toArray [.int a0] : Array Value) = av at hc ⊢
  obtain ⟨hx, hb, hml, hown, hts, hK, hZ⟩ := id hc
  have hl : lv_has ls 1 [(0, .int a0)] := hl
  unfold f_J6_bitCount_0f7a4 at hf
  refine lv_iload_n hx hb dJ6_bitCount_0f7a4_0 rfl (lv_at hl 0 rfl) ?_
  refine lv_iload_n hx hb dJ6_bitCount_0f7a4_1 rfl (lv_at hl 0 rfl) ?_
  refine lv_iconst (v := (1 : Int32)) hx hb dJ6_bitCount_0f7a4_2 (by decide) ?_
  refine lv_iushr (v := (a0.toUInt32 >>> ((1 : Int32).toUInt32 &&& Int32.toUInt32 31)).toInt32) hx hb dJ6_bitCount_0f7a4_3 rfl ?_
  refine lv_ldcw (v := (1431655765 : Int32)) hx hb hown (hts _ ct_J6_265) dJ6_bitCount_0f7a4_4 ?_
  refine lv_iand hx hb dJ6_bitCount_0f7a4_7 ?_
  refine lv_isub hx hb dJ6_bitCount_0f7a4_8 ?_
  obtain ⟨x1, ex1, hf⟩ := lt_some hf
  refine tope ex1 ?_
  refine lv_istore_n (lv' := [(0, .int x1)]) hx hb dJ6_bitCount_0f7a4_9 rfl hl (by decide) rfl (fun ls hl => ?_)
  refine lv_iload_n hx hb dJ6_bitCount_0f7a4_10 rfl (lv_at hl 0 rfl) ?_
  refine lv_ldcw (v := (858993459 : Int32)) hx hb hown (hts _ ct_J6_266) dJ6_bitCount_0f7a4_11 ?_
  refine lv_iand hx hb dJ6_bitCount_0f7a4_14 ?_
  refine lv_iload_n hx hb dJ6_bitCount_0f7a4_15 rfl (lv_at hl 0 rfl) ?_
  refine lv_iconst (v := (2 : Int32)) hx hb dJ6_bitCount_0f7a4_16 (by decide) ?_
  refine lv_iushr (v := (x1.toUInt32 >>> ((2 : Int32).toUInt32 &&& Int32.toUInt32 31)).toInt32) hx hb dJ6_bitCount_0f7a4_17 rfl ?_
  refine lv_ldcw (v := (858993459 : Int32)) hx hb hown (hts _ ct_J6_266) dJ6_bitCount_0f7a4_18 ?_
  refine lv_iand hx hb dJ6_bitCount_0f7a4_21 ?_
  refine lv_iadd hx hb dJ6_bitCount_0f7a4_22 ?_
  obtain ⟨x2, ex2, hf⟩ := lt_some hf
  refine tope ex2 ?_
  refine lv_istore_n (lv' := [(0, .int x2)]) hx hb dJ6_bitCount_0f7a4_23 rfl hl (by decide) rfl (fun ls hl => ?_)
  refine lv_iload_n hx hb dJ6_bitCount_0f7a4_24 rfl (lv_at hl 0 rfl) ?_
  refine lv_iload_n hx hb dJ6_bitCount_0f7a4_25 rfl (lv_at hl 0 rfl) ?_
  refine lv_iconst (v := (4 : Int32)) hx hb dJ6_bitCount_0f7a4_26 (by decide) ?_
  refine lv_iushr (v := (x2.toUInt32 >>> ((4 : Int32).toUInt32 &&& Int32.toUInt32 31)).toInt32) hx hb dJ6_bitCount_0f7a4_27 rfl ?_
  refine lv_iadd hx hb dJ6_bitCount_0f7a4_28 ?_
  refine lv_ldcw (v := (252645135 : Int32)) hx hb hown (hts _ ct_J6_267) dJ6_bitCount_0f7a4_29 ?_
  refine lv_iand hx hb dJ6_bitCount_0f7a4_32 ?_
  obtain ⟨x3, ex3, hf⟩ := lt_some hf
  refine tope ex3 ?_
  refine lv_istore_n (lv' := [(0, .int x3)]) hx hb dJ6_bitCount_0f7a4_33 rfl hl (by decide) rfl (fun ls hl => ?_)
  refine lv_iload_n hx hb dJ6_bitCount_0f7a4_34 rfl (lv_at hl 0 rfl) ?_
  refine lv_iload_n hx hb dJ6_bitCount_0f7a4_35 rfl (lv_at hl 0 rfl) ?_
  refine lv_bipush (v := (8 : Int32)) hx hb dJ6_bitCount_0f7a4_36 (by decide) ?_
  refine lv_iushr (v := (x3.toUInt32 >>> ((8 : Int32).toUInt32 &&& Int32.toUInt32 31)).toInt32) hx hb dJ6_bitCount_0f7a4_38 rfl ?_
  refine lv_iadd hx hb dJ6_bitCount_0f7a4_39 ?_
  obtain ⟨x4, ex4, hf⟩ := lt_some hf
  refine tope ex4 ?_
  refine lv_istore_n (lv' := [(0, .int x4)]) hx hb dJ6_bitCount_0f7a4_40 rfl hl (by decide) rfl (fun ls hl => ?_)
  refine lv_iload_n hx hb dJ6_bitCount_0f7a4_41 rfl (lv_at hl 0 rfl) ?_
  refine lv_iload_n hx hb dJ6_bitCount_0f7a4_42 rfl (lv_at hl 0 rfl) ?_
  refine lv_bipush (v := (16 : Int32)) hx hb dJ6_bitCount_0f7a4_43 (by decide) ?_
  refine lv_iushr (v := (x4.toUInt32 >>> ((16 : Int32).toUInt32 &&& Int32.toUInt32 31)).toInt32) hx hb dJ6_bitCount_0f7a4_45 rfl ?_
  refine lv_iadd hx hb dJ6_bitCount_0f7a4_46 ?_
  obtain ⟨x5, ex5, hf⟩ := lt_some hf
  refine tope ex5 ?_
  refine lv_istore_n (lv' := [(0, .int x5)]) hx hb dJ6_bitCount_0f7a4_47 rfl hl (by decide) rfl (fun ls hl => ?_)
  refine lv_iload_n hx hb dJ6_bitCount_0f7a4_48 rfl (lv_at hl 0 rfl) ?_
  refine lv_bipush (v := (63 : Int32)) hx hb dJ6_bitCount_0f7a4_49 (by decide) ?_
  refine lv_iand hx hb dJ6_bitCount_0f7a4_51 ?_
  exact retI hc hr hlk hw hf dJ6_bitCount_0f7a4_52
def f_X8_costOf_L107 (k28 : Int32 → Int32 → Int32 → Int64 → Int64 → Int32 → SS → Option (Int64 × SS)) (b1 : Int32) (b2 : Int32) (b3 : Int32) (b4 : Int64) (b6 : Int64) (b8 : Int32) (u : SS) : Option (Int64 × SS) :=
  lt (b8 + (1 : Int32)) fun x5 => k28 b1 b2 b3 b4 b6 x5 u
def b_X8_costOf_L28 (k28 : Int32 → Int32 → Int32 → Int64 → Int64 → Int32 → SS → Option (Int64 × SS)) (b1 : Int32) (b2 : Int32) (b3 : Int32) (b4 : Int64) (b6 : Int64) (b8 : Int32) (u : SS) : Option (Int64 × SS) :=
  if (6 : Int32) ≤ b8 then (oi ((b1 * (7 : Int32)) + b3) 56 (lt (b4 * (((100 : Int32) - (gA u 22 ((b1 * (7 : Int32)) + b3).toNatClampNeg)).toInt64)) fun x4 => some ((b6 + (((x4 + (99 : Int64)) / (100 : Int64)) <<< ((26 : Int32).toInt64 &&& 63))), u))) else (if ((b2 >>> (b8 &&& 31)) &&& (1 : Int32)) = (1 : Int32) then (ob (f_X9_cell b1 b8 u) fun r8 u7 => oi r8 48 (if (gA u7 23 r8.toNatClampNeg) = (-1 : Int32) then (some ((9223372036854775807 : Int64), u7)) else (oi r8 48 (lt (b4 + ((gA u7 24 r8.toNatClampNeg).toInt64)) fun x9 => oi r8 48 (oi b8 6 (lt (b6 + ((((gA u7 23 r8.toNatClampNeg).toInt64) <<< ((20 : Int32).toInt64 &&& 63)) + ((b1 * (dgt b8)).toInt64))) fun x10 => f_X8_costOf_L107 k28 b1 b2 b3 x9 x10 b8 u7)))))) else (f_X8_costOf_L107 k28 b1 b2 b3 b4 b6 b8 u))
def f_X8_costOf_L28 : Nat → Int32 → Int32 → Int32 → Int64 → Int64 → Int32 → SS → Option (Int64 × SS)
  | 0 => fun _ _ _ _ _ _ _ => none
  | n + 1 => b_X8_costOf_L28 (f_X8_costOf_L28 n)
def f_X8_costOf (a1 : Int32) (a2 : Int32) (u : SS) : Option (Int64 × SS) :=
  ob (f_J6_bitCount_0f7a4 a2 u) fun r3 u2 => oi a1 8 (if r3 ≤ (gA u2 20 a1.toNatClampNeg) then (f_X8_costOf_L28 FU a1 a2 r3 (0 : Int64) (0 : Int64) (0 : Int32) u2) else (some ((9223372036854775807 : Int64), u2)))
set_option maxHeartbeats 4000000 in
set_option maxRecDepth 100000 in
theorem c_X8_costOf (l : Launch) (ev : EV) (a1 : Int32) (a2 : Int32) (u : SS) {r : Int64} {u' : SS} (hf : f_X8_costOf a1 a2 u = some (r, u')) : ML wdB l yX8_costOf cX8_costOf 10 (some .long) 1 ev [.ref (ev.2.1 5), .int a1, .int a2] u r u' := by
  refine bodyL (by decide +kernel) rfl (Nat.le_of_ble_eq_true rfl) ?_
  intro p e s m below meth cd ls H locs hc hr hlk hw hl
  generalize hav : (List.toArray [.ref (ev.2.1 5), .int a1, .int a2] : Array Value) = av at hc ⊢
  obtain ⟨hx, hb, hml, hown, hts, hK, hZ⟩ := id hc
  have hl : lv_has ls 10 [(0, .ref (ev.2.1 5)), (1, .int a1), (2, .int a2)] := hl
  have wL107 : ∀ (k28 : Int32 → Int32 → Int32 → Int64 → Int64 → Int32 → SS → Option (Int64 × SS)) (hk28 : ∀ (b1 : Int32) (b2 : Int32) (b3 : Int32) (b4 : Int64) (b6 : Int64) (b8 : Int32) (u : SS) (H : Heap) (locs : List Loc) (ls : Array Slot), VW wdB ev s u H locs → lv_has ls 10 [(0, .ref (ev.2.1 5)), (1, .int b1), (2, .int b2), (3, .int b3), (4, .long b4), (6, .long b6), (8, .int b8)] → k28 b1 b2 b3 b4 b6 b8 u = some (r, u') → W p l e (rmk 1) s m av below meth cd H locs 0 0 (ZL wdB ev s below av r u') (F0 m 28 ls [])) (b1 : Int32) (b2 : Int32) (b3 : Int32) (b4 : Int64) (b6 : Int64) (b8 : Int32) (u : SS) (H : Heap) (locs : List Loc) (ls : Array Slot), VW wdB ev s u H locs → lv_has ls 10 [(0, .ref (ev.2.1 5)), (1, .int b1), (2, .int b2), (3, .int b3), (4, .long b4), (6, .long b6), (8, .int b8)] → f_X8_costOf_L107 k28 b1 b2 b3 b4 b6 b8 u = some (r, u') → W p l e (rmk 1) s m av below meth cd H locs 0 0 (ZL wdB ev s below av r u') (F0 m 107 ls []) := by
    intro k28 hk28 b1 b2 b3 b4 b6 b8 u H locs ls hw hl hf
    unfold f_X8_costOf_L107 at hf
    obtain ⟨x5, ex5, hf⟩ := lt_some hf
    refine lv_iinc (v := x5) (lv' := [(8, .int x5), (0, .ref (ev.2.1 5)), (1, .int b1), (2, .int b2), (3, .int b3), (4, .long b4), (6, .long b6)]) hx hb dX8_costOf_107 hl (k := 6) rfl (by rw [ex5]; rfl) (by decide) rfl (fun ls hl => ?_)
    refine lv_goto (tgt := 28) hx hb dX8_costOf_110 (by decide) ?_
    exact hk28 b1 b2 b3 b4 b6 x5 u H locs ls hw (lv_sub hl [1, 2, 3, 4, 5, 6, 0] rfl) hf
  have wL28 : ∀ (n : Nat) (b1 : Int32) (b2 : Int32) (b3 : Int32) (b4 : Int64) (b6 : Int64) (b8 : Int32) (u : SS) (H : Heap) (locs : List Loc) (ls : Array Slot), VW wdB ev s u H locs → lv_has ls 10 [(0, .ref (ev.2.1 5)), (1, .int b1), (2, .int b2), (3, .int b3), (4, .long b4), (6, .long b6), (8, .int b8)] → f_X8_costOf_L28 n b1 b2 b3 b4 b6 b8 u = some (r, u') → W p l e (rmk 1) s m av below meth cd H locs 0 0 (ZL wdB ev s below av r u') (F0 m 28 ls []) := by
    intro n
    induction n with
    | zero =>
      intro b1 b2 b3 b4 b6 b8 u H locs ls hw hl hf
      cases hf
    | succ n hk28 =>
      intro b1 b2 b3 b4 b6 b8 u H locs ls hw hl hf
      have hf : b_X8_costOf_L28 (f_X8_costOf_L28 n) b1 b2 b3 b4 b6 b8 u = some (r, u') := hf
      unfold b_X8_costOf_L28 at hf
      refine lv_iload hx hb dX8_costOf_28 (lv_at hl 6 rfl) ?_
      refine lv_bipush (v := (6 : Int32)) hx hb dX8_costOf_30 (by decide) ?_
      refine lv_icmp_ge (tgt := 113) hx hb dX8_costOf_32 (by decide) (fun z => ?_) (fun z => ?_)
      · have hf := it_pos z hf
        refine lv_lload hx hb dX8_costOf_113 (lv_at hl 4 rfl) ?_
        refine lv_bipush (v := (100 : Int32)) hx hb dX8_costOf_115 (by decide) ?_
        refine lv_aload_n hx hb dX8_costOf_117 rfl (lv_at hl 0 rfl) ?_
        refine gB5_4 hc hw fl_X8_20 dX8_costOf_118 ?_
        refine lv_iload_n hx hb dX8_costOf_121 rfl (lv_at hl 1 rfl) ?_
        refine lv_bipush (v := (7 : Int32)) hx hb dX8_costOf_122 (by decide) ?_
        refine lv_imul hx hb dX8_costOf_124 ?_
        refine lv_iload_n hx hb dX8_costOf_125 rfl (lv_at hl 3 rfl) ?_
        refine lv_iadd hx hb dX8_costOf_126 ?_
        obtain ⟨z, hf⟩ := oi_some hf
        refine aB37 hc hw z dX8_costOf_127 ?_
        refine lv_isub hx hb dX8_costOf_128 ?_
        refine lv_i2l (v := ((100 : Int32) - (gA u 22 ((b1 * (7 : Int32)) + b3).toNatClampNeg)).toInt64) hx hb dX8_costOf_129 rfl ?_
        refine lv_lmul hx hb dX8_costOf_130 ?_
        obtain ⟨x4, ex4, hf⟩ := lt_some hf
        refine topel ex4 ?_
        refine lv_lstore (lv' := [(8, .long x4), (0, .ref (ev.2.1 5)), (1, .int b1), (2, .int b2), (3, .int b3), (4, .long b4), (6, .long b6)]) hx hb dX8_costOf_131 hl (by decide) rfl (fun ls hl => ?_)
        refine lv_lload hx hb dX8_costOf_133 (lv_at hl 6 rfl) ?_
        refine lv_lload hx hb dX8_costOf_135 (lv_at hl 0 rfl) ?_
        refine lv_ldc2 (v := (99 : Int64)) hx hb hown (hts _ ct_X8_80) dX8_costOf_137 ?_
        refine lv_ladd hx hb dX8_costOf_140 ?_
        refine lv_ldc2 (v := (100 : Int64)) hx hb hown (hts _ ct_X8_82) dX8_costOf_141 ?_
        refine lv_ldiv hx hb dX8_costOf_144 (by decide) ?_
        refine lv_bipush (v := (26 : Int32)) hx hb dX8_costOf_145 (by decide) ?_
        refine lv_lshl (v := (((x4 + (99 : Int64)) / (100 : Int64)) <<< ((26 : Int32).toInt64 &&& 63))) hx hb dX8_costOf_147 rfl ?_
        refine lv_ladd hx hb dX8_costOf_148 ?_
        exact retL hc hr hlk hw hf dX8_costOf_149
      · have hf := it_neg z hf
        refine lv_iload_n hx hb dX8_costOf_35 rfl (lv_at hl 2 rfl) ?_
        refine lv_iload hx hb dX8_costOf_36 (lv_at hl 6 rfl) ?_
        refine lv_ishr hx hb dX8_costOf_38 ?_
        refine lv_iconst (v := (1 : Int32)) hx hb dX8_costOf_39 (by decide) ?_
        refine lv_iand hx hb dX8_costOf_40 ?_
        refine lv_iconst (v := (1 : Int32)) hx hb dX8_costOf_41 (by decide) ?_
        refine lv_icmp_ne (tgt := 107) hx hb dX8_costOf_42 (by decide) (fun z => ?_) (fun z => ?_)
        · have hf := it_neg z hf
          exact wL107 (f_X8_costOf_L28 n) hk28 b1 b2 b3 b4 b6 b8 u H locs ls hw (lv_sub hl [0, 1, 2, 3, 4, 5, 6] rfl) hf
        · have hf := it_pos z hf
          refine lv_iload_n hx hb dX8_costOf_45 rfl (lv_at hl 1 rfl) ?_
          refine lv_iload hx hb dX8_costOf_46 (lv_at hl 6 rfl) ?_
          obtain ⟨r8, u7, h6, hf⟩ := ob_some hf
          refine endI okB hw (runN_ok (As := [.int b1, .int b8]) (rest := []) okB hc hw (c_X9_cell l ev b1 b8 u h6 H.size) ks_X9_cell (hZ.2.2 ("BidsJudged$Whole", 42) (by decide)) hl.1 rfl rfl (Nat.le_of_ble_eq_true rfl) (rm_le (by decide) (by decide)) dX8_costOf_48) (fun H locs hw => ?_)
          refine lv_istore (lv' := [(9, .int r8), (0, .ref (ev.2.1 5)), (1, .int b1), (2, .int b2), (3, .int b3), (4, .long b4), (6, .long b6), (8, .int b8)]) hx hb dX8_costOf_51 hl (by decide) rfl (fun ls hl => ?_)
          refine lv_aload_n hx hb dX8_costOf_53 rfl (lv_at hl 1 rfl) ?_
          refine gB5_5 hc hw fl_X8_23 dX8_costOf_54 ?_
          refine lv_iload hx hb dX8_costOf_57 (lv_at hl 0 rfl) ?_
          obtain ⟨z, hf⟩ := oi_some hf
          refine aB38 hc hw z dX8_costOf_59 ?_
          refine lv_iconst (v := (-1 : Int32)) hx hb dX8_costOf_60 (by decide) ?_
          refine lv_icmp_ne (tgt := 68) hx hb dX8_costOf_61 (by decide) (fun z => ?_) (fun z => ?_)
          · have hf := it_neg z hf
            refine lv_lload hx hb dX8_costOf_68 (lv_at hl 5 rfl) ?_
            refine lv_aload_n hx hb dX8_costOf_70 rfl (lv_at hl 1 rfl) ?_
            refine gB5_6 hc hw fl_X8_26 dX8_costOf_71 ?_
            refine lv_iload hx hb dX8_costOf_74 (lv_at hl 0 rfl) ?_
            obtain ⟨z, hf⟩ := oi_some hf
            refine aB39 hc hw z dX8_costOf_76 ?_
            refine lv_i2l (v := (gA u7 24 r8.toNatClampNeg).toInt64) hx hb dX8_costOf_77 rfl ?_
            refine lv_ladd hx hb dX8_costOf_78 ?_
            obtain ⟨x9, ex9, hf⟩ := lt_some hf
            refine topel ex9 ?_
            refine lv_lstore (lv' := [(4, .long x9), (9, .int r8), (0, .ref (ev.2.1 5)), (1, .int b1), (2, .int b2), (3, .int b3), (6, .long b6), (8, .int b8)]) hx hb dX8_costOf_79 hl (by decide) rfl (fun ls hl => ?_)
            refine lv_lload hx hb dX8_costOf_81 (lv_at hl 6 rfl) ?_
            refine lv_aload_n hx hb dX8_costOf_83 rfl (lv_at hl 2 rfl) ?_
            refine gB5_5 hc hw fl_X8_23 dX8_costOf_84 ?_
            refine lv_iload hx hb dX8_costOf_87 (lv_at hl 1 rfl) ?_
            obtain ⟨z, hf⟩ := oi_some hf
            refine aB38 hc hw z dX8_costOf_89 ?_
            refine lv_i2l (v := (gA u7 23 r8.toNatClampNeg).toInt64) hx hb dX8_costOf_90 rfl ?_
            refine lv_bipush (v := (20 : Int32)) hx hb dX8_costOf_91 (by decide) ?_
            refine lv_lshl (v := (((gA u7 23 r8.toNatClampNeg).toInt64) <<< ((20 : Int32).toInt64 &&& 63))) hx hb dX8_costOf_93 rfl ?_
            refine lv_iload_n hx hb dX8_costOf_94 rfl (lv_at hl 3 rfl) ?_
            refine va_gets hx hb hZ.1 hw.2.2 hown (hts _ fl_X8_77) (fun _ h => h) dX8_costOf_95 ?_
            refine lv_iload hx hb dX8_costOf_98 (lv_at hl 7 rfl) ?_
            obtain ⟨z, hf⟩ := oi_some hf
            refine va_ti hx hb hZ.2.1 hw.2.2 z (dig_dgt z) dX8_costOf_100 ?_
            refine lv_imul hx hb dX8_costOf_101 ?_
            refine lv_i2l (v := (b1 * (dgt b8)).toInt64) hx hb dX8_costOf_102 rfl ?_
            refine lv_ladd hx hb dX8_costOf_103 ?_
            refine lv_ladd hx hb dX8_costOf_104 ?_
            obtain ⟨x10, ex10, hf⟩ := lt_some hf
            refine topel ex10 ?_
            refine lv_lstore (lv' := [(6, .long x10), (4, .long x9), (9, .int r8), (0, .ref (ev.2.1 5)), (1, .int b1), (2, .int b2), (3, .int b3), (8, .int b8)]) hx hb dX8_costOf_105 hl (by decide) rfl (fun ls hl => ?_)
            exact wL107 (f_X8_costOf_L28 n) hk28 b1 b2 b3 x9 x10 b8 u7 H locs ls hw (lv_sub hl [3, 4, 5, 6, 1, 0, 7] rfl) hf
          · have hf := it_pos z hf
            refine lv_ldc2 (v := (9223372036854775807 : Int64)) hx hb hown (hts _ ct_X8_46) dX8_costOf_64 ?_
            exact retL hc hr hlk hw hf dX8_costOf_67
  unfold f_X8_costOf at hf
  refine lv_iload_n hx hb dX8_costOf_0 rfl (lv_at hl 2 rfl) ?_
  obtain ⟨r3, u2, h1, hf⟩ := ob_some hf
  refine endI okB hw (runS_ok (As := [.int a2]) (rest := []) okB hc hw (c_J6_bitCount_0f7a4 l ev a2 u h1 H.size) ks_J6_bitCount_0f7a4 ml_X8_71 hl.1 rfl rfl (Nat.le_of_ble_eq_true rfl) (rm_le (by decide) (by decide)) dX8_costOf_1) (fun H locs hw => ?_)
  refine lv_istore_n (lv' := [(3, .int r3), (0, .ref (ev.2.1 5)), (1, .int a1), (2, .int a2)]) hx hb dX8_costOf_4 rfl hl (by decide) rfl (fun ls hl => ?_)
  refine lv_iload_n hx hb dX8_costOf_5 rfl (lv_at hl 0 rfl) ?_
  refine lv_aload_n hx hb dX8_costOf_6 rfl (lv_at hl 1 rfl) ?_
  refine gB5_0 hc hw fl_X8_11 dX8_costOf_7 ?_
  refine lv_iload_n hx hb dX8_costOf_10 rfl (lv_at hl 2 rfl) ?_
  obtain ⟨z, hf⟩ := oi_some hf
  refine aB35 hc hw z dX8_costOf_11 ?_
  refine lv_icmp_le (tgt := 19) hx hb dX8_costOf_12 (by decide) (fun z => ?_) (fun z => ?_)
  · have hf := it_pos z hf
    refine lv_lconst (v := (0 : Int64)) hx hb dX8_costOf_19 (by decide) ?_
    refine lv_lstore (lv' := [(4, .long (0 : Int64)), (3, .int r3), (0, .ref (ev.2.1 5)), (1, .int a1), (2, .int a2)]) hx hb dX8_costOf_20 hl (by decide) rfl (fun ls hl => ?_)
    refine lv_lconst (v := (0 : Int64)) hx hb dX8_costOf_22 (by decide) ?_
    refine lv_lstore (lv' := [(6, .long (0 : Int64)), (4, .long (0 : Int64)), (3, .int r3), (0, .ref (ev.2.1 5)), (1, .int a1), (2, .int a2)]) hx hb dX8_costOf_23 hl (by decide) rfl (fun ls hl => ?_)
    refine lv_iconst (v := (0 : Int32)) hx hb dX8_costOf_25 (by decide) ?_
    refine lv_istore (lv' := [(8, .int (0 : Int32)), (6, .long (0 : Int64)), (4, .long (0 : Int64)), (3, .int r3), (0, .ref (ev.2.1 5)), (1, .int a1), (2, .int a2)]) hx hb dX8_costOf_26 hl (by decide) rfl (fun ls hl => ?_)
    exact wL28 FU a1 a2 r3 (0 : Int64) (0 : Int64) (0 : Int32) u2 H locs ls hw (lv_sub hl [4, 5, 6, 3, 2, 1, 0] rfl) hf
  · have hf := it_neg z hf
    refine lv_ldc2 (v := (9223372036854775807 : Int64)) hx hb hown (hts _ ct_X8_46) dX8_costOf_15 ?_
    exact retL hc hr hlk hw hf dX8_costOf_18
def f_X8_search_L108 (k68 : Int32 → Int64 → Int32 → SS → Option SS) (b1 : Int32) (b2 : Int64) (b4 : Int32) (u : SS) : Option SS :=
  lt (b4 + (1 : Int32)) fun x6 => k68 b1 b2 x6 u
def b_X8_search_L68 (k68 : Int32 → Int64 → Int32 → SS → Option SS) (b1 : Int32) (b2 : Int64) (b4 : Int32) (u : SS) : Option SS :=
  if (64 : Int32) ≤ b4 then (ov (f_X8_keep b2 b1 u) fun u5 => some u5) else (oi b4 64 (if (lg_cmp (gL u 6 b4.toNatClampNeg) (9223372036854775807 : Int64)) = 0 then (f_X8_search_L108 k68 b1 b2 b4 u) else (oi b4 64 (ob (f_X8_costOfRest b4 b1 u) fun r9 u8 => lt (if ((gL u 6 b4.toNatClampNeg) + r9) < b2 then ((gL u 6 b4.toNatClampNeg) + r9) else b2) fun x10 => f_X8_search_L108 k68 b1 x10 b4 u8))))
def f_X8_search_L68 : Nat → Int32 → Int64 → Int32 → SS → Option SS
  | 0 => fun _ _ _ _ => none
  | n + 1 => b_X8_search_L68 (f_X8_search_L68 n)
def b_X8_search_L27 (k19 : Int32 → Int32 → SS → Option SS) (k27 : Int32 → Int32 → Int32 → SS → Option SS) (b1 : Int32) (b2 : Int32) (b3 : Int32) (u : SS) : Option SS :=
  if (64 : Int32) ≤ b3 then (ov (f_X8_addBidder u) fun u12 => lt (b2 + (1 : Int32)) fun x13 => k19 b1 x13 u12) else (ob (f_X8_costOf b2 b3 u) fun r16 u15 => oi b3 64 (lt (tL u15 7 b3 r16) fun u17 => lt (b3 + (1 : Int32)) fun x18 => k27 b1 b2 x18 u17))
def f_X8_search_L27 (k19 : Int32 → Int32 → SS → Option SS) : Nat → Int32 → Int32 → Int32 → SS → Option SS
  | 0 => fun _ _ _ _ => none
  | n + 1 => b_X8_search_L27 k19 (f_X8_search_L27 k19 n)
def b_X8_search_L19 (k19 : Int32 → Int32 → SS → Option SS) (b1 : Int32) (b2 : Int32) (u : SS) : Option SS :=
  if (8 : Int32) ≤ b2 then (f_X8_search_L68 FU b1 (9223372036854775807 : Int64) (0 : Int32) u) else (f_X8_search_L27 k19 FU b1 b2 (1 : Int32) u)
def f_X8_search_L19 : Nat → Int32 → Int32 → SS → Option SS
  | 0 => fun _ _ _ => none
  | n + 1 => b_X8_search_L19 (f_X8_search_L19 n)
def f_X8_search (a1 : Int32) (u : SS) : Option SS :=
  ov (f_J7_fill_d0a16_40 (9223372036854775807 : Int64) u) fun u2 => oi (0 : Int32) 64 (lt (tL u2 6 (0 : Int32) (0 : Int64)) fun u3 => f_X8_search_L19 FU a1 (0 : Int32) u3)
set_option maxHeartbeats 4000000 in
set_option maxRecDepth 100000 in
theorem c_X8_search (l : Launch) (ev : EV) (a1 : Int32) (u : SS) {u' : SS} (hf : f_X8_search a1 u = some u') : MV wdB l yX8_search cX8_search 5 none 2 ev [.ref (ev.2.1 5), .int a1] u u' := by
  refine bodyV (by decide +kernel) rfl (Nat.le_of_ble_eq_true rfl) ?_
  intro p e s m below meth cd ls H locs hc hr hlk hw hl
  generalize hav : (List.toArray [.ref (ev.2.1 5), .int a1] : Array Value) = av at hc ⊢
  obtain ⟨hx, hb, hml, hown, hts, hK, hZ⟩ := id hc
  have hl : lv_has ls 5 [(0, .ref (ev.2.1 5)), (1, .int a1)] := hl
  have wL108 : ∀ (k68 : Int32 → Int64 → Int32 → SS → Option SS) (hk68 : ∀ (b1 : Int32) (b2 : Int64) (b4 : Int32) (u : SS) (H : Heap) (locs : List Loc) (ls : Array Slot), VW wdB ev s u H locs → lv_has ls 5 [(0, .ref (ev.2.1 5)), (1, .int b1), (2, .long b2), (4, .int b4)] → k68 b1 b2 b4 u = some u' → W p l e (rmk 2) s m av below meth cd H locs 0 0 (ZV wdB ev s below av u') (F0 m 68 ls [])) (b1 : Int32) (b2 : Int64) (b4 : Int32) (u : SS) (H : Heap) (locs : List Loc) (ls : Array Slot), VW wdB ev s u H locs → lv_has ls 5 [(0, .ref (ev.2.1 5)), (1, .int b1), (2, .long b2), (4, .int b4)] → f_X8_search_L108 k68 b1 b2 b4 u = some u' → W p l e (rmk 2) s m av below meth cd H locs 0 0 (ZV wdB ev s below av u') (F0 m 108 ls []) := by
    intro k68 hk68 b1 b2 b4 u H locs ls hw hl hf
    unfold f_X8_search_L108 at hf
    obtain ⟨x6, ex6, hf⟩ := lt_some hf
    refine lv_iinc (v := x6) (lv' := [(4, .int x6), (0, .ref (ev.2.1 5)), (1, .int b1), (2, .long b2)]) hx hb dX8_search_108 hl (k := 3) rfl (by rw [ex6]; rfl) (by decide) rfl (fun ls hl => ?_)
    refine lv_goto (tgt := 68) hx hb dX8_search_111 (by decide) ?_
    exact hk68 b1 b2 x6 u H locs ls hw (lv_sub hl [1, 2, 3, 0] rfl) hf
  have wL68 : ∀ (n : Nat) (b1 : Int32) (b2 : Int64) (b4 : Int32) (u : SS) (H : Heap) (locs : List Loc) (ls : Array Slot), VW wdB ev s u H locs → lv_has ls 5 [(0, .ref (ev.2.1 5)), (1, .int b1), (2, .long b2), (4, .int b4)] → f_X8_search_L68 n b1 b2 b4 u = some u' → W p l e (rmk 2) s m av below meth cd H locs 0 0 (ZV wdB ev s below av u') (F0 m 68 ls []) := by
    intro n
    induction n with
    | zero =>
      intro b1 b2 b4 u H locs ls hw hl hf
      cases hf
    | succ n hk68 =>
      intro b1 b2 b4 u H locs ls hw hl hf
      have hf : b_X8_search_L68 (f_X8_search_L68 n) b1 b2 b4 u = some u' := hf
      unfold b_X8_search_L68 at hf
      refine lv_iload hx hb dX8_search_68 (lv_at hl 3 rfl) ?_
      refine lv_bipush (v := (64 : Int32)) hx hb dX8_search_70 (by decide) ?_
      refine lv_icmp_ge (tgt := 114) hx hb dX8_search_72 (by decide) (fun z => ?_) (fun z => ?_)
      · have hf := it_pos z hf
        refine lv_aload_n hx hb dX8_search_114 rfl (lv_at hl 0 rfl) ?_
        refine lv_lload_n hx hb dX8_search_115 rfl (lv_at hl 2 rfl) ?_
        refine lv_iload_n hx hb dX8_search_116 rfl (lv_at hl 1 rfl) ?_
        obtain ⟨u5, h4, hf⟩ := ov_some hf
        refine endV okB hw (runV_ok (As := [.long b2, .int b1]) (rest := []) okB hc hw (c_X8_keep l ev b2 b1 u h4 H.size) kv_X8_keep ml_X8_67 (rvB5 ev u) hl.1 rfl rfl (Nat.le_of_ble_eq_true rfl) (rm_le (by decide) (by decide)) dX8_search_117) (fun H locs hw => ?_)
        exact retV hc hr hlk hw hf dX8_search_120
      · have hf := it_neg z hf
        refine lv_aload_n hx hb dX8_search_75 rfl (lv_at hl 0 rfl) ?_
        refine gB5_7 hc hw fl_X8_29 dX8_search_76 ?_
        refine lv_iload hx hb dX8_search_79 (lv_at hl 3 rfl) ?_
        obtain ⟨z, hf⟩ := oi_some hf
        refine aB40 hc hw z dX8_search_81 ?_
        refine lv_ldc2 (v := (9223372036854775807 : Int64)) hx hb hown (hts _ ct_X8_46) dX8_search_82 ?_
        refine W.lcmp hx hb dX8_search_85 ?_
        refine lv_if_eq (tgt := 108) hx hb dX8_search_86 (by decide) (fun z => ?_) (fun z => ?_)
        · have hf := it_pos z hf
          exact wL108 (f_X8_search_L68 n) hk68 b1 b2 b4 u H locs ls hw (lv_sub hl [0, 1, 2, 3] rfl) hf
        · have hf := it_neg z hf
          refine lv_lload_n hx hb dX8_search_89 rfl (lv_at hl 2 rfl) ?_
          refine lv_aload_n hx hb dX8_search_90 rfl (lv_at hl 0 rfl) ?_
          refine gB5_7 hc hw fl_X8_29 dX8_search_91 ?_
          refine lv_iload hx hb dX8_search_94 (lv_at hl 3 rfl) ?_
          obtain ⟨z, hf⟩ := oi_some hf
          refine aB40 hc hw z dX8_search_96 ?_
          refine lv_iload hx hb dX8_search_97 (lv_at hl 3 rfl) ?_
          refine lv_iload_n hx hb dX8_search_99 rfl (lv_at hl 1 rfl) ?_
          obtain ⟨r9, u8, h7, hf⟩ := ob_some hf
          refine endL okB hw (runS_ok (As := [.int b4, .int b1]) (rest := [.long (gL u 6 b4.toNatClampNeg), .long b2]) okB hc hw (c_X8_costOfRest l ev b4 b1 u h7 H.size) ks_X8_costOfRest ml_X8_58 hl.1 rfl rfl (Nat.le_of_ble_eq_true rfl) (rm_le (by decide) (by decide)) dX8_search_100) (fun H locs hw => ?_)
          refine lv_ladd hx hb dX8_search_103 ?_
          refine va_mmin_long hx hb (hml.trans hl.1.symm) hown (hts _ ml_X8_61) (hts _ va_mmin_long_st) (hts _ math_in) (hts _ va_mmin_long_cd) (by decide) (Nat.le_of_ble_eq_true rfl) (Nat.zero_le _) (Nat.zero_le _) dX8_search_104 ?_
          obtain ⟨x10, ex10, hf⟩ := lt_some hf
          refine topel ex10 ?_
          refine lv_lstore_n (lv' := [(2, .long x10), (0, .ref (ev.2.1 5)), (1, .int b1), (4, .int b4)]) hx hb dX8_search_107 rfl hl (by decide) rfl (fun ls hl => ?_)
          exact wL108 (f_X8_search_L68 n) hk68 b1 x10 b4 u8 H locs ls hw (lv_sub hl [1, 2, 0, 3] rfl) hf
  have wL27 : ∀ (k19 : Int32 → Int32 → SS → Option SS) (hk19 : ∀ (b1 : Int32) (b2 : Int32) (u : SS) (H : Heap) (locs : List Loc) (ls : Array Slot), VW wdB ev s u H locs → lv_has ls 5 [(0, .ref (ev.2.1 5)), (1, .int b1), (2, .int b2)] → k19 b1 b2 u = some u' → W p l e (rmk 2) s m av below meth cd H locs 0 0 (ZV wdB ev s below av u') (F0 m 19 ls [])) (n : Nat) (b1 : Int32) (b2 : Int32) (b3 : Int32) (u : SS) (H : Heap) (locs : List Loc) (ls : Array Slot), VW wdB ev s u H locs → lv_has ls 5 [(0, .ref (ev.2.1 5)), (1, .int b1), (2, .int b2), (3, .int b3)] → f_X8_search_L27 k19 n b1 b2 b3 u = some u' → W p l e (rmk 2) s m av below meth cd H locs 0 0 (ZV wdB ev s below av u') (F0 m 27 ls []) := by
    intro k19 hk19 n
    induction n with
    | zero =>
      intro b1 b2 b3 u H locs ls hw hl hf
      cases hf
    | succ n hk27 =>
      intro b1 b2 b3 u H locs ls hw hl hf
      have hf : b_X8_search_L27 k19 (f_X8_search_L27 k19 n) b1 b2 b3 u = some u' := hf
      unfold b_X8_search_L27 at hf
      refine lv_iload_n hx hb dX8_search_27 rfl (lv_at hl 3 rfl) ?_
      refine lv_bipush (v := (64 : Int32)) hx hb dX8_search_28 (by decide) ?_
      refine lv_icmp_ge (tgt := 51) hx hb dX8_search_30 (by decide) (fun z => ?_) (fun z => ?_)
      · have hf := it_pos z hf
        refine lv_aload_n hx hb dX8_search_51 rfl (lv_at hl 0 rfl) ?_
        obtain ⟨u12, h11, hf⟩ := ov_some hf
        refine endV okB hw (runV_ok (As := []) (rest := []) okB hc hw (c_X8_addBidder l ev u h11 H.size) kv_X8_addBidder ml_X8_55 (rvB5 ev u) hl.1 rfl rfl (Nat.le_of_ble_eq_true rfl) (rm_le (by decide) (by decide)) dX8_search_52) (fun H locs hw => ?_)
        obtain ⟨x13, ex13, hf⟩ := lt_some hf
        refine lv_iinc (v := x13) (lv' := [(2, .int x13), (0, .ref (ev.2.1 5)), (1, .int b1), (3, .int b3)]) hx hb dX8_search_55 hl (k := 2) rfl (by rw [ex13]; rfl) (by decide) rfl (fun ls hl => ?_)
        refine lv_goto (tgt := 19) hx hb dX8_search_58 (by decide) ?_
        exact hk19 b1 x13 u12 H locs ls hw (lv_sub hl [1, 2, 0] rfl) hf
      · have hf := it_neg z hf
        refine lv_aload_n hx hb dX8_search_33 rfl (lv_at hl 0 rfl) ?_
        refine gB5_8 hc hw fl_X8_33 dX8_search_34 ?_
        refine lv_iload_n hx hb dX8_search_37 rfl (lv_at hl 3 rfl) ?_
        refine lv_aload_n hx hb dX8_search_38 rfl (lv_at hl 0 rfl) ?_
        refine lv_iload_n hx hb dX8_search_39 rfl (lv_at hl 2 rfl) ?_
        refine lv_iload_n hx hb dX8_search_40 rfl (lv_at hl 3 rfl) ?_
        obtain ⟨r16, u15, h14, hf⟩ := ob_some hf
        refine endL okB hw (runV_ok (As := [.int b2, .int b3]) (rest := [.int b3, .ref (ev.2.1 41)]) okB hc hw (c_X8_costOf l ev b2 b3 u h14 H.size) kv_X8_costOf ml_X8_51 (rvB5 ev u) hl.1 rfl rfl (Nat.le_of_ble_eq_true rfl) (rm_le (by decide) (by decide)) dX8_search_41) (fun H locs hw => ?_)
        obtain ⟨z, hf⟩ := oi_some hf
        refine tB41 hc hw z dX8_search_44 (fun H locs hw => ?_)
        obtain ⟨u17, eu17, hf⟩ := lt_some hf
        have hw := VW.nm eu17 hw
        obtain ⟨x18, ex18, hf⟩ := lt_some hf
        refine lv_iinc (v := x18) (lv' := [(3, .int x18), (0, .ref (ev.2.1 5)), (1, .int b1), (2, .int b2)]) hx hb dX8_search_45 hl (k := 3) rfl (by rw [ex18]; rfl) (by decide) rfl (fun ls hl => ?_)
        refine lv_goto (tgt := 27) hx hb dX8_search_48 (by decide) ?_
        exact hk27 b1 b2 x18 u17 H locs ls hw (lv_sub hl [1, 2, 3, 0] rfl) hf
  have wL19 : ∀ (n : Nat) (b1 : Int32) (b2 : Int32) (u : SS) (H : Heap) (locs : List Loc) (ls : Array Slot), VW wdB ev s u H locs → lv_has ls 5 [(0, .ref (ev.2.1 5)), (1, .int b1), (2, .int b2)] → f_X8_search_L19 n b1 b2 u = some u' → W p l e (rmk 2) s m av below meth cd H locs 0 0 (ZV wdB ev s below av u') (F0 m 19 ls []) := by
    intro n
    induction n with
    | zero =>
      intro b1 b2 u H locs ls hw hl hf
      cases hf
    | succ n hk19 =>
      intro b1 b2 u H locs ls hw hl hf
      have hf : b_X8_search_L19 (f_X8_search_L19 n) b1 b2 u = some u' := hf
      unfold b_X8_search_L19 at hf
      refine lv_iload_n hx hb dX8_search_19 rfl (lv_at hl 2 rfl) ?_
      refine lv_bipush (v := (8 : Int32)) hx hb dX8_search_20 (by decide) ?_
      refine lv_icmp_ge (tgt := 61) hx hb dX8_search_22 (by decide) (fun z => ?_) (fun z => ?_)
      · have hf := it_pos z hf
        refine lv_ldc2 (v := (9223372036854775807 : Int64)) hx hb hown (hts _ ct_X8_46) dX8_search_61 ?_
        refine lv_lstore_n (lv' := [(2, .long (9223372036854775807 : Int64)), (0, .ref (ev.2.1 5)), (1, .int b1)]) hx hb dX8_search_64 rfl hl (by decide) rfl (fun ls hl => ?_)
        refine lv_iconst (v := (0 : Int32)) hx hb dX8_search_65 (by decide) ?_
        refine lv_istore (lv' := [(4, .int (0 : Int32)), (2, .long (9223372036854775807 : Int64)), (0, .ref (ev.2.1 5)), (1, .int b1)]) hx hb dX8_search_66 hl (by decide) rfl (fun ls hl => ?_)
        exact wL68 FU b1 (9223372036854775807 : Int64) (0 : Int32) u H locs ls hw (lv_sub hl [2, 3, 1, 0] rfl) hf
      · have hf := it_neg z hf
        refine lv_iconst (v := (1 : Int32)) hx hb dX8_search_25 (by decide) ?_
        refine lv_istore_n (lv' := [(3, .int (1 : Int32)), (0, .ref (ev.2.1 5)), (1, .int b1), (2, .int b2)]) hx hb dX8_search_26 rfl hl (by decide) rfl (fun ls hl => ?_)
        exact wL27 (f_X8_search_L19 n) hk19 FU b1 b2 (1 : Int32) u H locs ls hw (lv_sub hl [1, 2, 3, 0] rfl) hf
  unfold f_X8_search at hf
  refine lv_aload_n hx hb dX8_search_0 rfl (lv_at hl 0 rfl) ?_
  refine gB5_7 hc hw fl_X8_29 dX8_search_1 ?_
  refine lv_ldc2 (v := (9223372036854775807 : Int64)) hx hb hown (hts _ ct_X8_46) dX8_search_4 ?_
  obtain ⟨u2, h1, hf⟩ := ov_some hf
  refine endV okB hw (runS_ok (As := [.ref (ev.2.1 40), .long (9223372036854775807 : Int64)]) (rest := []) okB hc hw (c_J7_fill_d0a16_40 l ev (9223372036854775807 : Int64) u h1 H.size) ks_J7_fill_d0a16 ml_X8_48 hl.1 rfl rfl (Nat.le_of_ble_eq_true rfl) (rm_le (by decide) (by decide)) dX8_search_7) (fun H locs hw => ?_)
  refine lv_aload_n hx hb dX8_search_10 rfl (lv_at hl 0 rfl) ?_
  refine gB5_7 hc hw fl_X8_29 dX8_search_11 ?_
  refine lv_iconst (v := (0 : Int32)) hx hb dX8_search_14 (by decide) ?_
  refine lv_lconst (v := (0 : Int64)) hx hb dX8_search_15 (by decide) ?_
  obtain ⟨z, hf⟩ := oi_some hf
  refine tB40 hc hw z dX8_search_16 (fun H locs hw => ?_)
  obtain ⟨u3, eu3, hf⟩ := lt_some hf
  have hw := VW.nm eu3 hw
  refine lv_iconst (v := (0 : Int32)) hx hb dX8_search_17 (by decide) ?_
  refine lv_istore_n (lv' := [(2, .int (0 : Int32)), (0, .ref (ev.2.1 5)), (1, .int a1)]) hx hb dX8_search_18 rfl hl (by decide) rfl (fun ls hl => ?_)
  exact wL19 FU a1 (0 : Int32) u3 H locs ls hw (lv_sub hl [1, 2, 0] rfl) hf
def f_X8_offer (a1 : Int32) (a2 : Int32) (a3 : Int32) (a4 : Int32) (u : SS) : Option SS :=
  ob (f_X9_cell a2 a1 u) fun r3 u2 => oi r3 48 (lt (tA u2 23 r3 a3) fun u4 => ob (f_X9_cell a2 a1 u4) fun r7 u6 => oi r7 48 (lt (tA u6 24 r7 a4) fun u8 => some u8))
set_option maxHeartbeats 4000000 in
set_option maxRecDepth 100000 in
theorem c_X8_offer (l : Launch) (ev : EV) (a1 : Int32) (a2 : Int32) (a3 : Int32) (a4 : Int32) (u : SS) {u' : SS} (hf : f_X8_offer a1 a2 a3 a4 u = some u') : MV wdB l yX8_offer cX8_offer 5 none 1 ev [.ref (ev.2.1 5), .int a1, .int a2, .int a3, .int a4] u u' := by
  refine bodyV (by decide +kernel) rfl (Nat.le_of_ble_eq_true rfl) ?_
  intro p e s m below meth cd ls H locs hc hr hlk hw hl
  generalize hav : (List.toArray [.ref (ev.2.1 5), .int a1, .int a2, .int a3, .int a4] : Array Value) = av at hc ⊢
  obtain ⟨hx, hb, hml, hown, hts, hK, hZ⟩ := id hc
  have hl : lv_has ls 5 [(0, .ref (ev.2.1 5)), (1, .int a1), (2, .int a2), (3, .int a3), (4, .int a4)] := hl
  unfold f_X8_offer at hf
  refine lv_aload_n hx hb dX8_offer_0 rfl (lv_at hl 0 rfl) ?_
  refine gB5_5 hc hw fl_X8_23 dX8_offer_1 ?_
  refine lv_iload_n hx hb dX8_offer_4 rfl (lv_at hl 2 rfl) ?_
  refine lv_iload_n hx hb dX8_offer_5 rfl (lv_at hl 1 rfl) ?_
  obtain ⟨r3, u2, h1, hf⟩ := ob_some hf
  refine endI okB hw (runN_ok (As := [.int a2, .int a1]) (rest := [.ref (ev.2.1 38)]) okB hc hw (c_X9_cell l ev a2 a1 u h1 H.size) ks_X9_cell (hZ.2.2 ("BidsJudged$Whole", 42) (by decide)) hl.1 rfl rfl (Nat.le_of_ble_eq_true rfl) (rm_le (by decide) (by decide)) dX8_offer_6) (fun H locs hw => ?_)
  refine lv_iload_n hx hb dX8_offer_9 rfl (lv_at hl 3 rfl) ?_
  obtain ⟨z, hf⟩ := oi_some hf
  refine tB38 hc hw z dX8_offer_10 (fun H locs hw => ?_)
  obtain ⟨u4, eu4, hf⟩ := lt_some hf
  have hw := VW.nm eu4 hw
  refine lv_aload_n hx hb dX8_offer_11 rfl (lv_at hl 0 rfl) ?_
  refine gB5_6 hc hw fl_X8_26 dX8_offer_12 ?_
  refine lv_iload_n hx hb dX8_offer_15 rfl (lv_at hl 2 rfl) ?_
  refine lv_iload_n hx hb dX8_offer_16 rfl (lv_at hl 1 rfl) ?_
  obtain ⟨r7, u6, h5, hf⟩ := ob_some hf
  refine endI okB hw (runN_ok (As := [.int a2, .int a1]) (rest := [.ref (ev.2.1 39)]) okB hc hw (c_X9_cell l ev a2 a1 u4 h5 H.size) ks_X9_cell (hZ.2.2 ("BidsJudged$Whole", 42) (by decide)) hl.1 rfl rfl (Nat.le_of_ble_eq_true rfl) (rm_le (by decide) (by decide)) dX8_offer_17) (fun H locs hw => ?_)
  refine lv_iload hx hb dX8_offer_20 (lv_at hl 4 rfl) ?_
  obtain ⟨z, hf⟩ := oi_some hf
  refine tB39 hc hw z dX8_offer_22 (fun H locs hw => ?_)
  obtain ⟨u8, eu8, hf⟩ := lt_some hf
  have hw := VW.nm eu8 hw
  exact retV hc hr hlk hw hf dX8_offer_23
def b_X9_findBest_L50 (k9 : Int32 → SS → Option SS) (k50 : Int32 → Int32 → SS → Option SS) (b1 : Int32) (b2 : Int32) (u : SS) : Option SS :=
  if (gI u 10) ≤ b2 then (lt (b1 + (1 : Int32)) fun x9 => k9 x9 u) else (oi b2 8 (lt (gA u 19 b2.toNatClampNeg) fun x10 => oi x10 8 (ov (f_X8_offer b1 x10 b2 (gA u 17 x10.toNatClampNeg) u) fun u12 => lt (b2 + (1 : Int32)) fun x13 => k50 b1 x13 u12)))
def f_X9_findBest_L50 (k9 : Int32 → SS → Option SS) : Nat → Int32 → Int32 → SS → Option SS
  | 0 => fun _ _ _ => none
  | n + 1 => b_X9_findBest_L50 k9 (f_X9_findBest_L50 k9 n)
def b_X9_findBest_L9 (k9 : Int32 → SS → Option SS) (b1 : Int32) (u : SS) : Option SS :=
  if (gI u 2) ≤ b1 then (ov (f_X8_search (gI u 2) u) fun u4 => some u4) else (ov (f_X7_lay b1 (-1 : Int32) u) fun u6 => ov (f_X7_rank u6) fun u8 => f_X9_findBest_L50 k9 FU b1 (0 : Int32) u8)
def f_X9_findBest_L9 : Nat → Int32 → SS → Option SS
  | 0 => fun _ _ => none
  | n + 1 => b_X9_findBest_L9 (f_X9_findBest_L9 n)
def f_X9_findBest (u : SS) : Option SS :=
  ov (f_X8_clear u) fun u2 => f_X9_findBest_L9 FU (0 : Int32) u2
set_option maxHeartbeats 4000000 in
set_option maxRecDepth 100000 in
theorem c_X9_findBest (l : Launch) (ev : EV) (u : SS) {u' : SS} (hf : f_X9_findBest  u = some u') : MV wdB l yX9_findBest cX9_findBest 4 none 5 ev [.ref (ev.2.1 0)] u u' := by
  refine bodyV (by decide +kernel) rfl (Nat.le_of_ble_eq_true rfl) ?_
  intro p e s m below meth cd ls H locs hc hr hlk hw hl
  generalize hav : (List.toArray [.ref (ev.2.1 0)] : Array Value) = av at hc ⊢
  obtain ⟨hx, hb, hml, hown, hts, hK, hZ⟩ := id hc
  have hl : lv_has ls 4 [(0, .ref (ev.2.1 0))] := hl
  have wL50 : ∀ (k9 : Int32 → SS → Option SS) (hk9 : ∀ (b1 : Int32) (u : SS) (H : Heap) (locs : List Loc) (ls : Array Slot), VW wdB ev s u H locs → lv_has ls 4 [(0, .ref (ev.2.1 0)), (1, .int b1)] → k9 b1 u = some u' → W p l e (rmk 5) s m av below meth cd H locs 0 0 (ZV wdB ev s below av u') (F0 m 9 ls [])) (n : Nat) (b1 : Int32) (b2 : Int32) (u : SS) (H : Heap) (locs : List Loc) (ls : Array Slot), VW wdB ev s u H locs → lv_has ls 4 [(0, .ref (ev.2.1 0)), (1, .int b1), (2, .int b2)] → f_X9_findBest_L50 k9 n b1 b2 u = some u' → W p l e (rmk 5) s m av below meth cd H locs 0 0 (ZV wdB ev s below av u') (F0 m 50 ls []) := by
    intro k9 hk9 n
    induction n with
    | zero =>
      intro b1 b2 u H locs ls hw hl hf
      cases hf
    | succ n hk50 =>
      intro b1 b2 u H locs ls hw hl hf
      have hf : b_X9_findBest_L50 k9 (f_X9_findBest_L50 k9 n) b1 b2 u = some u' := hf
      unfold b_X9_findBest_L50 at hf
      refine lv_iload_n hx hb dX9_findBest_50 rfl (lv_at hl 2 rfl) ?_
      refine lv_aload_n hx hb dX9_findBest_51 rfl (lv_at hl 0 rfl) ?_
      refine gB0_3 hc hw fl_X9_33 dX9_findBest_52 ?_
      refine gB4_9 hc hw fl_X9_200 dX9_findBest_55 ?_
      refine lv_icmp_ge (tgt := 96) hx hb dX9_findBest_58 (by decide) (fun z => ?_) (fun z => ?_)
      · have hf := it_pos z hf
        obtain ⟨x9, ex9, hf⟩ := lt_some hf
        refine lv_iinc (v := x9) (lv' := [(1, .int x9), (0, .ref (ev.2.1 0)), (2, .int b2)]) hx hb dX9_findBest_96 hl (k := 1) rfl (by rw [ex9]; rfl) (by decide) rfl (fun ls hl => ?_)
        refine lv_goto (tgt := 9) hx hb dX9_findBest_99 (by decide) ?_
        exact hk9 x9 u H locs ls hw (lv_sub hl [1, 0] rfl) hf
      · have hf := it_neg z hf
        refine lv_aload_n hx hb dX9_findBest_61 rfl (lv_at hl 0 rfl) ?_
        refine gB0_3 hc hw fl_X9_33 dX9_findBest_62 ?_
        refine gB4_8 hc hw fl_X9_203 dX9_findBest_65 ?_
        refine lv_iload_n hx hb dX9_findBest_68 rfl (lv_at hl 2 rfl) ?_
        obtain ⟨z, hf⟩ := oi_some hf
        refine aB32 hc hw z dX9_findBest_69 ?_
        obtain ⟨x10, ex10, hf⟩ := lt_some hf
        refine tope ex10 ?_
        refine lv_istore_n (lv' := [(3, .int x10), (0, .ref (ev.2.1 0)), (1, .int b1), (2, .int b2)]) hx hb dX9_findBest_70 rfl hl (by decide) rfl (fun ls hl => ?_)
        refine lv_aload_n hx hb dX9_findBest_71 rfl (lv_at hl 1 rfl) ?_
        refine gB0_4 hc hw fl_X9_40 dX9_findBest_72 ?_
        refine lv_iload_n hx hb dX9_findBest_75 rfl (lv_at hl 2 rfl) ?_
        refine lv_iload_n hx hb dX9_findBest_76 rfl (lv_at hl 0 rfl) ?_
        refine lv_iload_n hx hb dX9_findBest_77 rfl (lv_at hl 3 rfl) ?_
        refine lv_aload_n hx hb dX9_findBest_78 rfl (lv_at hl 1 rfl) ?_
        refine gB0_3 hc hw fl_X9_33 dX9_findBest_79 ?_
        refine gB4_2 hc hw fl_X9_354 dX9_findBest_82 ?_
        refine lv_iload_n hx hb dX9_findBest_85 rfl (lv_at hl 0 rfl) ?_
        obtain ⟨z, hf⟩ := oi_some hf
        refine aB26 hc hw z dX9_findBest_86 ?_
        obtain ⟨u12, h11, hf⟩ := ov_some hf
        refine endV okB hw (runV_ok (As := [.int b1, .int x10, .int b2, .int (gA u 17 x10.toNatClampNeg)]) (rest := []) okB hc hw (c_X8_offer l ev b1 x10 b2 (gA u 17 x10.toNatClampNeg) u h11 H.size) kv_X8_offer ml_X9_357 (rvB5 ev u) hl.1 rfl rfl (Nat.le_of_ble_eq_true rfl) (rm_le (by decide) (by decide)) dX9_findBest_87) (fun H locs hw => ?_)
        obtain ⟨x13, ex13, hf⟩ := lt_some hf
        refine lv_iinc (v := x13) (lv' := [(2, .int x13), (3, .int x10), (0, .ref (ev.2.1 0)), (1, .int b1)]) hx hb dX9_findBest_90 hl (k := 3) rfl (by rw [ex13]; rfl) (by decide) rfl (fun ls hl => ?_)
        refine lv_goto (tgt := 50) hx hb dX9_findBest_93 (by decide) ?_
        exact hk50 b1 x13 u12 H locs ls hw (lv_sub hl [2, 3, 0] rfl) hf
  have wL9 : ∀ (n : Nat) (b1 : Int32) (u : SS) (H : Heap) (locs : List Loc) (ls : Array Slot), VW wdB ev s u H locs → lv_has ls 4 [(0, .ref (ev.2.1 0)), (1, .int b1)] → f_X9_findBest_L9 n b1 u = some u' → W p l e (rmk 5) s m av below meth cd H locs 0 0 (ZV wdB ev s below av u') (F0 m 9 ls []) := by
    intro n
    induction n with
    | zero =>
      intro b1 u H locs ls hw hl hf
      cases hf
    | succ n hk9 =>
      intro b1 u H locs ls hw hl hf
      have hf : b_X9_findBest_L9 (f_X9_findBest_L9 n) b1 u = some u' := hf
      unfold b_X9_findBest_L9 at hf
      refine lv_iload_n hx hb dX9_findBest_9 rfl (lv_at hl 1 rfl) ?_
      refine lv_aload_n hx hb dX9_findBest_10 rfl (lv_at hl 0 rfl) ?_
      refine gB0_0 hc hw fl_X9_12 dX9_findBest_11 ?_
      refine gB1_11 hc hw fl_X9_83 dX9_findBest_14 ?_
      refine lv_icmp_ge (tgt := 102) hx hb dX9_findBest_17 (by decide) (fun z => ?_) (fun z => ?_)
      · have hf := it_pos z hf
        refine lv_aload_n hx hb dX9_findBest_102 rfl (lv_at hl 0 rfl) ?_
        refine gB0_4 hc hw fl_X9_40 dX9_findBest_103 ?_
        refine lv_aload_n hx hb dX9_findBest_106 rfl (lv_at hl 0 rfl) ?_
        refine gB0_0 hc hw fl_X9_12 dX9_findBest_107 ?_
        refine gB1_11 hc hw fl_X9_83 dX9_findBest_110 ?_
        obtain ⟨u4, h3, hf⟩ := ov_some hf
        refine endV okB hw (runV_ok (As := [.int (gI u 2)]) (rest := []) okB hc hw (c_X8_search l ev (gI u 2) u h3 H.size) kv_X8_search ml_X9_360 (rvB5 ev u) hl.1 rfl rfl (Nat.le_of_ble_eq_true rfl) (rm_le (by decide) (by decide)) dX9_findBest_113) (fun H locs hw => ?_)
        exact retV hc hr hlk hw hf dX9_findBest_116
      · have hf := it_neg z hf
        refine lv_aload_n hx hb dX9_findBest_20 rfl (lv_at hl 0 rfl) ?_
        refine gB0_3 hc hw fl_X9_33 dX9_findBest_21 ?_
        refine lv_aload_n hx hb dX9_findBest_24 rfl (lv_at hl 0 rfl) ?_
        refine gB0_0 hc hw fl_X9_12 dX9_findBest_25 ?_
        refine lv_aload_n hx hb dX9_findBest_28 rfl (lv_at hl 0 rfl) ?_
        refine gB0_1 hc hw fl_X9_19 dX9_findBest_29 ?_
        refine lv_iload_n hx hb dX9_findBest_32 rfl (lv_at hl 1 rfl) ?_
        refine lv_iconst (v := (-1 : Int32)) hx hb dX9_findBest_33 (by decide) ?_
        obtain ⟨u6, h5, hf⟩ := ov_some hf
        refine endV okB hw (runV_ok (As := [.ref (ev.2.1 1), .ref (ev.2.1 2), .int b1, .int (-1 : Int32)]) (rest := []) okB hc hw (c_X7_lay l ev b1 (-1 : Int32) u h5 H.size) kv_X7_lay ml_X9_154 (rvB4 ev u) hl.1 rfl rfl (Nat.le_of_ble_eq_true rfl) (rm_le (by decide) (by decide)) dX9_findBest_34) (fun H locs hw => ?_)
        refine lv_aload_n hx hb dX9_findBest_37 rfl (lv_at hl 0 rfl) ?_
        refine gB0_3 hc hw fl_X9_33 dX9_findBest_38 ?_
        refine lv_aload_n hx hb dX9_findBest_41 rfl (lv_at hl 0 rfl) ?_
        refine gB0_2 hc hw fl_X9_26 dX9_findBest_42 ?_
        obtain ⟨u8, h7, hf⟩ := ov_some hf
        refine endV okB hw (runV_ok (As := [.ref (ev.2.1 3)]) (rest := []) okB hc hw (c_X7_rank l ev u6 h7 H.size) kv_X7_rank ml_X9_196 (rvB4 ev u6) hl.1 rfl rfl (Nat.le_of_ble_eq_true rfl) (rm_le (by decide) (by decide)) dX9_findBest_45) (fun H locs hw => ?_)
        refine lv_iconst (v := (0 : Int32)) hx hb dX9_findBest_48 (by decide) ?_
        refine lv_istore_n (lv' := [(2, .int (0 : Int32)), (0, .ref (ev.2.1 0)), (1, .int b1)]) hx hb dX9_findBest_49 rfl hl (by decide) rfl (fun ls hl => ?_)
        exact wL50 (f_X9_findBest_L9 n) hk9 FU b1 (0 : Int32) u8 H locs ls hw (lv_sub hl [1, 2, 0] rfl) hf
  unfold f_X9_findBest at hf
  refine lv_aload_n hx hb dX9_findBest_0 rfl (lv_at hl 0 rfl) ?_
  refine gB0_4 hc hw fl_X9_40 dX9_findBest_1 ?_
  obtain ⟨u2, h1, hf⟩ := ov_some hf
  refine endV okB hw (runV_ok (As := []) (rest := []) okB hc hw (c_X8_clear l ev u h1 H.size) kv_X8_clear ml_X9_351 (rvB5 ev u) hl.1 rfl rfl (Nat.le_of_ble_eq_true rfl) (rm_le (by decide) (by decide)) dX9_findBest_4) (fun H locs hw => ?_)
  refine lv_iconst (v := (0 : Int32)) hx hb dX9_findBest_7 (by decide) ?_
  refine lv_istore_n (lv' := [(1, .int (0 : Int32)), (0, .ref (ev.2.1 0))]) hx hb dX9_findBest_8 rfl hl (by decide) rfl (fun ls hl => ?_)
  exact wL9 FU (0 : Int32) u2 H locs ls hw (lv_sub hl [1, 0] rfl) hf
def f_X9_whole_L9 (u : SS) : Option (Int32 × SS) :=
  ob (f_X9_refuse (-2 : Int32) u) fun r3 u2 => some (r3, u2)
def f_X9_whole (a1 : Int32) (u : SS) : Option (Int32 × SS) :=
  if a1 < 0 then (f_X9_whole_L9 u) else (if a1 ≤ (1 : Int32) then (ob (f_X1_isOpen u) fun r6 u5 => if r6 = 0 then (ov (f_X9_findBest u5) fun u8 => if a1 = 0 then (some ((gI u8 13), u8)) else (some ((gI u8 14), u8))) else (ob (f_X9_refuse (-3 : Int32) u5) fun r11 u10 => some (r11, u10))) else (f_X9_whole_L9 u))
set_option maxHeartbeats 4000000 in
set_option maxRecDepth 100000 in
theorem c_X9_whole (l : Launch) (ev : EV) (a1 : Int32) (u : SS) {r : Int32} {u' : SS} (hf : f_X9_whole a1 u = some (r, u')) : MI wdB l yX9_whole cX9_whole 2 (some .int) 6 ev [.ref (ev.2.1 0), .int a1] u r u' := by
  refine bodyI (by decide +kernel) rfl (Nat.le_of_ble_eq_true rfl) ?_
  intro p e s m below meth cd ls H locs hc hr hlk hw hl
  generalize hav : (List.toArray [.ref (ev.2.1 0), .int a1] : Array Value) = av at hc ⊢
  obtain ⟨hx, hb, hml, hown, hts, hK, hZ⟩ := id hc
  have hl : lv_has ls 2 [(0, .ref (ev.2.1 0)), (1, .int a1)] := hl
  have wL9 : ∀ (u : SS) (H : Heap) (locs : List Loc) (ls : Array Slot), VW wdB ev s u H locs → lv_has ls 2 [(0, .ref (ev.2.1 0))] → f_X9_whole_L9  u = some (r, u') → W p l e (rmk 6) s m av below meth cd H locs 0 0 (ZI wdB ev s below av r u') (F0 m 9 ls []) := by
    intro  u H locs ls hw hl hf
    unfold f_X9_whole_L9 at hf
    refine lv_aload_n hx hb dX9_whole_9 rfl (lv_at hl 0 rfl) ?_
    refine lv_bipush (v := (-2 : Int32)) hx hb dX9_whole_10 (by decide) ?_
    obtain ⟨r3, u2, h1, hf⟩ := ob_some hf
    refine endI okB hw (runV_ok (As := [.int (-2 : Int32)]) (rest := []) okB hc hw (c_X9_refuse l ev (-2 : Int32) u h1 H.size) kv_X9_refuse ml_X9_62 (rvB0 ev u) hl.1 rfl rfl (Nat.le_of_ble_eq_true rfl) (rm_le (by decide) (by decide)) dX9_whole_12) (fun H locs hw => ?_)
    exact retI hc hr hlk hw hf dX9_whole_15
  unfold f_X9_whole at hf
  refine lv_iload_n hx hb dX9_whole_0 rfl (lv_at hl 1 rfl) ?_
  refine lv_if_lt (tgt := 9) hx hb dX9_whole_1 (by decide) (fun z => ?_) (fun z => ?_)
  · have hf := it_pos z hf
    exact wL9 u H locs ls hw (lv_sub hl [0] rfl) hf
  · have hf := it_neg z hf
    refine lv_iload_n hx hb dX9_whole_4 rfl (lv_at hl 1 rfl) ?_
    refine lv_iconst (v := (1 : Int32)) hx hb dX9_whole_5 (by decide) ?_
    refine lv_icmp_le (tgt := 16) hx hb dX9_whole_6 (by decide) (fun z => ?_) (fun z => ?_)
    · have hf := it_pos z hf
      refine lv_aload_n hx hb dX9_whole_16 rfl (lv_at hl 0 rfl) ?_
      refine gB0_0 hc hw fl_X9_12 dX9_whole_17 ?_
      obtain ⟨r6, u5, h4, hf⟩ := ob_some hf
      refine endI okB hw (runV_ok (As := []) (rest := []) okB hc hw (c_X1_isOpen l ev u h4 H.size) kv_X1_isOpen ml_X9_71 (rvB1 ev u) hl.1 rfl rfl (Nat.le_of_ble_eq_true rfl) (rm_le (by decide) (by decide)) dX9_whole_20) (fun H locs hw => ?_)
      refine lv_if_eq (tgt := 33) hx hb dX9_whole_23 (by decide) (fun z => ?_) (fun z => ?_)
      · have hf := it_pos z hf
        refine lv_aload_n hx hb dX9_whole_33 rfl (lv_at hl 0 rfl) ?_
        obtain ⟨u8, h7, hf⟩ := ov_some hf
        refine endV okB hw (runV_ok (As := []) (rest := []) okB hc hw (c_X9_findBest l ev u5 h7 H.size) kv_X9_findBest ml_X9_254 (rvB0 ev u5) hl.1 rfl rfl (Nat.le_of_ble_eq_true rfl) (rm_le (by decide) (by decide)) dX9_whole_34) (fun H locs hw => ?_)
        refine lv_iload_n hx hb dX9_whole_37 rfl (lv_at hl 1 rfl) ?_
        refine lv_if_ne (tgt := 51) hx hb dX9_whole_38 (by decide) (fun z => ?_) (fun z => ?_)
        · have hf := it_neg z hf
          refine lv_aload_n hx hb dX9_whole_51 rfl (lv_at hl 0 rfl) ?_
          refine gB0_4 hc hw fl_X9_40 dX9_whole_52 ?_
          refine gB5_3 hc hw fl_X9_260 dX9_whole_55 ?_
          exact retI hc hr hlk hw hf dX9_whole_58
        · have hf := it_pos z hf
          refine lv_aload_n hx hb dX9_whole_41 rfl (lv_at hl 0 rfl) ?_
          refine gB0_4 hc hw fl_X9_40 dX9_whole_42 ?_
          refine gB5_2 hc hw fl_X9_257 dX9_whole_45 ?_
          refine lv_goto (tgt := 58) hx hb dX9_whole_48 (by decide) ?_
          exact retI hc hr hlk hw hf dX9_whole_58
      · have hf := it_neg z hf
        refine lv_aload_n hx hb dX9_whole_26 rfl (lv_at hl 0 rfl) ?_
        refine lv_bipush (v := (-3 : Int32)) hx hb dX9_whole_27 (by decide) ?_
        obtain ⟨r11, u10, h9, hf⟩ := ob_some hf
        refine endI okB hw (runV_ok (As := [.int (-3 : Int32)]) (rest := []) okB hc hw (c_X9_refuse l ev (-3 : Int32) u5 h9 H.size) kv_X9_refuse ml_X9_62 (rvB0 ev u5) hl.1 rfl rfl (Nat.le_of_ble_eq_true rfl) (rm_le (by decide) (by decide)) dX9_whole_29) (fun H locs hw => ?_)
        exact retI hc hr hlk hw hf dX9_whole_32
    · have hf := it_neg z hf
      exact wL9 u H locs ls hw (lv_sub hl [0] rfl) hf
def f_X9_winner (a1 : Int32) (u : SS) : Option (Int32 × SS) :=
  ob (f_X9_noLot a1 u) fun r3 u2 => if r3 = 0 then (ob (f_X1_isOpen u2) fun r6 u5 => if r6 = 0 then (ov (f_X9_findBest u5) fun u8 => oi a1 6 (some ((gA u8 21 a1.toNatClampNeg), u8))) else (ob (f_X9_refuse (-3 : Int32) u5) fun r11 u10 => some (r11, u10))) else (ob (f_X9_refuse (-1 : Int32) u2) fun r14 u13 => some (r14, u13))
set_option maxHeartbeats 4000000 in
set_option maxRecDepth 100000 in
theorem c_X9_winner (l : Launch) (ev : EV) (a1 : Int32) (u : SS) {r : Int32} {u' : SS} (hf : f_X9_winner a1 u = some (r, u')) : MI wdB l yX9_winner cX9_winner 2 (some .int) 6 ev [.ref (ev.2.1 0), .int a1] u r u' := by
  refine bodyI (by decide +kernel) rfl (Nat.le_of_ble_eq_true rfl) ?_
  intro p e s m below meth cd ls H locs hc hr hlk hw hl
  generalize hav : (List.toArray [.ref (ev.2.1 0), .int a1] : Array Value) = av at hc ⊢
  obtain ⟨hx, hb, hml, hown, hts, hK, hZ⟩ := id hc
  have hl : lv_has ls 2 [(0, .ref (ev.2.1 0)), (1, .int a1)] := hl
  unfold f_X9_winner at hf
  refine lv_aload_n hx hb dX9_winner_0 rfl (lv_at hl 0 rfl) ?_
  refine lv_iload_n hx hb dX9_winner_1 rfl (lv_at hl 1 rfl) ?_
  obtain ⟨r3, u2, h1, hf⟩ := ob_some hf
  refine endI okB hw (runV_ok (As := [.int a1]) (rest := []) okB hc hw (c_X9_noLot l ev a1 u h1 H.size) kv_X9_noLot ml_X9_193 (rvB0 ev u) hl.1 rfl rfl (Nat.le_of_ble_eq_true rfl) (rm_le (by decide) (by decide)) dX9_winner_2) (fun H locs hw => ?_)
  refine lv_if_eq (tgt := 14) hx hb dX9_winner_5 (by decide) (fun z => ?_) (fun z => ?_)
  · have hf := it_pos z hf
    refine lv_aload_n hx hb dX9_winner_14 rfl (lv_at hl 0 rfl) ?_
    refine gB0_0 hc hw fl_X9_12 dX9_winner_15 ?_
    obtain ⟨r6, u5, h4, hf⟩ := ob_some hf
    refine endI okB hw (runV_ok (As := []) (rest := []) okB hc hw (c_X1_isOpen l ev u2 h4 H.size) kv_X1_isOpen ml_X9_71 (rvB1 ev u2) hl.1 rfl rfl (Nat.le_of_ble_eq_true rfl) (rm_le (by decide) (by decide)) dX9_winner_18) (fun H locs hw => ?_)
    refine lv_if_eq (tgt := 31) hx hb dX9_winner_21 (by decide) (fun z => ?_) (fun z => ?_)
    · have hf := it_pos z hf
      refine lv_aload_n hx hb dX9_winner_31 rfl (lv_at hl 0 rfl) ?_
      obtain ⟨u8, h7, hf⟩ := ov_some hf
      refine endV okB hw (runV_ok (As := []) (rest := []) okB hc hw (c_X9_findBest l ev u5 h7 H.size) kv_X9_findBest ml_X9_254 (rvB0 ev u5) hl.1 rfl rfl (Nat.le_of_ble_eq_true rfl) (rm_le (by decide) (by decide)) dX9_winner_32) (fun H locs hw => ?_)
      refine lv_aload_n hx hb dX9_winner_35 rfl (lv_at hl 0 rfl) ?_
      refine gB0_4 hc hw fl_X9_40 dX9_winner_36 ?_
      refine gB5_1 hc hw fl_X9_263 dX9_winner_39 ?_
      refine lv_iload_n hx hb dX9_winner_42 rfl (lv_at hl 1 rfl) ?_
      obtain ⟨z, hf⟩ := oi_some hf
      refine aB36 hc hw z dX9_winner_43 ?_
      exact retI hc hr hlk hw hf dX9_winner_44
    · have hf := it_neg z hf
      refine lv_aload_n hx hb dX9_winner_24 rfl (lv_at hl 0 rfl) ?_
      refine lv_bipush (v := (-3 : Int32)) hx hb dX9_winner_25 (by decide) ?_
      obtain ⟨r11, u10, h9, hf⟩ := ob_some hf
      refine endI okB hw (runV_ok (As := [.int (-3 : Int32)]) (rest := []) okB hc hw (c_X9_refuse l ev (-3 : Int32) u5 h9 H.size) kv_X9_refuse ml_X9_62 (rvB0 ev u5) hl.1 rfl rfl (Nat.le_of_ble_eq_true rfl) (rm_le (by decide) (by decide)) dX9_winner_27) (fun H locs hw => ?_)
      exact retI hc hr hlk hw hf dX9_winner_30
  · have hf := it_neg z hf
    refine lv_aload_n hx hb dX9_winner_8 rfl (lv_at hl 0 rfl) ?_
    refine lv_iconst (v := (-1 : Int32)) hx hb dX9_winner_9 (by decide) ?_
    obtain ⟨r14, u13, h12, hf⟩ := ob_some hf
    refine endI okB hw (runV_ok (As := [.int (-1 : Int32)]) (rest := []) okB hc hw (c_X9_refuse l ev (-1 : Int32) u2 h12 H.size) kv_X9_refuse ml_X9_62 (rvB0 ev u2) hl.1 rfl rfl (Nat.le_of_ble_eq_true rfl) (rm_le (by decide) (by decide)) dX9_winner_10) (fun H locs hw => ?_)
    exact retI hc hr hlk hw hf dX9_winner_13
def f_X0_begin (a1 : Int32) (u : SS) : Option SS :=
  lt (sI u 15 (1 : Int32)) fun u1 => lt (sI u1 19 a1) fun u2 => lt (sI u2 18 ((gI u2 18) + (1 : Int32))) fun u3 => some u3
set_option maxHeartbeats 4000000 in
set_option maxRecDepth 100000 in
theorem c_X0_begin (l : Launch) (ev : EV) (a1 : Int32) (u : SS) {u' : SS} (hf : f_X0_begin a1 u = some u') : MV wdB l yX0_begin cX0_begin 2 none 0 ev [.ref (ev.2.1 6), .int a1] u u' := by
  refine bodyV (by decide +kernel) rfl (Nat.le_of_ble_eq_true rfl) ?_
  intro p e s m below meth cd ls H locs hc hr hlk hw hl
  generalize hav : (List.toArray [.ref (ev.2.1 6), .int a1] : Array Value) = av at hc ⊢
  obtain ⟨hx, hb, hml, hown, hts, hK, hZ⟩ := id hc
  have hl : lv_has ls 2 [(0, .ref (ev.2.1 6)), (1, .int a1)] := hl
  unfold f_X0_begin at hf
  refine lv_aload_n hx hb dX0_begin_0 rfl (lv_at hl 0 rfl) ?_
  refine lv_iconst (v := (1 : Int32)) hx hb dX0_begin_1 (by decide) ?_
  refine pB6_0 hc hw fl_X0_35 nz1 fz1 dX0_begin_2 (fun H locs hw => ?_)
  obtain ⟨u1, eu1, hf⟩ := lt_some hf
  have hw := VW.nm eu1 hw
  refine lv_aload_n hx hb dX0_begin_5 rfl (lv_at hl 0 rfl) ?_
  refine lv_iload_n hx hb dX0_begin_6 rfl (lv_at hl 1 rfl) ?_
  refine pB6_11 hc hw fl_X0_39 dX0_begin_7 (fun H locs hw => ?_)
  obtain ⟨u2, eu2, hf⟩ := lt_some hf
  have hw := VW.nm eu2 hw
  refine lv_aload_n hx hb dX0_begin_10 rfl (lv_at hl 0 rfl) ?_
  refine lv_dup hx hb dX0_begin_11 rfl ?_
  refine gB6_10 hc hw fl_X0_43 dX0_begin_12 ?_
  refine lv_iconst (v := (1 : Int32)) hx hb dX0_begin_15 (by decide) ?_
  refine lv_iadd hx hb dX0_begin_16 ?_
  refine pB6_10 hc hw fl_X0_43 dX0_begin_17 (fun H locs hw => ?_)
  obtain ⟨u3, eu3, hf⟩ := lt_some hf
  have hw := VW.nm eu3 hw
  exact retV hc hr hlk hw hf dX0_begin_20
def f_X0_give (a1 : Int32) (a2 : Int32) (a3 : Int32) (u : SS) : Option SS :=
  oi a1 6 (lt (tA u 25 a1 a2) fun u1 => oi a1 6 (lt (tA u1 30 a1 a3) fun u2 => some u2))
set_option maxHeartbeats 4000000 in
set_option maxRecDepth 100000 in
theorem c_X0_give (l : Launch) (ev : EV) (a1 : Int32) (a2 : Int32) (a3 : Int32) (u : SS) {u' : SS} (hf : f_X0_give a1 a2 a3 u = some u') : MV wdB l yX0_give cX0_give 4 none 0 ev [.ref (ev.2.1 6), .int a1, .int a2, .int a3] u u' := by
  refine bodyV (by decide +kernel) rfl (Nat.le_of_ble_eq_true rfl) ?_
  intro p e s m below meth cd ls H locs hc hr hlk hw hl
  generalize hav : (List.toArray [.ref (ev.2.1 6), .int a1, .int a2, .int a3] : Array Value) = av at hc ⊢
  obtain ⟨hx, hb, hml, hown, hts, hK, hZ⟩ := id hc
  have hl : lv_has ls 4 [(0, .ref (ev.2.1 6)), (1, .int a1), (2, .int a2), (3, .int a3)] := hl
  unfold f_X0_give at hf
  refine lv_aload_n hx hb dX0_give_0 rfl (lv_at hl 0 rfl) ?_
  refine gB6_3 hc hw fl_X0_9 dX0_give_1 ?_
  refine lv_iload_n hx hb dX0_give_4 rfl (lv_at hl 1 rfl) ?_
  refine lv_iload_n hx hb dX0_give_5 rfl (lv_at hl 2 rfl) ?_
  obtain ⟨z, hf⟩ := oi_some hf
  refine tB42 hc hw z dX0_give_6 (fun H locs hw => ?_)
  obtain ⟨u1, eu1, hf⟩ := lt_some hf
  have hw := VW.nm eu1 hw
  refine lv_aload_n hx hb dX0_give_7 rfl (lv_at hl 0 rfl) ?_
  refine gB6_8 hc hw fl_X0_28 dX0_give_8 ?_
  refine lv_iload_n hx hb dX0_give_11 rfl (lv_at hl 1 rfl) ?_
  refine lv_iload_n hx hb dX0_give_12 rfl (lv_at hl 3 rfl) ?_
  obtain ⟨z, hf⟩ := oi_some hf
  refine tB47 hc hw z dX0_give_13 (fun H locs hw => ?_)
  obtain ⟨u2, eu2, hf⟩ := lt_some hf
  have hw := VW.nm eu2 hw
  exact retV hc hr hlk hw hf dX0_give_14
def f_X9_award_L9 (u : SS) : Option (Int32 × SS) :=
  ob (f_X9_refuse (-2 : Int32) u) fun r3 u2 => some (r3, u2)
def f_X9_award_L36 (u : SS) : Option (Int32 × SS) :=
  ob (f_X9_refuse (-3 : Int32) u) fun r9 u8 => some (r9, u8)
def f_X9_award_L123 (k79 : Int32 → SS → Option (Int32 × SS)) (b2 : Int32) (q0 : Int32) (q1 : Int32) (q2 : Int32) (u : SS) : Option (Int32 × SS) :=
  ov (f_X0_give q2 q1 q0 u) fun u22 => lt (b2 + (1 : Int32)) fun x23 => k79 x23 u22
def b_X9_award_L79 (k79 : Int32 → SS → Option (Int32 × SS)) (b2 : Int32) (u : SS) : Option (Int32 × SS) :=
  if (6 : Int32) ≤ b2 then (some ((gI u 13), u)) else (oi b2 6 (lt (gA u 21 b2.toNatClampNeg) fun x14 => if x14 = (-9 : Int32) then (f_X9_award_L123 k79 b2 (0 : Int32) x14 b2 u) else (ob (f_X9_cell x14 b2 u) fun r17 u16 => ob (f_X1_priceAt r17 u16) fun r20 u19 => f_X9_award_L123 k79 b2 r20 x14 b2 u19)))
def f_X9_award_L79 : Nat → Int32 → SS → Option (Int32 × SS)
  | 0 => fun _ _ => none
  | n + 1 => b_X9_award_L79 (f_X9_award_L79 n)
def f_X9_award_L69 (q0 : Int32) (q1 : Int32) (u : SS) : Option (Int32 × SS) :=
  ov (f_X0_begin (q1 + (q0 * (1440 : Int32))) u) fun u13 => f_X9_award_L79 FU (0 : Int32) u13
def f_X9_award (a1 : Int32) (u : SS) : Option (Int32 × SS) :=
  if a1 < 0 then (f_X9_award_L9 u) else (if a1 ≤ (1 : Int32) then (ob (f_X1_isOpen u) fun r6 u5 => if r6 = 0 then (if (gI u5 15) = 0 then (ov (f_X9_findBest u5) fun u11 => if a1 = 0 then (f_X9_award_L69 (10 : Int32) (gI u11 0) u11) else (f_X9_award_L69 (13 : Int32) (gI u11 0) u11)) else (f_X9_award_L36 u5)) else (f_X9_award_L36 u5)) else (f_X9_award_L9 u))
set_option maxHeartbeats 4000000 in
set_option maxRecDepth 100000 in
theorem c_X9_award (l : Launch) (ev : EV) (a1 : Int32) (u : SS) {r : Int32} {u' : SS} (hf : f_X9_award a1 u = some (r, u')) : MI wdB l yX9_award cX9_award 4 (some .int) 6 ev [.ref (ev.2.1 0), .int a1] u r u' := by
  refine bodyI (by decide +kernel) rfl (Nat.le_of_ble_eq_true rfl) ?_
  intro p e s m below meth cd ls H locs hc hr hlk hw hl
  generalize hav : (List.toArray [.ref (ev.2.1 0), .int a1] : Array Value) = av at hc ⊢
  obtain ⟨hx, hb, hml, hown, hts, hK, hZ⟩ := id hc
  have hl : lv_has ls 4 [(0, .ref (ev.2.1 0)), (1, .int a1)] := hl
  have wL9 : ∀ (u : SS) (H : Heap) (locs : List Loc) (ls : Array Slot), VW wdB ev s u H locs → lv_has ls 4 [(0, .ref (ev.2.1 0))] → f_X9_award_L9  u = some (r, u') → W p l e (rmk 6) s m av below meth cd H locs 0 0 (ZI wdB ev s below av r u') (F0 m 9 ls []) := by
    intro  u H locs ls hw hl hf
    unfold f_X9_award_L9 at hf
    refine lv_aload_n hx hb dX9_award_9 rfl (lv_at hl 0 rfl) ?_
    refine lv_bipush (v := (-2 : Int32)) hx hb dX9_award_10 (by decide) ?_
    obtain ⟨r3, u2, h1, hf⟩ := ob_some hf
    refine endI okB hw (runV_ok (As := [.int (-2 : Int32)]) (rest := []) okB hc hw (c_X9_refuse l ev (-2 : Int32) u h1 H.size) kv_X9_refuse ml_X9_62 (rvB0 ev u) hl.1 rfl rfl (Nat.le_of_ble_eq_true rfl) (rm_le (by decide) (by decide)) dX9_award_12) (fun H locs hw => ?_)
    exact retI hc hr hlk hw hf dX9_award_15
  have wL36 : ∀ (u : SS) (H : Heap) (locs : List Loc) (ls : Array Slot), VW wdB ev s u H locs → lv_has ls 4 [(0, .ref (ev.2.1 0))] → f_X9_award_L36  u = some (r, u') → W p l e (rmk 6) s m av below meth cd H locs 0 0 (ZI wdB ev s below av r u') (F0 m 36 ls []) := by
    intro  u H locs ls hw hl hf
    unfold f_X9_award_L36 at hf
    refine lv_aload_n hx hb dX9_award_36 rfl (lv_at hl 0 rfl) ?_
    refine lv_bipush (v := (-3 : Int32)) hx hb dX9_award_37 (by decide) ?_
    obtain ⟨r9, u8, h7, hf⟩ := ob_some hf
    refine endI okB hw (runV_ok (As := [.int (-3 : Int32)]) (rest := []) okB hc hw (c_X9_refuse l ev (-3 : Int32) u h7 H.size) kv_X9_refuse ml_X9_62 (rvB0 ev u) hl.1 rfl rfl (Nat.le_of_ble_eq_true rfl) (rm_le (by decide) (by decide)) dX9_award_39) (fun H locs hw => ?_)
    exact retI hc hr hlk hw hf dX9_award_42
  have wL123 : ∀ (k79 : Int32 → SS → Option (Int32 × SS)) (hk79 : ∀ (b2 : Int32) (u : SS) (H : Heap) (locs : List Loc) (ls : Array Slot), VW wdB ev s u H locs → lv_has ls 4 [(0, .ref (ev.2.1 0)), (2, .int b2)] → k79 b2 u = some (r, u') → W p l e (rmk 6) s m av below meth cd H locs 0 0 (ZI wdB ev s below av r u') (F0 m 79 ls [])) (b2 : Int32) (q0 : Int32) (q1 : Int32) (q2 : Int32) (u : SS) (H : Heap) (locs : List Loc) (ls : Array Slot), VW wdB ev s u H locs → lv_has ls 4 [(0, .ref (ev.2.1 0)), (2, .int b2)] → f_X9_award_L123 k79 b2 q0 q1 q2 u = some (r, u') → W p l e (rmk 6) s m av below meth cd H locs 0 0 (ZI wdB ev s below av r u') (F0 m 123 ls [.int q0, .int q1, .int q2, .ref (ev.2.1 6)]) := by
    intro k79 hk79 b2 q0 q1 q2 u H locs ls hw hl hf
    unfold f_X9_award_L123 at hf
    obtain ⟨u22, h21, hf⟩ := ov_some hf
    refine endV okB hw (runV_ok (As := [.int q2, .int q1, .int q0]) (rest := []) okB hc hw (c_X0_give l ev q2 q1 q0 u h21 H.size) kv_X0_give ml_X9_273 (rvB6 ev u) hl.1 rfl rfl (Nat.le_of_ble_eq_true rfl) (rm_le (by decide) (by decide)) dX9_award_123) (fun H locs hw => ?_)
    obtain ⟨x23, ex23, hf⟩ := lt_some hf
    refine lv_iinc (v := x23) (lv' := [(2, .int x23), (0, .ref (ev.2.1 0))]) hx hb dX9_award_126 hl (k := 1) rfl (by rw [ex23]; rfl) (by decide) rfl (fun ls hl => ?_)
    refine lv_goto (tgt := 79) hx hb dX9_award_129 (by decide) ?_
    exact hk79 x23 u22 H locs ls hw (lv_sub hl [1, 0] rfl) hf
  have wL79 : ∀ (n : Nat) (b2 : Int32) (u : SS) (H : Heap) (locs : List Loc) (ls : Array Slot), VW wdB ev s u H locs → lv_has ls 4 [(0, .ref (ev.2.1 0)), (2, .int b2)] → f_X9_award_L79 n b2 u = some (r, u') → W p l e (rmk 6) s m av below meth cd H locs 0 0 (ZI wdB ev s below av r u') (F0 m 79 ls []) := by
    intro n
    induction n with
    | zero =>
      intro b2 u H locs ls hw hl hf
      cases hf
    | succ n hk79 =>
      intro b2 u H locs ls hw hl hf
      have hf : b_X9_award_L79 (f_X9_award_L79 n) b2 u = some (r, u') := hf
      unfold b_X9_award_L79 at hf
      refine lv_iload_n hx hb dX9_award_79 rfl (lv_at hl 1 rfl) ?_
      refine lv_bipush (v := (6 : Int32)) hx hb dX9_award_80 (by decide) ?_
      refine lv_icmp_ge (tgt := 132) hx hb dX9_award_82 (by decide) (fun z => ?_) (fun z => ?_)
      · have hf := it_pos z hf
        refine lv_aload_n hx hb dX9_award_132 rfl (lv_at hl 0 rfl) ?_
        refine gB0_4 hc hw fl_X9_40 dX9_award_133 ?_
        refine gB5_2 hc hw fl_X9_257 dX9_award_136 ?_
        exact retI hc hr hlk hw hf dX9_award_139
      · have hf := it_neg z hf
        refine lv_aload_n hx hb dX9_award_85 rfl (lv_at hl 0 rfl) ?_
        refine gB0_4 hc hw fl_X9_40 dX9_award_86 ?_
        refine gB5_1 hc hw fl_X9_263 dX9_award_89 ?_
        refine lv_iload_n hx hb dX9_award_92 rfl (lv_at hl 1 rfl) ?_
        obtain ⟨z, hf⟩ := oi_some hf
        refine aB36 hc hw z dX9_award_93 ?_
        obtain ⟨x14, ex14, hf⟩ := lt_some hf
        refine tope ex14 ?_
        refine lv_istore_n (lv' := [(3, .int x14), (0, .ref (ev.2.1 0)), (2, .int b2)]) hx hb dX9_award_94 rfl hl (by decide) rfl (fun ls hl => ?_)
        refine lv_aload_n hx hb dX9_award_95 rfl (lv_at hl 1 rfl) ?_
        refine gB0_5 hc hw fl_X9_47 dX9_award_96 ?_
        refine lv_iload_n hx hb dX9_award_99 rfl (lv_at hl 2 rfl) ?_
        refine lv_iload_n hx hb dX9_award_100 rfl (lv_at hl 0 rfl) ?_
        refine lv_iload_n hx hb dX9_award_101 rfl (lv_at hl 0 rfl) ?_
        refine lv_bipush (v := (-9 : Int32)) hx hb dX9_award_102 (by decide) ?_
        refine lv_icmp_ne (tgt := 111) hx hb dX9_award_104 (by decide) (fun z => ?_) (fun z => ?_)
        · have hf := it_neg z hf
          refine lv_aload_n hx hb dX9_award_111 rfl (lv_at hl 1 rfl) ?_
          refine gB0_0 hc hw fl_X9_12 dX9_award_112 ?_
          refine lv_iload_n hx hb dX9_award_115 rfl (lv_at hl 0 rfl) ?_
          refine lv_iload_n hx hb dX9_award_116 rfl (lv_at hl 2 rfl) ?_
          obtain ⟨r17, u16, h15, hf⟩ := ob_some hf
          refine endI okB hw (runS_ok (As := [.int x14, .int b2]) (rest := [.ref (ev.2.1 1), .int x14, .int b2, .ref (ev.2.1 6)]) okB hc hw (c_X9_cell l ev x14 b2 u h15 H.size) ks_X9_cell ml_X9_110 hl.1 rfl rfl (Nat.le_of_ble_eq_true rfl) (rm_le (by decide) (by decide)) dX9_award_117) (fun H locs hw => ?_)
          obtain ⟨r20, u19, h18, hf⟩ := ob_some hf
          refine endI okB hw (runV_ok (As := [.int r17]) (rest := [.int x14, .int b2, .ref (ev.2.1 6)]) okB hc hw (c_X1_priceAt l ev r17 u16 h18 H.size) kv_X1_priceAt ml_X9_131 (rvB1 ev u16) hl.1 rfl rfl (Nat.le_of_ble_eq_true rfl) (rm_le (by decide) (by decide)) dX9_award_120) (fun H locs hw => ?_)
          exact wL123 (f_X9_award_L79 n) hk79 b2 r20 x14 b2 u19 H locs ls hw (lv_sub hl [1, 2] rfl) hf
        · have hf := it_pos z hf
          refine lv_iconst (v := (0 : Int32)) hx hb dX9_award_107 (by decide) ?_
          refine lv_goto (tgt := 123) hx hb dX9_award_108 (by decide) ?_
          exact wL123 (f_X9_award_L79 n) hk79 b2 (0 : Int32) x14 b2 u H locs ls hw (lv_sub hl [1, 2] rfl) hf
  have wL69 : ∀ (q0 : Int32) (q1 : Int32) (u : SS) (H : Heap) (locs : List Loc) (ls : Array Slot), VW wdB ev s u H locs → lv_has ls 4 [(0, .ref (ev.2.1 0))] → f_X9_award_L69 q0 q1 u = some (r, u') → W p l e (rmk 6) s m av below meth cd H locs 0 0 (ZI wdB ev s below av r u') (F0 m 69 ls [.int q0, .int q1, .ref (ev.2.1 6)]) := by
    intro q0 q1 u H locs ls hw hl hf
    unfold f_X9_award_L69 at hf
    refine lv_sipush (v := (1440 : Int32)) hx hb dX9_award_69 (by decide) ?_
    refine lv_imul hx hb dX9_award_72 ?_
    refine lv_iadd hx hb dX9_award_73 ?_
    obtain ⟨u13, h12, hf⟩ := ov_some hf
    refine endV okB hw (runV_ok (As := [.int (q1 + (q0 * (1440 : Int32)))]) (rest := []) okB hc hw (c_X0_begin l ev (q1 + (q0 * (1440 : Int32))) u h12 H.size) kv_X0_begin ml_X9_270 (rvB6 ev u) hl.1 rfl rfl (Nat.le_of_ble_eq_true rfl) (rm_le (by decide) (by decide)) dX9_award_74) (fun H locs hw => ?_)
    refine lv_iconst (v := (0 : Int32)) hx hb dX9_award_77 (by decide) ?_
    refine lv_istore_n (lv' := [(2, .int (0 : Int32)), (0, .ref (ev.2.1 0))]) hx hb dX9_award_78 rfl hl (by decide) rfl (fun ls hl => ?_)
    exact wL79 FU (0 : Int32) u13 H locs ls hw (lv_sub hl [1, 0] rfl) hf
  unfold f_X9_award at hf
  refine lv_iload_n hx hb dX9_award_0 rfl (lv_at hl 1 rfl) ?_
  refine lv_if_lt (tgt := 9) hx hb dX9_award_1 (by decide) (fun z => ?_) (fun z => ?_)
  · have hf := it_pos z hf
    exact wL9 u H locs ls hw (lv_sub hl [0] rfl) hf
  · have hf := it_neg z hf
    refine lv_iload_n hx hb dX9_award_4 rfl (lv_at hl 1 rfl) ?_
    refine lv_iconst (v := (1 : Int32)) hx hb dX9_award_5 (by decide) ?_
    refine lv_icmp_le (tgt := 16) hx hb dX9_award_6 (by decide) (fun z => ?_) (fun z => ?_)
    · have hf := it_pos z hf
      refine lv_aload_n hx hb dX9_award_16 rfl (lv_at hl 0 rfl) ?_
      refine gB0_0 hc hw fl_X9_12 dX9_award_17 ?_
      obtain ⟨r6, u5, h4, hf⟩ := ob_some hf
      refine endI okB hw (runV_ok (As := []) (rest := []) okB hc hw (c_X1_isOpen l ev u h4 H.size) kv_X1_isOpen ml_X9_71 (rvB1 ev u) hl.1 rfl rfl (Nat.le_of_ble_eq_true rfl) (rm_le (by decide) (by decide)) dX9_award_20) (fun H locs hw => ?_)
      refine lv_if_ne (tgt := 36) hx hb dX9_award_23 (by decide) (fun z => ?_) (fun z => ?_)
      · have hf := it_neg z hf
        exact wL36 u5 H locs ls hw (lv_sub hl [0] rfl) hf
      · have hf := it_pos z hf
        refine lv_aload_n hx hb dX9_award_26 rfl (lv_at hl 0 rfl) ?_
        refine gB0_5 hc hw fl_X9_47 dX9_award_27 ?_
        refine gB6_0 hc hw fl_X9_266 dX9_award_30 ?_
        refine lv_if_eq (tgt := 43) hx hb dX9_award_33 (by decide) (fun z => ?_) (fun z => ?_)
        · have hf := it_pos z hf
          refine lv_aload_n hx hb dX9_award_43 rfl (lv_at hl 0 rfl) ?_
          obtain ⟨u11, h10, hf⟩ := ov_some hf
          refine endV okB hw (runV_ok (As := []) (rest := []) okB hc hw (c_X9_findBest l ev u5 h10 H.size) kv_X9_findBest ml_X9_254 (rvB0 ev u5) hl.1 rfl rfl (Nat.le_of_ble_eq_true rfl) (rm_le (by decide) (by decide)) dX9_award_44) (fun H locs hw => ?_)
          refine lv_aload_n hx hb dX9_award_47 rfl (lv_at hl 0 rfl) ?_
          refine gB0_5 hc hw fl_X9_47 dX9_award_48 ?_
          refine lv_aload_n hx hb dX9_award_51 rfl (lv_at hl 0 rfl) ?_
          refine gB0_0 hc hw fl_X9_12 dX9_award_52 ?_
          refine gB1_9 hc hw fl_X9_67 dX9_award_55 ?_
          refine lv_iload_n hx hb dX9_award_58 rfl (lv_at hl 1 rfl) ?_
          refine lv_if_ne (tgt := 67) hx hb dX9_award_59 (by decide) (fun z => ?_) (fun z => ?_)
          · have hf := it_neg z hf
            refine lv_bipush (v := (13 : Int32)) hx hb dX9_award_67 (by decide) ?_
            exact wL69 (13 : Int32) (gI u11 0) u11 H locs ls hw (lv_sub hl [0] rfl) hf
          · have hf := it_pos z hf
            refine lv_bipush (v := (10 : Int32)) hx hb dX9_award_62 (by decide) ?_
            refine lv_goto (tgt := 69) hx hb dX9_award_64 (by decide) ?_
            exact wL69 (10 : Int32) (gI u11 0) u11 H locs ls hw (lv_sub hl [0] rfl) hf
        · have hf := it_neg z hf
          exact wL36 u5 H locs ls hw (lv_sub hl [0] rfl) hf
    · have hf := it_neg z hf
      exact wL9 u H locs ls hw (lv_sub hl [0] rfl) hf
def f_X9_awarded (a1 : Int32) (u : SS) : Option (Int32 × SS) :=
  ob (f_X9_noLot a1 u) fun r3 u2 => if r3 = 0 then (if (gI u2 15) = 0 then (ob (f_X9_refuse (-3 : Int32) u2) fun r6 u5 => some (r6, u5)) else (oi a1 6 (some ((gA u2 25 a1.toNatClampNeg), u2)))) else (ob (f_X9_refuse (-1 : Int32) u2) fun r9 u8 => some (r9, u8))
set_option maxHeartbeats 4000000 in
set_option maxRecDepth 100000 in
theorem c_X9_awarded (l : Launch) (ev : EV) (a1 : Int32) (u : SS) {r : Int32} {u' : SS} (hf : f_X9_awarded a1 u = some (r, u')) : MI wdB l yX9_awarded cX9_awarded 2 (some .int) 1 ev [.ref (ev.2.1 0), .int a1] u r u' := by
  refine bodyI (by decide +kernel) rfl (Nat.le_of_ble_eq_true rfl) ?_
  intro p e s m below meth cd ls H locs hc hr hlk hw hl
  generalize hav : (List.toArray [.ref (ev.2.1 0), .int a1] : Array Value) = av at hc ⊢
  obtain ⟨hx, hb, hml, hown, hts, hK, hZ⟩ := id hc
  have hl : lv_has ls 2 [(0, .ref (ev.2.1 0)), (1, .int a1)] := hl
  unfold f_X9_awarded at hf
  refine lv_aload_n hx hb dX9_awarded_0 rfl (lv_at hl 0 rfl) ?_
  refine lv_iload_n hx hb dX9_awarded_1 rfl (lv_at hl 1 rfl) ?_
  obtain ⟨r3, u2, h1, hf⟩ := ob_some hf
  refine endI okB hw (runV_ok (As := [.int a1]) (rest := []) okB hc hw (c_X9_noLot l ev a1 u h1 H.size) kv_X9_noLot ml_X9_193 (rvB0 ev u) hl.1 rfl rfl (Nat.le_of_ble_eq_true rfl) (rm_le (by decide) (by decide)) dX9_awarded_2) (fun H locs hw => ?_)
  refine lv_if_eq (tgt := 14) hx hb dX9_awarded_5 (by decide) (fun z => ?_) (fun z => ?_)
  · have hf := it_pos z hf
    refine lv_aload_n hx hb dX9_awarded_14 rfl (lv_at hl 0 rfl) ?_
    refine gB0_5 hc hw fl_X9_47 dX9_awarded_15 ?_
    refine gB6_0 hc hw fl_X9_266 dX9_awarded_18 ?_
    refine lv_if_ne (tgt := 31) hx hb dX9_awarded_21 (by decide) (fun z => ?_) (fun z => ?_)
    · have hf := it_neg z hf
      refine lv_aload_n hx hb dX9_awarded_31 rfl (lv_at hl 0 rfl) ?_
      refine gB0_5 hc hw fl_X9_47 dX9_awarded_32 ?_
      refine gB6_3 hc hw fl_X9_277 dX9_awarded_35 ?_
      refine lv_iload_n hx hb dX9_awarded_38 rfl (lv_at hl 1 rfl) ?_
      obtain ⟨z, hf⟩ := oi_some hf
      refine aB42 hc hw z dX9_awarded_39 ?_
      exact retI hc hr hlk hw hf dX9_awarded_40
    · have hf := it_pos z hf
      refine lv_aload_n hx hb dX9_awarded_24 rfl (lv_at hl 0 rfl) ?_
      refine lv_bipush (v := (-3 : Int32)) hx hb dX9_awarded_25 (by decide) ?_
      obtain ⟨r6, u5, h4, hf⟩ := ob_some hf
      refine endI okB hw (runV_ok (As := [.int (-3 : Int32)]) (rest := []) okB hc hw (c_X9_refuse l ev (-3 : Int32) u2 h4 H.size) kv_X9_refuse ml_X9_62 (rvB0 ev u2) hl.1 rfl rfl (Nat.le_of_ble_eq_true rfl) (rm_le (by decide) (by decide)) dX9_awarded_27) (fun H locs hw => ?_)
      exact retI hc hr hlk hw hf dX9_awarded_30
  · have hf := it_neg z hf
    refine lv_aload_n hx hb dX9_awarded_8 rfl (lv_at hl 0 rfl) ?_
    refine lv_iconst (v := (-1 : Int32)) hx hb dX9_awarded_9 (by decide) ?_
    obtain ⟨r9, u8, h7, hf⟩ := ob_some hf
    refine endI okB hw (runV_ok (As := [.int (-1 : Int32)]) (rest := []) okB hc hw (c_X9_refuse l ev (-1 : Int32) u2 h7 H.size) kv_X9_refuse ml_X9_62 (rvB0 ev u2) hl.1 rfl rfl (Nat.le_of_ble_eq_true rfl) (rm_le (by decide) (by decide)) dX9_awarded_10) (fun H locs hw => ?_)
    exact retI hc hr hlk hw hf dX9_awarded_13
def f_X0_isStandstillOver (a1 : Int32) (u : SS) : Option (Int32 × SS) :=
  if a1 ≤ (gI u 19) then (some ((0 : Int32), u)) else (some ((1 : Int32), u))
set_option maxHeartbeats 4000000 in
set_option maxRecDepth 100000 in
theorem c_X0_isStandstillOver (l : Launch) (ev : EV) (a1 : Int32) (u : SS) {r : Int32} {u' : SS} (hf : f_X0_isStandstillOver a1 u = some (r, u')) : MI wdB l yX0_isStandstillOver cX0_isStandstillOver 2 (some .boolean) 0 ev [.ref (ev.2.1 6), .int a1] u r u' := by
  refine bodyI (by decide +kernel) rfl (Nat.le_of_ble_eq_true rfl) ?_
  intro p e s m below meth cd ls H locs hc hr hlk hw hl
  generalize hav : (List.toArray [.ref (ev.2.1 6), .int a1] : Array Value) = av at hc ⊢
  obtain ⟨hx, hb, hml, hown, hts, hK, hZ⟩ := id hc
  have hl : lv_has ls 2 [(0, .ref (ev.2.1 6)), (1, .int a1)] := hl
  unfold f_X0_isStandstillOver at hf
  refine lv_iload_n hx hb dX0_isStandstillOver_0 rfl (lv_at hl 1 rfl) ?_
  refine lv_aload_n hx hb dX0_isStandstillOver_1 rfl (lv_at hl 0 rfl) ?_
  refine gB6_11 hc hw fl_X0_39 dX0_isStandstillOver_2 ?_
  refine lv_icmp_le (tgt := 12) hx hb dX0_isStandstillOver_5 (by decide) (fun z => ?_) (fun z => ?_)
  · have hf := it_pos z hf
    refine lv_iconst (v := (0 : Int32)) hx hb dX0_isStandstillOver_12 (by decide) ?_
    exact retZ hc hr hlk hw nz0 hf dX0_isStandstillOver_13
  · have hf := it_neg z hf
    refine lv_iconst (v := (1 : Int32)) hx hb dX0_isStandstillOver_8 (by decide) ?_
    refine lv_goto (tgt := 13) hx hb dX0_isStandstillOver_9 (by decide) ?_
    exact retZ hc hr hlk hw nz1 hf dX0_isStandstillOver_13
def f_X0_addChallenge (a1 : Int32) (a2 : Int32) (u : SS) : Option (Int32 × SS) :=
  lt (gI u 17) fun x1 => oi x1 20 (lt (tA u 26 x1 a1) fun u2 => oi x1 20 (lt (tA u2 27 x1 a2) fun u3 => oi x1 20 (lt (tA u3 29 x1 (gI u3 18)) fun u4 => lt (sI u4 17 ((gI u4 17) + (1 : Int32))) fun u5 => some (x1, u5))))
set_option maxHeartbeats 4000000 in
set_option maxRecDepth 100000 in
theorem c_X0_addChallenge (l : Launch) (ev : EV) (a1 : Int32) (a2 : Int32) (u : SS) {r : Int32} {u' : SS} (hf : f_X0_addChallenge a1 a2 u = some (r, u')) : MI wdB l yX0_addChallenge cX0_addChallenge 4 (some .int) 0 ev [.ref (ev.2.1 6), .int a1, .int a2] u r u' := by
  refine bodyI (by decide +kernel) rfl (Nat.le_of_ble_eq_true rfl) ?_
  intro p e s m below meth cd ls H locs hc hr hlk hw hl
  generalize hav : (List.toArray [.ref (ev.2.1 6), .int a1, .int a2] : Array Value) = av at hc ⊢
  obtain ⟨hx, hb, hml, hown, hts, hK, hZ⟩ := id hc
  have hl : lv_has ls 4 [(0, .ref (ev.2.1 6)), (1, .int a1), (2, .int a2)] := hl
  unfold f_X0_addChallenge at hf
  refine lv_aload_n hx hb dX0_addChallenge_0 rfl (lv_at hl 0 rfl) ?_
  refine gB6_2 hc hw fl_X0_46 dX0_addChallenge_1 ?_
  obtain ⟨x1, ex1, hf⟩ := lt_some hf
  refine tope ex1 ?_
  refine lv_istore_n (lv' := [(3, .int x1), (0, .ref (ev.2.1 6)), (1, .int a1), (2, .int a2)]) hx hb dX0_addChallenge_4 rfl hl (by decide) rfl (fun ls hl => ?_)
  refine lv_aload_n hx hb dX0_addChallenge_5 rfl (lv_at hl 1 rfl) ?_
  refine gB6_4 hc hw fl_X0_15 dX0_addChallenge_6 ?_
  refine lv_iload_n hx hb dX0_addChallenge_9 rfl (lv_at hl 0 rfl) ?_
  refine lv_iload_n hx hb dX0_addChallenge_10 rfl (lv_at hl 2 rfl) ?_
  obtain ⟨z, hf⟩ := oi_some hf
  refine tB43 hc hw z dX0_addChallenge_11 (fun H locs hw => ?_)
  obtain ⟨u2, eu2, hf⟩ := lt_some hf
  have hw := VW.nm eu2 hw
  refine lv_aload_n hx hb dX0_addChallenge_12 rfl (lv_at hl 1 rfl) ?_
  refine gB6_5 hc hw fl_X0_18 dX0_addChallenge_13 ?_
  refine lv_iload_n hx hb dX0_addChallenge_16 rfl (lv_at hl 0 rfl) ?_
  refine lv_iload_n hx hb dX0_addChallenge_17 rfl (lv_at hl 3 rfl) ?_
  obtain ⟨z, hf⟩ := oi_some hf
  refine tB44 hc hw z dX0_addChallenge_18 (fun H locs hw => ?_)
  obtain ⟨u3, eu3, hf⟩ := lt_some hf
  have hw := VW.nm eu3 hw
  refine lv_aload_n hx hb dX0_addChallenge_19 rfl (lv_at hl 1 rfl) ?_
  refine gB6_7 hc hw fl_X0_25 dX0_addChallenge_20 ?_
  refine lv_iload_n hx hb dX0_addChallenge_23 rfl (lv_at hl 0 rfl) ?_
  refine lv_aload_n hx hb dX0_addChallenge_24 rfl (lv_at hl 1 rfl) ?_
  refine gB6_10 hc hw fl_X0_43 dX0_addChallenge_25 ?_
  obtain ⟨z, hf⟩ := oi_some hf
  refine tB46 hc hw z dX0_addChallenge_28 (fun H locs hw => ?_)
  obtain ⟨u4, eu4, hf⟩ := lt_some hf
  have hw := VW.nm eu4 hw
  refine lv_aload_n hx hb dX0_addChallenge_29 rfl (lv_at hl 1 rfl) ?_
  refine lv_dup hx hb dX0_addChallenge_30 rfl ?_
  refine gB6_2 hc hw fl_X0_46 dX0_addChallenge_31 ?_
  refine lv_iconst (v := (1 : Int32)) hx hb dX0_addChallenge_34 (by decide) ?_
  refine lv_iadd hx hb dX0_addChallenge_35 ?_
  refine pB6_2 hc hw fl_X0_46 dX0_addChallenge_36 (fun H locs hw => ?_)
  obtain ⟨u5, eu5, hf⟩ := lt_some hf
  have hw := VW.nm eu5 hw
  refine lv_iload_n hx hb dX0_addChallenge_39 rfl (lv_at hl 0 rfl) ?_
  exact retI hc hr hlk hw hf dX0_addChallenge_40
def f_X9_challenge_L23 (u : SS) : Option (Int32 × SS) :=
  ob (f_X9_refuse (-2 : Int32) u) fun r6 u5 => some (r6, u5)
def f_X9_challenge_L67 (u : SS) : Option (Int32 × SS) :=
  ob (f_X9_refuse (-3 : Int32) u) fun r9 u8 => some (r9, u8)
def f_X9_challenge (a1 : Int32) (a2 : Int32) (u : SS) : Option (Int32 × SS) :=
  ob (f_X9_noLot a1 u) fun r3 u2 => if r3 = 0 then (if a2 < 0 then (f_X9_challenge_L23 u2) else (if a2 < (3 : Int32) then (if (gI u2 15) = 0 then (f_X9_challenge_L67 u2) else (if (gI u2 16) = 0 then (ob (f_X0_isStandstillOver (gI u2 0) u2) fun r12 u11 => if r12 = 0 then (if (gI u11 17) < (20 : Int32) then (ob (f_X0_addChallenge a1 a2 u11) fun r15 u14 => some (r15, u14)) else (ob (f_X9_refuse (-6 : Int32) u11) fun r18 u17 => some (r18, u17))) else (f_X9_challenge_L67 u11)) else (f_X9_challenge_L67 u2))) else (f_X9_challenge_L23 u2))) else (ob (f_X9_refuse (-1 : Int32) u2) fun r21 u20 => some (r21, u20))
set_option maxHeartbeats 4000000 in
set_option maxRecDepth 100000 in
theorem c_X9_challenge (l : Launch) (ev : EV) (a1 : Int32) (a2 : Int32) (u : SS) {r : Int32} {u' : SS} (hf : f_X9_challenge a1 a2 u = some (r, u')) : MI wdB l yX9_challenge cX9_challenge 3 (some .int) 1 ev [.ref (ev.2.1 0), .int a1, .int a2] u r u' := by
  refine bodyI (by decide +kernel) rfl (Nat.le_of_ble_eq_true rfl) ?_
  intro p e s m below meth cd ls H locs hc hr hlk hw hl
  generalize hav : (List.toArray [.ref (ev.2.1 0), .int a1, .int a2] : Array Value) = av at hc ⊢
  obtain ⟨hx, hb, hml, hown, hts, hK, hZ⟩ := id hc
  have hl : lv_has ls 3 [(0, .ref (ev.2.1 0)), (1, .int a1), (2, .int a2)] := hl
  have wL23 : ∀ (u : SS) (H : Heap) (locs : List Loc) (ls : Array Slot), VW wdB ev s u H locs → lv_has ls 3 [(0, .ref (ev.2.1 0))] → f_X9_challenge_L23  u = some (r, u') → W p l e (rmk 1) s m av below meth cd H locs 0 0 (ZI wdB ev s below av r u') (F0 m 23 ls []) := by
    intro  u H locs ls hw hl hf
    unfold f_X9_challenge_L23 at hf
    refine lv_aload_n hx hb dX9_challenge_23 rfl (lv_at hl 0 rfl) ?_
    refine lv_bipush (v := (-2 : Int32)) hx hb dX9_challenge_24 (by decide) ?_
    obtain ⟨r6, u5, h4, hf⟩ := ob_some hf
    refine endI okB hw (runV_ok (As := [.int (-2 : Int32)]) (rest := []) okB hc hw (c_X9_refuse l ev (-2 : Int32) u h4 H.size) kv_X9_refuse ml_X9_62 (rvB0 ev u) hl.1 rfl rfl (Nat.le_of_ble_eq_true rfl) (rm_le (by decide) (by decide)) dX9_challenge_26) (fun H locs hw => ?_)
    exact retI hc hr hlk hw hf dX9_challenge_29
  have wL67 : ∀ (u : SS) (H : Heap) (locs : List Loc) (ls : Array Slot), VW wdB ev s u H locs → lv_has ls 3 [(0, .ref (ev.2.1 0))] → f_X9_challenge_L67  u = some (r, u') → W p l e (rmk 1) s m av below meth cd H locs 0 0 (ZI wdB ev s below av r u') (F0 m 67 ls []) := by
    intro  u H locs ls hw hl hf
    unfold f_X9_challenge_L67 at hf
    refine lv_aload_n hx hb dX9_challenge_67 rfl (lv_at hl 0 rfl) ?_
    refine lv_bipush (v := (-3 : Int32)) hx hb dX9_challenge_68 (by decide) ?_
    obtain ⟨r9, u8, h7, hf⟩ := ob_some hf
    refine endI okB hw (runV_ok (As := [.int (-3 : Int32)]) (rest := []) okB hc hw (c_X9_refuse l ev (-3 : Int32) u h7 H.size) kv_X9_refuse ml_X9_62 (rvB0 ev u) hl.1 rfl rfl (Nat.le_of_ble_eq_true rfl) (rm_le (by decide) (by decide)) dX9_challenge_70) (fun H locs hw => ?_)
    exact retI hc hr hlk hw hf dX9_challenge_73
  unfold f_X9_challenge at hf
  refine lv_aload_n hx hb dX9_challenge_0 rfl (lv_at hl 0 rfl) ?_
  refine lv_iload_n hx hb dX9_challenge_1 rfl (lv_at hl 1 rfl) ?_
  obtain ⟨r3, u2, h1, hf⟩ := ob_some hf
  refine endI okB hw (runV_ok (As := [.int a1]) (rest := []) okB hc hw (c_X9_noLot l ev a1 u h1 H.size) kv_X9_noLot ml_X9_193 (rvB0 ev u) hl.1 rfl rfl (Nat.le_of_ble_eq_true rfl) (rm_le (by decide) (by decide)) dX9_challenge_2) (fun H locs hw => ?_)
  refine lv_if_eq (tgt := 14) hx hb dX9_challenge_5 (by decide) (fun z => ?_) (fun z => ?_)
  · have hf := it_pos z hf
    refine lv_iload_n hx hb dX9_challenge_14 rfl (lv_at hl 2 rfl) ?_
    refine lv_if_lt (tgt := 23) hx hb dX9_challenge_15 (by decide) (fun z => ?_) (fun z => ?_)
    · have hf := it_pos z hf
      exact wL23 u2 H locs ls hw (lv_sub hl [0] rfl) hf
    · have hf := it_neg z hf
      refine lv_iload_n hx hb dX9_challenge_18 rfl (lv_at hl 2 rfl) ?_
      refine lv_iconst (v := (3 : Int32)) hx hb dX9_challenge_19 (by decide) ?_
      refine lv_icmp_lt (tgt := 30) hx hb dX9_challenge_20 (by decide) (fun z => ?_) (fun z => ?_)
      · have hf := it_pos z hf
        refine lv_aload_n hx hb dX9_challenge_30 rfl (lv_at hl 0 rfl) ?_
        refine gB0_5 hc hw fl_X9_47 dX9_challenge_31 ?_
        refine gB6_0 hc hw fl_X9_266 dX9_challenge_34 ?_
        refine lv_if_eq (tgt := 67) hx hb dX9_challenge_37 (by decide) (fun z => ?_) (fun z => ?_)
        · have hf := it_pos z hf
          exact wL67 u2 H locs ls hw (lv_sub hl [0] rfl) hf
        · have hf := it_neg z hf
          refine lv_aload_n hx hb dX9_challenge_40 rfl (lv_at hl 0 rfl) ?_
          refine gB0_5 hc hw fl_X9_47 dX9_challenge_41 ?_
          refine gB6_1 hc hw fl_X9_278 dX9_challenge_44 ?_
          refine lv_if_ne (tgt := 67) hx hb dX9_challenge_47 (by decide) (fun z => ?_) (fun z => ?_)
          · have hf := it_neg z hf
            exact wL67 u2 H locs ls hw (lv_sub hl [0] rfl) hf
          · have hf := it_pos z hf
            refine lv_aload_n hx hb dX9_challenge_50 rfl (lv_at hl 0 rfl) ?_
            refine gB0_5 hc hw fl_X9_47 dX9_challenge_51 ?_
            refine lv_aload_n hx hb dX9_challenge_54 rfl (lv_at hl 0 rfl) ?_
            refine gB0_0 hc hw fl_X9_12 dX9_challenge_55 ?_
            refine gB1_9 hc hw fl_X9_67 dX9_challenge_58 ?_
            obtain ⟨r12, u11, h10, hf⟩ := ob_some hf
            refine endI okB hw (runV_ok (As := [.int (gI u2 0)]) (rest := []) okB hc hw (c_X0_isStandstillOver l ev (gI u2 0) u2 h10 H.size) kv_X0_isStandstillOver ml_X9_281 (rvB6 ev u2) hl.1 rfl rfl (Nat.le_of_ble_eq_true rfl) (rm_le (by decide) (by decide)) dX9_challenge_61) (fun H locs hw => ?_)
            refine lv_if_eq (tgt := 74) hx hb dX9_challenge_64 (by decide) (fun z => ?_) (fun z => ?_)
            · have hf := it_pos z hf
              refine lv_aload_n hx hb dX9_challenge_74 rfl (lv_at hl 0 rfl) ?_
              refine gB0_5 hc hw fl_X9_47 dX9_challenge_75 ?_
              refine gB6_2 hc hw fl_X9_284 dX9_challenge_78 ?_
              refine lv_bipush (v := (20 : Int32)) hx hb dX9_challenge_81 (by decide) ?_
              refine lv_icmp_lt (tgt := 93) hx hb dX9_challenge_83 (by decide) (fun z => ?_) (fun z => ?_)
              · have hf := it_pos z hf
                refine lv_aload_n hx hb dX9_challenge_93 rfl (lv_at hl 0 rfl) ?_
                refine gB0_5 hc hw fl_X9_47 dX9_challenge_94 ?_
                refine lv_iload_n hx hb dX9_challenge_97 rfl (lv_at hl 1 rfl) ?_
                refine lv_iload_n hx hb dX9_challenge_98 rfl (lv_at hl 2 rfl) ?_
                obtain ⟨r15, u14, h13, hf⟩ := ob_some hf
                refine endI okB hw (runV_ok (As := [.int a1, .int a2]) (rest := []) okB hc hw (c_X0_addChallenge l ev a1 a2 u11 h13 H.size) kv_X0_addChallenge ml_X9_287 (rvB6 ev u11) hl.1 rfl rfl (Nat.le_of_ble_eq_true rfl) (rm_le (by decide) (by decide)) dX9_challenge_99) (fun H locs hw => ?_)
                exact retI hc hr hlk hw hf dX9_challenge_102
              · have hf := it_neg z hf
                refine lv_aload_n hx hb dX9_challenge_86 rfl (lv_at hl 0 rfl) ?_
                refine lv_bipush (v := (-6 : Int32)) hx hb dX9_challenge_87 (by decide) ?_
                obtain ⟨r18, u17, h16, hf⟩ := ob_some hf
                refine endI okB hw (runV_ok (As := [.int (-6 : Int32)]) (rest := []) okB hc hw (c_X9_refuse l ev (-6 : Int32) u11 h16 H.size) kv_X9_refuse ml_X9_62 (rvB0 ev u11) hl.1 rfl rfl (Nat.le_of_ble_eq_true rfl) (rm_le (by decide) (by decide)) dX9_challenge_89) (fun H locs hw => ?_)
                exact retI hc hr hlk hw hf dX9_challenge_92
            · have hf := it_neg z hf
              exact wL67 u11 H locs ls hw (lv_sub hl [0] rfl) hf
      · have hf := it_neg z hf
        exact wL23 u2 H locs ls hw (lv_sub hl [0] rfl) hf
  · have hf := it_neg z hf
    refine lv_aload_n hx hb dX9_challenge_8 rfl (lv_at hl 0 rfl) ?_
    refine lv_iconst (v := (-1 : Int32)) hx hb dX9_challenge_9 (by decide) ?_
    obtain ⟨r21, u20, h19, hf⟩ := ob_some hf
    refine endI okB hw (runV_ok (As := [.int (-1 : Int32)]) (rest := []) okB hc hw (c_X9_refuse l ev (-1 : Int32) u2 h19 H.size) kv_X9_refuse ml_X9_62 (rvB0 ev u2) hl.1 rfl rfl (Nat.le_of_ble_eq_true rfl) (rm_le (by decide) (by decide)) dX9_challenge_10) (fun H locs hw => ?_)
    exact retI hc hr hlk hw hf dX9_challenge_13
def f_X0_holds (a1 : Int32) (u : SS) : Option (Int32 × SS) :=
  if (gI u 15) = 0 then (some ((0 : Int32), u)) else (oi a1 20 (if (gA u 28 a1.toNatClampNeg) = 0 then (oi a1 20 (if (gA u 29 a1.toNatClampNeg) = (gI u 18) then (some ((1 : Int32), u)) else (some ((0 : Int32), u)))) else (some ((0 : Int32), u))))
set_option maxHeartbeats 4000000 in
set_option maxRecDepth 100000 in
theorem c_X0_holds (l : Launch) (ev : EV) (a1 : Int32) (u : SS) {r : Int32} {u' : SS} (hf : f_X0_holds a1 u = some (r, u')) : MI wdB l yX0_holds cX0_holds 2 (some .boolean) 0 ev [.ref (ev.2.1 6), .int a1] u r u' := by
  refine bodyI (by decide +kernel) rfl (Nat.le_of_ble_eq_true rfl) ?_
  intro p e s m below meth cd ls H locs hc hr hlk hw hl
  generalize hav : (List.toArray [.ref (ev.2.1 6), .int a1] : Array Value) = av at hc ⊢
  obtain ⟨hx, hb, hml, hown, hts, hK, hZ⟩ := id hc
  have hl : lv_has ls 2 [(0, .ref (ev.2.1 6)), (1, .int a1)] := hl
  unfold f_X0_holds at hf
  refine lv_aload_n hx hb dX0_holds_0 rfl (lv_at hl 0 rfl) ?_
  refine gB6_0 hc hw fl_X0_35 dX0_holds_1 ?_
  refine lv_if_eq (tgt := 33) hx hb dX0_holds_4 (by decide) (fun z => ?_) (fun z => ?_)
  · have hf := it_pos z hf
    refine lv_iconst (v := (0 : Int32)) hx hb dX0_holds_33 (by decide) ?_
    exact retZ hc hr hlk hw nz0 hf dX0_holds_34
  · have hf := it_neg z hf
    refine lv_aload_n hx hb dX0_holds_7 rfl (lv_at hl 0 rfl) ?_
    refine gB6_6 hc hw fl_X0_21 dX0_holds_8 ?_
    refine lv_iload_n hx hb dX0_holds_11 rfl (lv_at hl 1 rfl) ?_
    obtain ⟨z, hf⟩ := oi_some hf
    refine aB45 hc hw z dX0_holds_12 ?_
    refine lv_if_ne (tgt := 33) hx hb dX0_holds_13 (by decide) (fun z => ?_) (fun z => ?_)
    · have hf := it_neg z hf
      refine lv_iconst (v := (0 : Int32)) hx hb dX0_holds_33 (by decide) ?_
      exact retZ hc hr hlk hw nz0 hf dX0_holds_34
    · have hf := it_pos z hf
      refine lv_aload_n hx hb dX0_holds_16 rfl (lv_at hl 0 rfl) ?_
      refine gB6_7 hc hw fl_X0_25 dX0_holds_17 ?_
      refine lv_iload_n hx hb dX0_holds_20 rfl (lv_at hl 1 rfl) ?_
      obtain ⟨z, hf⟩ := oi_some hf
      refine aB46 hc hw z dX0_holds_21 ?_
      refine lv_aload_n hx hb dX0_holds_22 rfl (lv_at hl 0 rfl) ?_
      refine gB6_10 hc hw fl_X0_43 dX0_holds_23 ?_
      refine lv_icmp_ne (tgt := 33) hx hb dX0_holds_26 (by decide) (fun z => ?_) (fun z => ?_)
      · have hf := it_neg z hf
        refine lv_iconst (v := (0 : Int32)) hx hb dX0_holds_33 (by decide) ?_
        exact retZ hc hr hlk hw nz0 hf dX0_holds_34
      · have hf := it_pos z hf
        refine lv_iconst (v := (1 : Int32)) hx hb dX0_holds_29 (by decide) ?_
        refine lv_goto (tgt := 34) hx hb dX0_holds_30 (by decide) ?_
        exact retZ hc hr hlk hw nz1 hf dX0_holds_34
def f_X5_clearLot_L27 (k2 : Int32 → Int32 → SS → Option SS) (b1 : Int32) (b2 : Int32) (u : SS) : Option SS :=
  lt (b2 + (1 : Int32)) fun x1 => k2 b1 x1 u
def b_X5_clearLot_L2 (k2 : Int32 → Int32 → SS → Option SS) (b1 : Int32) (b2 : Int32) (u : SS) : Option SS :=
  if (288 : Int32) ≤ b2 then (some u) else (if (b2 - b2 / (6 : Int32) * (6 : Int32)) = b1 then (oi b2 288 (lt (tA u 10 b2 (-9 : Int32)) fun u2 => f_X5_clearLot_L27 k2 b1 b2 u2)) else (f_X5_clearLot_L27 k2 b1 b2 u))
def f_X5_clearLot_L2 : Nat → Int32 → Int32 → SS → Option SS
  | 0 => fun _ _ _ => none
  | n + 1 => b_X5_clearLot_L2 (f_X5_clearLot_L2 n)
def f_X5_clearLot (a1 : Int32) (u : SS) : Option SS :=
  f_X5_clearLot_L2 FU a1 (0 : Int32) u
set_option maxHeartbeats 4000000 in
set_option maxRecDepth 100000 in
theorem c_X5_clearLot (l : Launch) (ev : EV) (a1 : Int32) (u : SS) {u' : SS} (hf : f_X5_clearLot a1 u = some u') : MV wdB l yX5_clearLot cX5_clearLot 3 none 0 ev [.ref (ev.2.1 2), .int a1] u u' := by
  refine bodyV (by decide +kernel) rfl (Nat.le_of_ble_eq_true rfl) ?_
  intro p e s m below meth cd ls H locs hc hr hlk hw hl
  generalize hav : (List.toArray [.ref (ev.2.1 2), .int a1] : Array Value) = av at hc ⊢
  obtain ⟨hx, hb, hml, hown, hts, hK, hZ⟩ := id hc
  have hl : lv_has ls 3 [(0, .ref (ev.2.1 2)), (1, .int a1)] := hl
  have wL27 : ∀ (k2 : Int32 → Int32 → SS → Option SS) (hk2 : ∀ (b1 : Int32) (b2 : Int32) (u : SS) (H : Heap) (locs : List Loc) (ls : Array Slot), VW wdB ev s u H locs → lv_has ls 3 [(0, .ref (ev.2.1 2)), (1, .int b1), (2, .int b2)] → k2 b1 b2 u = some u' → W p l e (rmk 0) s m av below meth cd H locs 0 0 (ZV wdB ev s below av u') (F0 m 2 ls [])) (b1 : Int32) (b2 : Int32) (u : SS) (H : Heap) (locs : List Loc) (ls : Array Slot), VW wdB ev s u H locs → lv_has ls 3 [(0, .ref (ev.2.1 2)), (1, .int b1), (2, .int b2)] → f_X5_clearLot_L27 k2 b1 b2 u = some u' → W p l e (rmk 0) s m av below meth cd H locs 0 0 (ZV wdB ev s below av u') (F0 m 27 ls []) := by
    intro k2 hk2 b1 b2 u H locs ls hw hl hf
    unfold f_X5_clearLot_L27 at hf
    obtain ⟨x1, ex1, hf⟩ := lt_some hf
    refine lv_iinc (v := x1) (lv' := [(2, .int x1), (0, .ref (ev.2.1 2)), (1, .int b1)]) hx hb dX5_clearLot_27 hl (k := 2) rfl (by rw [ex1]; rfl) (by decide) rfl (fun ls hl => ?_)
    refine lv_goto (tgt := 2) hx hb dX5_clearLot_30 (by decide) ?_
    exact hk2 b1 x1 u H locs ls hw (lv_sub hl [1, 2, 0] rfl) hf
  have wL2 : ∀ (n : Nat) (b1 : Int32) (b2 : Int32) (u : SS) (H : Heap) (locs : List Loc) (ls : Array Slot), VW wdB ev s u H locs → lv_has ls 3 [(0, .ref (ev.2.1 2)), (1, .int b1), (2, .int b2)] → f_X5_clearLot_L2 n b1 b2 u = some u' → W p l e (rmk 0) s m av below meth cd H locs 0 0 (ZV wdB ev s below av u') (F0 m 2 ls []) := by
    intro n
    induction n with
    | zero =>
      intro b1 b2 u H locs ls hw hl hf
      cases hf
    | succ n hk2 =>
      intro b1 b2 u H locs ls hw hl hf
      have hf : b_X5_clearLot_L2 (f_X5_clearLot_L2 n) b1 b2 u = some u' := hf
      unfold b_X5_clearLot_L2 at hf
      refine lv_iload_n hx hb dX5_clearLot_2 rfl (lv_at hl 2 rfl) ?_
      refine lv_aload_n hx hb dX5_clearLot_3 rfl (lv_at hl 0 rfl) ?_
      refine gB2_0 hc hw fl_X5_9 dX5_clearLot_4 ?_
      refine nB19 hc hw dX5_clearLot_7 ?_
      refine lv_icmp_ge (tgt := 33) hx hb dX5_clearLot_8 (by decide) (fun z => ?_) (fun z => ?_)
      · have hf := it_pos z hf
        exact retV hc hr hlk hw hf dX5_clearLot_33
      · have hf := it_neg z hf
        refine lv_iload_n hx hb dX5_clearLot_11 rfl (lv_at hl 2 rfl) ?_
        refine lv_bipush (v := (6 : Int32)) hx hb dX5_clearLot_12 (by decide) ?_
        refine lv_irem hx hb dX5_clearLot_14 (by decide) ?_
        refine lv_iload_n hx hb dX5_clearLot_15 rfl (lv_at hl 1 rfl) ?_
        refine lv_icmp_ne (tgt := 27) hx hb dX5_clearLot_16 (by decide) (fun z => ?_) (fun z => ?_)
        · have hf := it_neg z hf
          exact wL27 (f_X5_clearLot_L2 n) hk2 b1 b2 u H locs ls hw (lv_sub hl [0, 1, 2] rfl) hf
        · have hf := it_pos z hf
          refine lv_aload_n hx hb dX5_clearLot_19 rfl (lv_at hl 0 rfl) ?_
          refine gB2_0 hc hw fl_X5_9 dX5_clearLot_20 ?_
          refine lv_iload_n hx hb dX5_clearLot_23 rfl (lv_at hl 2 rfl) ?_
          refine lv_bipush (v := (-9 : Int32)) hx hb dX5_clearLot_24 (by decide) ?_
          obtain ⟨z, hf⟩ := oi_some hf
          refine tB19 hc hw z dX5_clearLot_26 (fun H locs hw => ?_)
          obtain ⟨u2, eu2, hf⟩ := lt_some hf
          have hw := VW.nm eu2 hw
          exact wL27 (f_X5_clearLot_L2 n) hk2 b1 b2 u2 H locs ls hw (lv_sub hl [0, 1, 2] rfl) hf
  unfold f_X5_clearLot at hf
  refine lv_iconst (v := (0 : Int32)) hx hb dX5_clearLot_0 (by decide) ?_
  refine lv_istore_n (lv' := [(2, .int (0 : Int32)), (0, .ref (ev.2.1 2)), (1, .int a1)]) hx hb dX5_clearLot_1 rfl hl (by decide) rfl (fun ls hl => ?_)
  exact wL2 FU a1 (0 : Int32) u H locs ls hw (lv_sub hl [1, 2, 0] rfl) hf
def f_X1_clearOuts_L28 (k2 : Int32 → Int32 → SS → Option SS) (b1 : Int32) (b2 : Int32) (u : SS) : Option SS :=
  lt (b2 + (1 : Int32)) fun x4 => k2 b1 x4 u
def b_X1_clearOuts_L2 (k2 : Int32 → Int32 → SS → Option SS) (b1 : Int32) (b2 : Int32) (u : SS) : Option SS :=
  if (8 : Int32) ≤ b2 then (some u) else (ob (f_X9_cell b2 b1 u) fun r3 u2 => oi r3 48 (if (gA u2 3 r3.toNatClampNeg) = 0 then (f_X1_clearOuts_L28 k2 b1 b2 u2) else (ov (f_X1_clearOut r3 u2) fun u6 => f_X1_clearOuts_L28 k2 b1 b2 u6)))
def f_X1_clearOuts_L2 : Nat → Int32 → Int32 → SS → Option SS
  | 0 => fun _ _ _ => none
  | n + 1 => b_X1_clearOuts_L2 (f_X1_clearOuts_L2 n)
def f_X1_clearOuts (a1 : Int32) (u : SS) : Option SS :=
  f_X1_clearOuts_L2 FU a1 (0 : Int32) u
set_option maxHeartbeats 4000000 in
set_option maxRecDepth 100000 in
theorem c_X1_clearOuts (l : Launch) (ev : EV) (a1 : Int32) (u : SS) {u' : SS} (hf : f_X1_clearOuts a1 u = some u') : MV wdB l yX1_clearOuts cX1_clearOuts 4 none 2 ev [.ref (ev.2.1 1), .int a1] u u' := by
  refine bodyV (by decide +kernel) rfl (Nat.le_of_ble_eq_true rfl) ?_
  intro p e s m below meth cd ls H locs hc hr hlk hw hl
  generalize hav : (List.toArray [.ref (ev.2.1 1), .int a1] : Array Value) = av at hc ⊢
  obtain ⟨hx, hb, hml, hown, hts, hK, hZ⟩ := id hc
  have hl : lv_has ls 4 [(0, .ref (ev.2.1 1)), (1, .int a1)] := hl
  have wL28 : ∀ (k2 : Int32 → Int32 → SS → Option SS) (hk2 : ∀ (b1 : Int32) (b2 : Int32) (u : SS) (H : Heap) (locs : List Loc) (ls : Array Slot), VW wdB ev s u H locs → lv_has ls 4 [(0, .ref (ev.2.1 1)), (1, .int b1), (2, .int b2)] → k2 b1 b2 u = some u' → W p l e (rmk 2) s m av below meth cd H locs 0 0 (ZV wdB ev s below av u') (F0 m 2 ls [])) (b1 : Int32) (b2 : Int32) (u : SS) (H : Heap) (locs : List Loc) (ls : Array Slot), VW wdB ev s u H locs → lv_has ls 4 [(0, .ref (ev.2.1 1)), (1, .int b1), (2, .int b2)] → f_X1_clearOuts_L28 k2 b1 b2 u = some u' → W p l e (rmk 2) s m av below meth cd H locs 0 0 (ZV wdB ev s below av u') (F0 m 28 ls []) := by
    intro k2 hk2 b1 b2 u H locs ls hw hl hf
    unfold f_X1_clearOuts_L28 at hf
    obtain ⟨x4, ex4, hf⟩ := lt_some hf
    refine lv_iinc (v := x4) (lv' := [(2, .int x4), (0, .ref (ev.2.1 1)), (1, .int b1)]) hx hb dX1_clearOuts_28 hl (k := 2) rfl (by rw [ex4]; rfl) (by decide) rfl (fun ls hl => ?_)
    refine lv_goto (tgt := 2) hx hb dX1_clearOuts_31 (by decide) ?_
    exact hk2 b1 x4 u H locs ls hw (lv_sub hl [1, 2, 0] rfl) hf
  have wL2 : ∀ (n : Nat) (b1 : Int32) (b2 : Int32) (u : SS) (H : Heap) (locs : List Loc) (ls : Array Slot), VW wdB ev s u H locs → lv_has ls 4 [(0, .ref (ev.2.1 1)), (1, .int b1), (2, .int b2)] → f_X1_clearOuts_L2 n b1 b2 u = some u' → W p l e (rmk 2) s m av below meth cd H locs 0 0 (ZV wdB ev s below av u') (F0 m 2 ls []) := by
    intro n
    induction n with
    | zero =>
      intro b1 b2 u H locs ls hw hl hf
      cases hf
    | succ n hk2 =>
      intro b1 b2 u H locs ls hw hl hf
      have hf : b_X1_clearOuts_L2 (f_X1_clearOuts_L2 n) b1 b2 u = some u' := hf
      unfold b_X1_clearOuts_L2 at hf
      refine lv_iload_n hx hb dX1_clearOuts_2 rfl (lv_at hl 2 rfl) ?_
      refine lv_bipush (v := (8 : Int32)) hx hb dX1_clearOuts_3 (by decide) ?_
      refine lv_icmp_ge (tgt := 34) hx hb dX1_clearOuts_5 (by decide) (fun z => ?_) (fun z => ?_)
      · have hf := it_pos z hf
        exact retV hc hr hlk hw hf dX1_clearOuts_34
      · have hf := it_neg z hf
        refine lv_iload_n hx hb dX1_clearOuts_8 rfl (lv_at hl 2 rfl) ?_
        refine lv_iload_n hx hb dX1_clearOuts_9 rfl (lv_at hl 1 rfl) ?_
        obtain ⟨r3, u2, h1, hf⟩ := ob_some hf
        refine endI okB hw (runN_ok (As := [.int b2, .int b1]) (rest := []) okB hc hw (c_X9_cell l ev b2 b1 u h1 H.size) ks_X9_cell (hZ.2.2 ("BidsJudged$Book", 79) (by decide)) hl.1 rfl rfl (Nat.le_of_ble_eq_true rfl) (rm_le (by decide) (by decide)) dX1_clearOuts_10) (fun H locs hw => ?_)
        refine lv_istore_n (lv' := [(3, .int r3), (0, .ref (ev.2.1 1)), (1, .int b1), (2, .int b2)]) hx hb dX1_clearOuts_13 rfl hl (by decide) rfl (fun ls hl => ?_)
        refine lv_aload_n hx hb dX1_clearOuts_14 rfl (lv_at hl 1 rfl) ?_
        refine gB1_2 hc hw fl_X1_18 dX1_clearOuts_15 ?_
        refine lv_iload_n hx hb dX1_clearOuts_18 rfl (lv_at hl 0 rfl) ?_
        obtain ⟨z, hf⟩ := oi_some hf
        refine aB12 hc hw z dX1_clearOuts_19 ?_
        refine lv_if_eq (tgt := 28) hx hb dX1_clearOuts_20 (by decide) (fun z => ?_) (fun z => ?_)
        · have hf := it_pos z hf
          exact wL28 (f_X1_clearOuts_L2 n) hk2 b1 b2 u2 H locs ls hw (lv_sub hl [1, 2, 3] rfl) hf
        · have hf := it_neg z hf
          refine lv_aload_n hx hb dX1_clearOuts_23 rfl (lv_at hl 1 rfl) ?_
          refine lv_iload_n hx hb dX1_clearOuts_24 rfl (lv_at hl 0 rfl) ?_
          obtain ⟨u6, h5, hf⟩ := ov_some hf
          refine endV okB hw (runV_ok (As := [.int r3]) (rest := []) okB hc hw (c_X1_clearOut l ev r3 u2 h5 H.size) kv_X1_clearOut ml_X1_82 (rvB1 ev u2) hl.1 rfl rfl (Nat.le_of_ble_eq_true rfl) (rm_le (by decide) (by decide)) dX1_clearOuts_25) (fun H locs hw => ?_)
          exact wL28 (f_X1_clearOuts_L2 n) hk2 b1 b2 u6 H locs ls hw (lv_sub hl [1, 2, 3] rfl) hf
  unfold f_X1_clearOuts at hf
  refine lv_iconst (v := (0 : Int32)) hx hb dX1_clearOuts_0 (by decide) ?_
  refine lv_istore_n (lv' := [(2, .int (0 : Int32)), (0, .ref (ev.2.1 1)), (1, .int a1)]) hx hb dX1_clearOuts_1 rfl hl (by decide) rfl (fun ls hl => ?_)
  exact wL2 FU a1 (0 : Int32) u H locs ls hw (lv_sub hl [1, 2, 0] rfl) hf
def f_X2_useQuality (u : SS) : Option SS :=
  oi (0 : Int32) 80 (lt (tA u 13 (0 : Int32) (-113 : Int32)) fun u1 => lt (sI u1 4 (1 : Int32)) fun u2 => some u2)
set_option maxHeartbeats 4000000 in
set_option maxRecDepth 100000 in
theorem c_X2_useQuality (l : Launch) (ev : EV) (u : SS) {u' : SS} (hf : f_X2_useQuality  u = some u') : MV wdB l yX2_useQuality cX2_useQuality 1 none 0 ev [.ref (ev.2.1 3)] u u' := by
  refine bodyV (by decide +kernel) rfl (Nat.le_of_ble_eq_true rfl) ?_
  intro p e s m below meth cd ls H locs hc hr hlk hw hl
  generalize hav : (List.toArray [.ref (ev.2.1 3)] : Array Value) = av at hc ⊢
  obtain ⟨hx, hb, hml, hown, hts, hK, hZ⟩ := id hc
  have hl : lv_has ls 1 [(0, .ref (ev.2.1 3))] := hl
  unfold f_X2_useQuality at hf
  refine lv_aload_n hx hb dX2_useQuality_0 rfl (lv_at hl 0 rfl) ?_
  refine gB3_0 hc hw fl_X2_9 dX2_useQuality_1 ?_
  refine lv_iconst (v := (0 : Int32)) hx hb dX2_useQuality_4 (by decide) ?_
  refine lv_bipush (v := (-113 : Int32)) hx hb dX2_useQuality_5 (by decide) ?_
  obtain ⟨z, hf⟩ := oi_some hf
  refine tB22 hc hw z dX2_useQuality_7 (fun H locs hw => ?_)
  obtain ⟨u1, eu1, hf⟩ := lt_some hf
  have hw := VW.nm eu1 hw
  refine lv_aload_n hx hb dX2_useQuality_8 rfl (lv_at hl 0 rfl) ?_
  refine lv_iconst (v := (1 : Int32)) hx hb dX2_useQuality_9 (by decide) ?_
  refine pB3_1 hc hw fl_X2_15 dX2_useQuality_10 (fun H locs hw => ?_)
  obtain ⟨u2, eu2, hf⟩ := lt_some hf
  have hw := VW.nm eu2 hw
  exact retV hc hr hlk hw hf dX2_useQuality_13
def f_X9_makeAnew (a1 : Int32) (a2 : Int32) (u : SS) : Option SS :=
  if a2 = 0 then (ov (f_X2_useQuality u) fun u6 => some u6) else (ov (f_X5_clearLot a1 u) fun u2 => if a2 = (2 : Int32) then (ov (f_X1_clearOuts a1 u2) fun u4 => some u4) else (some u2))
set_option maxHeartbeats 4000000 in
set_option maxRecDepth 100000 in
theorem c_X9_makeAnew (l : Launch) (ev : EV) (a1 : Int32) (a2 : Int32) (u : SS) {u' : SS} (hf : f_X9_makeAnew a1 a2 u = some u') : MV wdB l yX9_makeAnew cX9_makeAnew 3 none 3 ev [.ref (ev.2.1 0), .int a1, .int a2] u u' := by
  refine bodyV (by decide +kernel) rfl (Nat.le_of_ble_eq_true rfl) ?_
  intro p e s m below meth cd ls H locs hc hr hlk hw hl
  generalize hav : (List.toArray [.ref (ev.2.1 0), .int a1, .int a2] : Array Value) = av at hc ⊢
  obtain ⟨hx, hb, hml, hown, hts, hK, hZ⟩ := id hc
  have hl : lv_has ls 3 [(0, .ref (ev.2.1 0)), (1, .int a1), (2, .int a2)] := hl
  unfold f_X9_makeAnew at hf
  refine lv_iload_n hx hb dX9_makeAnew_0 rfl (lv_at hl 2 rfl) ?_
  refine lv_if_ne (tgt := 12) hx hb dX9_makeAnew_1 (by decide) (fun z => ?_) (fun z => ?_)
  · have hf := it_neg z hf
    refine lv_aload_n hx hb dX9_makeAnew_12 rfl (lv_at hl 0 rfl) ?_
    refine gB0_1 hc hw fl_X9_19 dX9_makeAnew_13 ?_
    refine lv_iload_n hx hb dX9_makeAnew_16 rfl (lv_at hl 1 rfl) ?_
    obtain ⟨u2, h1, hf⟩ := ov_some hf
    refine endV okB hw (runV_ok (As := [.int a1]) (rest := []) okB hc hw (c_X5_clearLot l ev a1 u h1 H.size) kv_X5_clearLot ml_X9_366 (rvB2 ev u) hl.1 rfl rfl (Nat.le_of_ble_eq_true rfl) (rm_le (by decide) (by decide)) dX9_makeAnew_17) (fun H locs hw => ?_)
    refine lv_iload_n hx hb dX9_makeAnew_20 rfl (lv_at hl 2 rfl) ?_
    refine lv_iconst (v := (2 : Int32)) hx hb dX9_makeAnew_21 (by decide) ?_
    refine lv_icmp_ne (tgt := 33) hx hb dX9_makeAnew_22 (by decide) (fun z => ?_) (fun z => ?_)
    · have hf := it_neg z hf
      exact retV hc hr hlk hw hf dX9_makeAnew_33
    · have hf := it_pos z hf
      refine lv_aload_n hx hb dX9_makeAnew_25 rfl (lv_at hl 0 rfl) ?_
      refine gB0_0 hc hw fl_X9_12 dX9_makeAnew_26 ?_
      refine lv_iload_n hx hb dX9_makeAnew_29 rfl (lv_at hl 1 rfl) ?_
      obtain ⟨u4, h3, hf⟩ := ov_some hf
      refine endV okB hw (runV_ok (As := [.int a1]) (rest := []) okB hc hw (c_X1_clearOuts l ev a1 u2 h3 H.size) kv_X1_clearOuts ml_X9_369 (rvB1 ev u2) hl.1 rfl rfl (Nat.le_of_ble_eq_true rfl) (rm_le (by decide) (by decide)) dX9_makeAnew_30) (fun H locs hw => ?_)
      exact retV hc hr hlk hw hf dX9_makeAnew_33
  · have hf := it_pos z hf
    refine lv_aload_n hx hb dX9_makeAnew_4 rfl (lv_at hl 0 rfl) ?_
    refine gB0_2 hc hw fl_X9_26 dX9_makeAnew_5 ?_
    obtain ⟨u6, h5, hf⟩ := ov_some hf
    refine endV okB hw (runV_ok (As := []) (rest := []) okB hc hw (c_X2_useQuality l ev u h5 H.size) kv_X2_useQuality ml_X9_363 (rvB3 ev u) hl.1 rfl rfl (Nat.le_of_ble_eq_true rfl) (rm_le (by decide) (by decide)) dX9_makeAnew_8) (fun H locs hw => ?_)
    exact retV hc hr hlk hw hf dX9_makeAnew_11
