def f_X10_findOrder_L112 (k7 : Int32 → Int32 → SS → Option SS) (b1 : Int32) (b2 : Int32) (u : SS) : Option SS :=
  lt (b2 + (1 : Int32)) fun x6 => k7 b1 x6 u
def f_X10_findOrder_L94 (k7 : Int32 → Int32 → SS → Option SS) (b1 : Int32) (b2 : Int32) (b4 : Int32) (u : SS) : Option SS :=
  oi b4 8 (lt (tA u 15 b4 b2) fun u11 => lt (sI u11 15 ((gI u11 15) + (1 : Int32))) fun u12 => f_X10_findOrder_L112 k7 b1 b2 u12)
def b_X10_findOrder_L44 (k7 : Int32 → Int32 → SS → Option SS) (k44 : Int32 → Int32 → Int32 → Int32 → SS → Option SS) (b1 : Int32) (b2 : Int32) (b3 : Int32) (b4 : Int32) (u : SS) : Option SS :=
  if b4 ≤ 0 then (f_X10_findOrder_L94 k7 b1 b2 b4 u) else (oi (b4 - (1 : Int32)) 8 (ob (f_X10_isAhead b3 (((8 : Int32) * b1) + (gA u 15 (b4 - (1 : Int32)).toNatClampNeg)) (-1 : Int32) u) fun r15 u14 => if r15 = 0 then (f_X10_findOrder_L94 k7 b1 b2 b4 u14) else (oi (b4 - (1 : Int32)) 8 (oi b4 8 (lt (tA u14 15 b4 (gA u14 15 (b4 - (1 : Int32)).toNatClampNeg)) fun u16 => lt (b4 + (-1 : Int32)) fun x17 => k44 b1 b2 b3 x17 u16)))))
def f_X10_findOrder_L44 (k7 : Int32 → Int32 → SS → Option SS) : Nat → Int32 → Int32 → Int32 → Int32 → SS → Option SS
  | 0 => fun _ _ _ _ _ => none
  | n + 1 => b_X10_findOrder_L44 k7 (f_X10_findOrder_L44 k7 n)
def b_X10_findOrder_L7 (k7 : Int32 → Int32 → SS → Option SS) (b1 : Int32) (b2 : Int32) (u : SS) : Option SS :=
  if (8 : Int32) ≤ b2 then (some u) else (lt (((8 : Int32) * b1) + b2) fun x2 => ob (f_X10_doesStand x2 u) fun r5 u4 => if r5 = 0 then (f_X10_findOrder_L112 k7 b1 b2 u4) else (ob (f_X10_findPoints x2 (0 : Int32) (-1 : Int32) u4) fun r9 u8 => if r9 = 0 then (f_X10_findOrder_L112 k7 b1 b2 u8) else (lt (gI u8 15) fun x10 => f_X10_findOrder_L44 k7 FU b1 b2 x2 x10 u8)))
def f_X10_findOrder_L7 : Nat → Int32 → Int32 → SS → Option SS
  | 0 => fun _ _ _ => none
  | n + 1 => b_X10_findOrder_L7 (f_X10_findOrder_L7 n)
def f_X10_findOrder (a1 : Int32) (u : SS) : Option SS :=
  lt (sI u 15 (0 : Int32)) fun u1 => f_X10_findOrder_L7 FU a1 (0 : Int32) u1
set_option maxHeartbeats 4000000 in
set_option maxRecDepth 100000 in
theorem c_X10_findOrder (l : Launch) (ev : EV) (a1 : Int32) (u : SS) {u' : SS} (hf : f_X10_findOrder a1 u = some u') : MV wdM l yX10_findOrder cX10_findOrder 5 none 7 ev [.ref (ev.2.1 0), .int a1] u u' := by
  refine bodyV (by decide +kernel) rfl (Nat.le_of_ble_eq_true rfl) ?_
  intro p e s m below meth cd ls H locs hc hr hlk hw hl
  generalize hav : (List.toArray [.ref (ev.2.1 0), .int a1] : Array Value) = av at hc ⊢
  obtain ⟨hx, hb, hml, hown, hts, hK, hZ⟩ := id hc
  have hl : lv_has ls 5 [(0, .ref (ev.2.1 0)), (1, .int a1)] := hl
  have wL112 : ∀ (k7 : Int32 → Int32 → SS → Option SS) (hk7 : ∀ (b1 : Int32) (b2 : Int32) (u : SS) (H : Heap) (locs : List Loc) (ls : Array Slot), VW wdM ev s u H locs → lv_has ls 5 [(0, .ref (ev.2.1 0)), (1, .int b1), (2, .int b2)] → k7 b1 b2 u = some u' → W p l e (rmk 7) s m av below meth cd H locs 0 0 (ZV wdM ev s below av u') (F0 m 7 ls [])) (b1 : Int32) (b2 : Int32) (u : SS) (H : Heap) (locs : List Loc) (ls : Array Slot), VW wdM ev s u H locs → lv_has ls 5 [(0, .ref (ev.2.1 0)), (1, .int b1), (2, .int b2)] → f_X10_findOrder_L112 k7 b1 b2 u = some u' → W p l e (rmk 7) s m av below meth cd H locs 0 0 (ZV wdM ev s below av u') (F0 m 112 ls []) := by
    intro k7 hk7 b1 b2 u H locs ls hw hl hf
    unfold f_X10_findOrder_L112 at hf
    obtain ⟨x6, ex6, hf⟩ := lt_some hf
    refine lv_iinc (v := x6) (lv' := [(2, .int x6), (0, .ref (ev.2.1 0)), (1, .int b1)]) hx hb dX10_findOrder_112 hl (k := 2) rfl (by rw [ex6]; rfl) (by decide) rfl (fun ls hl => ?_)
    refine lv_goto (tgt := 7) hx hb dX10_findOrder_115 (by decide) ?_
    exact hk7 b1 x6 u H locs ls hw (lv_sub hl [1, 2, 0] rfl) hf
  have wL94 : ∀ (k7 : Int32 → Int32 → SS → Option SS) (hk7 : ∀ (b1 : Int32) (b2 : Int32) (u : SS) (H : Heap) (locs : List Loc) (ls : Array Slot), VW wdM ev s u H locs → lv_has ls 5 [(0, .ref (ev.2.1 0)), (1, .int b1), (2, .int b2)] → k7 b1 b2 u = some u' → W p l e (rmk 7) s m av below meth cd H locs 0 0 (ZV wdM ev s below av u') (F0 m 7 ls [])) (b1 : Int32) (b2 : Int32) (b4 : Int32) (u : SS) (H : Heap) (locs : List Loc) (ls : Array Slot), VW wdM ev s u H locs → lv_has ls 5 [(0, .ref (ev.2.1 0)), (1, .int b1), (2, .int b2), (4, .int b4)] → f_X10_findOrder_L94 k7 b1 b2 b4 u = some u' → W p l e (rmk 7) s m av below meth cd H locs 0 0 (ZV wdM ev s below av u') (F0 m 94 ls []) := by
    intro k7 hk7 b1 b2 b4 u H locs ls hw hl hf
    unfold f_X10_findOrder_L94 at hf
    refine lv_aload_n hx hb dX10_findOrder_94 rfl (lv_at hl 0 rfl) ?_
    refine gM0_36 hc hw fl_X10_76 dX10_findOrder_95 ?_
    refine lv_iload hx hb dX10_findOrder_98 (lv_at hl 3 rfl) ?_
    refine lv_iload_n hx hb dX10_findOrder_100 rfl (lv_at hl 2 rfl) ?_
    obtain ⟨z, hf⟩ := oi_some hf
    refine tM20 hc hw z dX10_findOrder_101 (fun H locs hw => ?_)
    obtain ⟨u11, eu11, hf⟩ := lt_some hf
    have hw := VW.nm eu11 hw
    refine lv_aload_n hx hb dX10_findOrder_102 rfl (lv_at hl 0 rfl) ?_
    refine lv_dup hx hb dX10_findOrder_103 rfl ?_
    refine gM0_37 hc hw fl_X10_315 dX10_findOrder_104 ?_
    refine lv_iconst (v := (1 : Int32)) hx hb dX10_findOrder_107 (by decide) ?_
    refine lv_iadd hx hb dX10_findOrder_108 ?_
    refine pM0_37 hc hw fl_X10_315 dX10_findOrder_109 (fun H locs hw => ?_)
    obtain ⟨u12, eu12, hf⟩ := lt_some hf
    have hw := VW.nm eu12 hw
    exact wL112 k7 hk7 b1 b2 u12 H locs ls hw (lv_sub hl [0, 1, 2] rfl) hf
  have wL44 : ∀ (k7 : Int32 → Int32 → SS → Option SS) (hk7 : ∀ (b1 : Int32) (b2 : Int32) (u : SS) (H : Heap) (locs : List Loc) (ls : Array Slot), VW wdM ev s u H locs → lv_has ls 5 [(0, .ref (ev.2.1 0)), (1, .int b1), (2, .int b2)] → k7 b1 b2 u = some u' → W p l e (rmk 7) s m av below meth cd H locs 0 0 (ZV wdM ev s below av u') (F0 m 7 ls [])) (n : Nat) (b1 : Int32) (b2 : Int32) (b3 : Int32) (b4 : Int32) (u : SS) (H : Heap) (locs : List Loc) (ls : Array Slot), VW wdM ev s u H locs → lv_has ls 5 [(0, .ref (ev.2.1 0)), (1, .int b1), (2, .int b2), (3, .int b3), (4, .int b4)] → f_X10_findOrder_L44 k7 n b1 b2 b3 b4 u = some u' → W p l e (rmk 7) s m av below meth cd H locs 0 0 (ZV wdM ev s below av u') (F0 m 44 ls []) := by
    intro k7 hk7 n
    induction n with
    | zero =>
      intro b1 b2 b3 b4 u H locs ls hw hl hf
      cases hf
    | succ n hk44 =>
      intro b1 b2 b3 b4 u H locs ls hw hl hf
      have hf : b_X10_findOrder_L44 k7 (f_X10_findOrder_L44 k7 n) b1 b2 b3 b4 u = some u' := hf
      unfold b_X10_findOrder_L44 at hf
      refine lv_iload hx hb dX10_findOrder_44 (lv_at hl 4 rfl) ?_
      refine lv_if_le (tgt := 94) hx hb dX10_findOrder_46 (by decide) (fun z => ?_) (fun z => ?_)
      · have hf := it_pos z hf
        exact wL94 k7 hk7 b1 b2 b4 u H locs ls hw (lv_sub hl [0, 1, 2, 4] rfl) hf
      · have hf := it_neg z hf
        refine lv_aload_n hx hb dX10_findOrder_49 rfl (lv_at hl 0 rfl) ?_
        refine lv_iload_n hx hb dX10_findOrder_50 rfl (lv_at hl 3 rfl) ?_
        refine lv_bipush (v := (8 : Int32)) hx hb dX10_findOrder_51 (by decide) ?_
        refine lv_iload_n hx hb dX10_findOrder_53 rfl (lv_at hl 1 rfl) ?_
        refine lv_imul hx hb dX10_findOrder_54 ?_
        refine lv_aload_n hx hb dX10_findOrder_55 rfl (lv_at hl 0 rfl) ?_
        refine gM0_36 hc hw fl_X10_76 dX10_findOrder_56 ?_
        refine lv_iload hx hb dX10_findOrder_59 (lv_at hl 4 rfl) ?_
        refine lv_iconst (v := (1 : Int32)) hx hb dX10_findOrder_61 (by decide) ?_
        refine lv_isub hx hb dX10_findOrder_62 ?_
        obtain ⟨z, hf⟩ := oi_some hf
        refine aM20 hc hw z dX10_findOrder_63 ?_
        refine lv_iadd hx hb dX10_findOrder_64 ?_
        refine lv_iconst (v := (-1 : Int32)) hx hb dX10_findOrder_65 (by decide) ?_
        obtain ⟨r15, u14, h13, hf⟩ := ob_some hf
        refine endI okM hw (runV_ok (As := [.int b3, .int (((8 : Int32) * b1) + (gA u 15 (b4 - (1 : Int32)).toNatClampNeg)), .int (-1 : Int32)]) (rest := []) okM hc hw (c_X10_isAhead l ev b3 (((8 : Int32) * b1) + (gA u 15 (b4 - (1 : Int32)).toNatClampNeg)) (-1 : Int32) u h13 H.size) kv_X10_isAhead ml_X10_318 (rvM0 ev u) hl.1 rfl rfl (Nat.le_of_ble_eq_true rfl) (rm_le (by decide) (by decide)) dX10_findOrder_66) (fun H locs hw => ?_)
        refine lv_if_eq (tgt := 94) hx hb dX10_findOrder_69 (by decide) (fun z => ?_) (fun z => ?_)
        · have hf := it_pos z hf
          exact wL94 k7 hk7 b1 b2 b4 u14 H locs ls hw (lv_sub hl [0, 1, 2, 4] rfl) hf
        · have hf := it_neg z hf
          refine lv_aload_n hx hb dX10_findOrder_72 rfl (lv_at hl 0 rfl) ?_
          refine gM0_36 hc hw fl_X10_76 dX10_findOrder_73 ?_
          refine lv_iload hx hb dX10_findOrder_76 (lv_at hl 4 rfl) ?_
          refine lv_aload_n hx hb dX10_findOrder_78 rfl (lv_at hl 0 rfl) ?_
          refine gM0_36 hc hw fl_X10_76 dX10_findOrder_79 ?_
          refine lv_iload hx hb dX10_findOrder_82 (lv_at hl 4 rfl) ?_
          refine lv_iconst (v := (1 : Int32)) hx hb dX10_findOrder_84 (by decide) ?_
          refine lv_isub hx hb dX10_findOrder_85 ?_
          obtain ⟨z, hf⟩ := oi_some hf
          refine aM20 hc hw z dX10_findOrder_86 ?_
          obtain ⟨z, hf⟩ := oi_some hf
          refine tM20 hc hw z dX10_findOrder_87 (fun H locs hw => ?_)
          obtain ⟨u16, eu16, hf⟩ := lt_some hf
          have hw := VW.nm eu16 hw
          obtain ⟨x17, ex17, hf⟩ := lt_some hf
          refine lv_iinc (v := x17) (lv' := [(4, .int x17), (0, .ref (ev.2.1 0)), (1, .int b1), (2, .int b2), (3, .int b3)]) hx hb dX10_findOrder_88 hl (k := 4) rfl (by rw [ex17]; rfl) (by decide) rfl (fun ls hl => ?_)
          refine lv_goto (tgt := 44) hx hb dX10_findOrder_91 (by decide) ?_
          exact hk44 b1 b2 b3 x17 u16 H locs ls hw (lv_sub hl [1, 2, 3, 4, 0] rfl) hf
  have wL7 : ∀ (n : Nat) (b1 : Int32) (b2 : Int32) (u : SS) (H : Heap) (locs : List Loc) (ls : Array Slot), VW wdM ev s u H locs → lv_has ls 5 [(0, .ref (ev.2.1 0)), (1, .int b1), (2, .int b2)] → f_X10_findOrder_L7 n b1 b2 u = some u' → W p l e (rmk 7) s m av below meth cd H locs 0 0 (ZV wdM ev s below av u') (F0 m 7 ls []) := by
    intro n
    induction n with
    | zero =>
      intro b1 b2 u H locs ls hw hl hf
      cases hf
    | succ n hk7 =>
      intro b1 b2 u H locs ls hw hl hf
      have hf : b_X10_findOrder_L7 (f_X10_findOrder_L7 n) b1 b2 u = some u' := hf
      unfold b_X10_findOrder_L7 at hf
      refine lv_iload_n hx hb dX10_findOrder_7 rfl (lv_at hl 2 rfl) ?_
      refine lv_bipush (v := (8 : Int32)) hx hb dX10_findOrder_8 (by decide) ?_
      refine lv_icmp_ge (tgt := 118) hx hb dX10_findOrder_10 (by decide) (fun z => ?_) (fun z => ?_)
      · have hf := it_pos z hf
        exact retV hc hr hlk hw hf dX10_findOrder_118
      · have hf := it_neg z hf
        refine lv_bipush (v := (8 : Int32)) hx hb dX10_findOrder_13 (by decide) ?_
        refine lv_iload_n hx hb dX10_findOrder_15 rfl (lv_at hl 1 rfl) ?_
        refine lv_imul hx hb dX10_findOrder_16 ?_
        refine lv_iload_n hx hb dX10_findOrder_17 rfl (lv_at hl 2 rfl) ?_
        refine lv_iadd hx hb dX10_findOrder_18 ?_
        obtain ⟨x2, ex2, hf⟩ := lt_some hf
        refine tope ex2 ?_
        refine lv_istore_n (lv' := [(3, .int x2), (0, .ref (ev.2.1 0)), (1, .int b1), (2, .int b2)]) hx hb dX10_findOrder_19 rfl hl (by decide) rfl (fun ls hl => ?_)
        refine lv_aload_n hx hb dX10_findOrder_20 rfl (lv_at hl 1 rfl) ?_
        refine lv_iload_n hx hb dX10_findOrder_21 rfl (lv_at hl 0 rfl) ?_
        obtain ⟨r5, u4, h3, hf⟩ := ob_some hf
        refine endI okM hw (runV_ok (As := [.int x2]) (rest := []) okM hc hw (c_X10_doesStand l ev x2 u h3 H.size) kv_X10_doesStand ml_X10_197 (rvM0 ev u) hl.1 rfl rfl (Nat.le_of_ble_eq_true rfl) (rm_le (by decide) (by decide)) dX10_findOrder_22) (fun H locs hw => ?_)
        refine lv_if_eq (tgt := 112) hx hb dX10_findOrder_25 (by decide) (fun z => ?_) (fun z => ?_)
        · have hf := it_pos z hf
          exact wL112 (f_X10_findOrder_L7 n) hk7 b1 b2 u4 H locs ls hw (lv_sub hl [1, 2, 3] rfl) hf
        · have hf := it_neg z hf
          refine lv_aload_n hx hb dX10_findOrder_28 rfl (lv_at hl 1 rfl) ?_
          refine lv_iload_n hx hb dX10_findOrder_29 rfl (lv_at hl 0 rfl) ?_
          refine lv_iconst (v := (0 : Int32)) hx hb dX10_findOrder_30 (by decide) ?_
          refine lv_iconst (v := (-1 : Int32)) hx hb dX10_findOrder_31 (by decide) ?_
          obtain ⟨r9, u8, h7, hf⟩ := ob_some hf
          refine endI okM hw (runV_ok (As := [.int x2, .int (0 : Int32), .int (-1 : Int32)]) (rest := []) okM hc hw (c_X10_findPoints l ev x2 (0 : Int32) (-1 : Int32) u4 h7 H.size) kv_X10_findPoints ml_X10_312 (rvM0 ev u4) hl.1 rfl rfl (Nat.le_of_ble_eq_true rfl) (rm_le (by decide) (by decide)) dX10_findOrder_32) (fun H locs hw => ?_)
          refine lv_if_eq (tgt := 112) hx hb dX10_findOrder_35 (by decide) (fun z => ?_) (fun z => ?_)
          · have hf := it_pos z hf
            exact wL112 (f_X10_findOrder_L7 n) hk7 b1 b2 u8 H locs ls hw (lv_sub hl [1, 2, 3] rfl) hf
          · have hf := it_neg z hf
            refine lv_aload_n hx hb dX10_findOrder_38 rfl (lv_at hl 1 rfl) ?_
            refine gM0_37 hc hw fl_X10_315 dX10_findOrder_39 ?_
            obtain ⟨x10, ex10, hf⟩ := lt_some hf
            refine tope ex10 ?_
            refine lv_istore (lv' := [(4, .int x10), (3, .int x2), (0, .ref (ev.2.1 0)), (1, .int b1), (2, .int b2)]) hx hb dX10_findOrder_42 hl (by decide) rfl (fun ls hl => ?_)
            exact wL44 (f_X10_findOrder_L7 n) hk7 FU b1 b2 x2 x10 u8 H locs ls hw (lv_sub hl [2, 3, 4, 1, 0] rfl) hf
  unfold f_X10_findOrder at hf
  refine lv_aload_n hx hb dX10_findOrder_0 rfl (lv_at hl 0 rfl) ?_
  refine lv_iconst (v := (0 : Int32)) hx hb dX10_findOrder_1 (by decide) ?_
  refine pM0_37 hc hw fl_X10_315 dX10_findOrder_2 (fun H locs hw => ?_)
  obtain ⟨u1, eu1, hf⟩ := lt_some hf
  have hw := VW.nm eu1 hw
  refine lv_iconst (v := (0 : Int32)) hx hb dX10_findOrder_5 (by decide) ?_
  refine lv_istore_n (lv' := [(2, .int (0 : Int32)), (0, .ref (ev.2.1 0)), (1, .int a1)]) hx hb dX10_findOrder_6 rfl hl (by decide) rfl (fun ls hl => ?_)
  exact wL7 FU a1 (0 : Int32) u1 H locs ls hw (lv_sub hl [1, 2, 0] rfl) hf
def f_X10_order (a1 : Int32) (a2 : Int32) (u : SS) : Option (Int32 × SS) :=
  ob (f_X10_isLot a1 u) fun r3 u2 => if r3 = 0 then (ob (f_X10_refuse (-1 : Int32) u2) fun r11 u10 => some (r11, u10)) else (ov (f_X10_findOrder a1 u2) fun u5 => ob (f_X10_in a2 (0 : Int32) ((gI u5 15) - (1 : Int32)) u5) fun r8 u7 => if r8 = 0 then (some ((-9 : Int32), u7)) else (oi a2 8 (some ((gA u7 15 a2.toNatClampNeg), u7))))
set_option maxHeartbeats 4000000 in
set_option maxRecDepth 100000 in
theorem c_X10_order (l : Launch) (ev : EV) (a1 : Int32) (a2 : Int32) (u : SS) {r : Int32} {u' : SS} (hf : f_X10_order a1 a2 u = some (r, u')) : MI wdM l yX10_order cX10_order 3 (some .int) 8 ev [.ref (ev.2.1 0), .int a1, .int a2] u r u' := by
  refine bodyI (by decide +kernel) rfl (Nat.le_of_ble_eq_true rfl) ?_
  intro p e s m below meth cd ls H locs hc hr hlk hw hl
  generalize hav : (List.toArray [.ref (ev.2.1 0), .int a1, .int a2] : Array Value) = av at hc ⊢
  obtain ⟨hx, hb, hml, hown, hts, hK, hZ⟩ := id hc
  have hl : lv_has ls 3 [(0, .ref (ev.2.1 0)), (1, .int a1), (2, .int a2)] := hl
  unfold f_X10_order at hf
  refine lv_aload_n hx hb dX10_order_0 rfl (lv_at hl 0 rfl) ?_
  refine lv_iload_n hx hb dX10_order_1 rfl (lv_at hl 1 rfl) ?_
  obtain ⟨r3, u2, h1, hf⟩ := ob_some hf
  refine endI okM hw (runV_ok (As := [.int a1]) (rest := []) okM hc hw (c_X10_isLot l ev a1 u h1 H.size) kv_X10_isLot ml_X10_170 (rvM0 ev u) hl.1 rfl rfl (Nat.le_of_ble_eq_true rfl) (rm_le (by decide) (by decide)) dX10_order_2) (fun H locs hw => ?_)
  refine lv_if_ne (tgt := 14) hx hb dX10_order_5 (by decide) (fun z => ?_) (fun z => ?_)
  · have hf := it_neg z hf
    refine lv_aload_n hx hb dX10_order_14 rfl (lv_at hl 0 rfl) ?_
    refine lv_iload_n hx hb dX10_order_15 rfl (lv_at hl 1 rfl) ?_
    obtain ⟨u5, h4, hf⟩ := ov_some hf
    refine endV okM hw (runV_ok (As := [.int a1]) (rest := []) okM hc hw (c_X10_findOrder l ev a1 u2 h4 H.size) kv_X10_findOrder ml_X10_321 (rvM0 ev u2) hl.1 rfl rfl (Nat.le_of_ble_eq_true rfl) (rm_le (by decide) (by decide)) dX10_order_16) (fun H locs hw => ?_)
    refine lv_iload_n hx hb dX10_order_19 rfl (lv_at hl 2 rfl) ?_
    refine lv_iconst (v := (0 : Int32)) hx hb dX10_order_20 (by decide) ?_
    refine lv_aload_n hx hb dX10_order_21 rfl (lv_at hl 0 rfl) ?_
    refine gM0_37 hc hw fl_X10_315 dX10_order_22 ?_
    refine lv_iconst (v := (1 : Int32)) hx hb dX10_order_25 (by decide) ?_
    refine lv_isub hx hb dX10_order_26 ?_
    obtain ⟨r8, u7, h6, hf⟩ := ob_some hf
    refine endI okM hw (runS_ok (As := [.int a2, .int (0 : Int32), .int ((gI u5 15) - (1 : Int32))]) (rest := []) okM hc hw (c_X10_in l ev a2 (0 : Int32) ((gI u5 15) - (1 : Int32)) u5 h6 H.size) ks_X10_in ml_X10_144 hl.1 rfl rfl (Nat.le_of_ble_eq_true rfl) (rm_le (by decide) (by decide)) dX10_order_27) (fun H locs hw => ?_)
    refine lv_if_eq (tgt := 42) hx hb dX10_order_30 (by decide) (fun z => ?_) (fun z => ?_)
    · have hf := it_pos z hf
      refine lv_bipush (v := (-9 : Int32)) hx hb dX10_order_42 (by decide) ?_
      exact retI hc hr hlk hw hf dX10_order_44
    · have hf := it_neg z hf
      refine lv_aload_n hx hb dX10_order_33 rfl (lv_at hl 0 rfl) ?_
      refine gM0_36 hc hw fl_X10_76 dX10_order_34 ?_
      refine lv_iload_n hx hb dX10_order_37 rfl (lv_at hl 2 rfl) ?_
      obtain ⟨z, hf⟩ := oi_some hf
      refine aM20 hc hw z dX10_order_38 ?_
      refine lv_goto (tgt := 44) hx hb dX10_order_39 (by decide) ?_
      exact retI hc hr hlk hw hf dX10_order_44
  · have hf := it_pos z hf
    refine lv_aload_n hx hb dX10_order_8 rfl (lv_at hl 0 rfl) ?_
    refine lv_iconst (v := (-1 : Int32)) hx hb dX10_order_9 (by decide) ?_
    obtain ⟨r11, u10, h9, hf⟩ := ob_some hf
    refine endI okM hw (runV_ok (As := [.int (-1 : Int32)]) (rest := []) okM hc hw (c_X10_refuse l ev (-1 : Int32) u2 h9 H.size) kv_X10_refuse ml_X10_151 (rvM0 ev u2) hl.1 rfl rfl (Nat.le_of_ble_eq_true rfl) (rm_le (by decide) (by decide)) dX10_order_10) (fun H locs hw => ?_)
    exact retI hc hr hlk hw hf dX10_order_13
def f_X10_gain_L15 (u : SS) : Option (Int64 × SS) :=
  ob (f_X10_refuseFar (-1 : Int32) u) fun r6 u5 => some (r6, u5)
def f_X10_gain_L125 (u : SS) : Option (Int64 × SS) :=
  ob (f_X10_refuseFar (-7 : Int32) u) fun r23 u22 => some (r23, u22)
def f_X10_gain (a1 : Int32) (a2 : Int32) (a3 : Int32) (a4 : Int32) (u : SS) : Option (Int64 × SS) :=
  ob (f_X10_isBidder a1 u) fun r3 u2 => if r3 = 0 then (f_X10_gain_L15 u2) else (ob (f_X10_isLot a2 u2) fun r9 u8 => if r9 = 0 then (f_X10_gain_L15 u8) else (ob (f_X10_in a4 (0 : Int32) (1 : Int32) u8) fun r12 u11 => if r12 = 0 then (ob (f_X10_refuseFar (-2 : Int32) u11) fun r43 u42 => some (r43, u42)) else (ob (f_X10_fails a1 a2 u11) fun r15 u14 => if 0 ≤ r15 then (if (1 : Int32) ≤ a3 then (if a3 ≤ (99999 : Int32) then (ob (f_X10_findPoints (((8 : Int32) * a2) + a1) (0 : Int32) (-1 : Int32) u14) fun r18 u17 => lt (gJ u17 0) fun x19 => lt (gJ u17 1) fun x20 => if r18 = 0 then (f_X10_gain_L125 u17) else (ob (f_X10_findPoints (((8 : Int32) * a2) + a1) a3 (-1 : Int32) u17) fun r26 u25 => if r26 = 0 then (f_X10_gain_L125 u25) else (lt (((gJ u25 0) * x20) - (x19 * (gJ u25 1))) fun x27 => lt ((gJ u25 1) * x20) fun x28 => ob (f_X10_divisor x27 x28 u25) fun r31 u30 => if a4 = 0 then (if r31 = 0 then none else some ((x27 / r31), u30)) else (if r31 = 0 then none else some ((x28 / r31), u30))))) else (ob (f_X10_refuseFar (-6 : Int32) u14) fun r34 u33 => some (r34, u33))) else (ob (f_X10_refuseFar (-4 : Int32) u14) fun r37 u36 => some (r37, u36))) else (ob (f_X10_refuseFar (-5 : Int32) u14) fun r40 u39 => some (r40, u39)))))
set_option maxHeartbeats 4000000 in
set_option maxRecDepth 100000 in
theorem c_X10_gain (l : Launch) (ev : EV) (a1 : Int32) (a2 : Int32) (a3 : Int32) (a4 : Int32) (u : SS) {r : Int64} {u' : SS} (hf : f_X10_gain a1 a2 a3 a4 u = some (r, u')) : ML wdM l yX10_gain cX10_gain 16 (some .long) 6 ev [.ref (ev.2.1 0), .int a1, .int a2, .int a3, .int a4] u r u' := by
  refine bodyL (by decide +kernel) rfl (Nat.le_of_ble_eq_true rfl) ?_
  intro p e s m below meth cd ls H locs hc hr hlk hw hl
  generalize hav : (List.toArray [.ref (ev.2.1 0), .int a1, .int a2, .int a3, .int a4] : Array Value) = av at hc ⊢
  obtain ⟨hx, hb, hml, hown, hts, hK, hZ⟩ := id hc
  have hl : lv_has ls 16 [(0, .ref (ev.2.1 0)), (1, .int a1), (2, .int a2), (3, .int a3), (4, .int a4)] := hl
  have wL15 : ∀ (u : SS) (H : Heap) (locs : List Loc) (ls : Array Slot), VW wdM ev s u H locs → lv_has ls 16 [(0, .ref (ev.2.1 0))] → f_X10_gain_L15  u = some (r, u') → W p l e (rmk 6) s m av below meth cd H locs 0 0 (ZL wdM ev s below av r u') (F0 m 15 ls []) := by
    intro  u H locs ls hw hl hf
    unfold f_X10_gain_L15 at hf
    refine lv_aload_n hx hb dX10_gain_15 rfl (lv_at hl 0 rfl) ?_
    refine lv_iconst (v := (-1 : Int32)) hx hb dX10_gain_16 (by decide) ?_
    obtain ⟨r6, u5, h4, hf⟩ := ob_some hf
    refine endL okM hw (runV_ok (As := [.int (-1 : Int32)]) (rest := []) okM hc hw (c_X10_refuseFar l ev (-1 : Int32) u h4 H.size) kv_X10_refuseFar ml_X10_308 (rvM0 ev u) hl.1 rfl rfl (Nat.le_of_ble_eq_true rfl) (rm_le (by decide) (by decide)) dX10_gain_17) (fun H locs hw => ?_)
    exact retL hc hr hlk hw hf dX10_gain_20
  have wL125 : ∀ (u : SS) (H : Heap) (locs : List Loc) (ls : Array Slot), VW wdM ev s u H locs → lv_has ls 16 [(0, .ref (ev.2.1 0))] → f_X10_gain_L125  u = some (r, u') → W p l e (rmk 6) s m av below meth cd H locs 0 0 (ZL wdM ev s below av r u') (F0 m 125 ls []) := by
    intro  u H locs ls hw hl hf
    unfold f_X10_gain_L125 at hf
    refine lv_aload_n hx hb dX10_gain_125 rfl (lv_at hl 0 rfl) ?_
    refine lv_bipush (v := (-7 : Int32)) hx hb dX10_gain_126 (by decide) ?_
    obtain ⟨r23, u22, h21, hf⟩ := ob_some hf
    refine endL okM hw (runV_ok (As := [.int (-7 : Int32)]) (rest := []) okM hc hw (c_X10_refuseFar l ev (-7 : Int32) u h21 H.size) kv_X10_refuseFar ml_X10_308 (rvM0 ev u) hl.1 rfl rfl (Nat.le_of_ble_eq_true rfl) (rm_le (by decide) (by decide)) dX10_gain_128) (fun H locs hw => ?_)
    exact retL hc hr hlk hw hf dX10_gain_131
  unfold f_X10_gain at hf
  refine lv_iload_n hx hb dX10_gain_0 rfl (lv_at hl 1 rfl) ?_
  obtain ⟨r3, u2, h1, hf⟩ := ob_some hf
  refine endI okM hw (runS_ok (As := [.int a1]) (rest := []) okM hc hw (c_X10_isBidder l ev a1 u h1 H.size) ks_X10_isBidder ml_X10_166 hl.1 rfl rfl (Nat.le_of_ble_eq_true rfl) (rm_le (by decide) (by decide)) dX10_gain_1) (fun H locs hw => ?_)
  refine lv_if_eq (tgt := 15) hx hb dX10_gain_4 (by decide) (fun z => ?_) (fun z => ?_)
  · have hf := it_pos z hf
    exact wL15 u2 H locs ls hw (lv_sub hl [0] rfl) hf
  · have hf := it_neg z hf
    refine lv_aload_n hx hb dX10_gain_7 rfl (lv_at hl 0 rfl) ?_
    refine lv_iload_n hx hb dX10_gain_8 rfl (lv_at hl 2 rfl) ?_
    obtain ⟨r9, u8, h7, hf⟩ := ob_some hf
    refine endI okM hw (runV_ok (As := [.int a2]) (rest := []) okM hc hw (c_X10_isLot l ev a2 u2 h7 H.size) kv_X10_isLot ml_X10_170 (rvM0 ev u2) hl.1 rfl rfl (Nat.le_of_ble_eq_true rfl) (rm_le (by decide) (by decide)) dX10_gain_9) (fun H locs hw => ?_)
    refine lv_if_ne (tgt := 21) hx hb dX10_gain_12 (by decide) (fun z => ?_) (fun z => ?_)
    · have hf := it_neg z hf
      refine lv_iload hx hb dX10_gain_21 (lv_at hl 4 rfl) ?_
      refine lv_iconst (v := (0 : Int32)) hx hb dX10_gain_23 (by decide) ?_
      refine lv_iconst (v := (1 : Int32)) hx hb dX10_gain_24 (by decide) ?_
      obtain ⟨r12, u11, h10, hf⟩ := ob_some hf
      refine endI okM hw (runS_ok (As := [.int a4, .int (0 : Int32), .int (1 : Int32)]) (rest := []) okM hc hw (c_X10_in l ev a4 (0 : Int32) (1 : Int32) u8 h10 H.size) ks_X10_in ml_X10_144 hl.1 rfl rfl (Nat.le_of_ble_eq_true rfl) (rm_le (by decide) (by decide)) dX10_gain_25) (fun H locs hw => ?_)
      refine lv_if_ne (tgt := 38) hx hb dX10_gain_28 (by decide) (fun z => ?_) (fun z => ?_)
      · have hf := it_neg z hf
        refine lv_aload_n hx hb dX10_gain_38 rfl (lv_at hl 0 rfl) ?_
        refine lv_iload_n hx hb dX10_gain_39 rfl (lv_at hl 1 rfl) ?_
        refine lv_iload_n hx hb dX10_gain_40 rfl (lv_at hl 2 rfl) ?_
        obtain ⟨r15, u14, h13, hf⟩ := ob_some hf
        refine endI okM hw (runV_ok (As := [.int a1, .int a2]) (rest := []) okM hc hw (c_X10_fails l ev a1 a2 u11 h13 H.size) kv_X10_fails ml_X10_203 (rvM0 ev u11) hl.1 rfl rfl (Nat.le_of_ble_eq_true rfl) (rm_le (by decide) (by decide)) dX10_gain_41) (fun H locs hw => ?_)
        refine lv_if_ge (tgt := 54) hx hb dX10_gain_44 (by decide) (fun z => ?_) (fun z => ?_)
        · have hf := it_pos z hf
          refine lv_iload_n hx hb dX10_gain_54 rfl (lv_at hl 3 rfl) ?_
          refine lv_iconst (v := (1 : Int32)) hx hb dX10_gain_55 (by decide) ?_
          refine lv_icmp_ge (tgt := 66) hx hb dX10_gain_56 (by decide) (fun z => ?_) (fun z => ?_)
          · have hf := it_pos z hf
            refine lv_iload_n hx hb dX10_gain_66 rfl (lv_at hl 3 rfl) ?_
            refine lv_ldc (v := (99999 : Int32)) hx hb hown (hts _ ct_X10_165) dX10_gain_67 ?_
            refine lv_icmp_le (tgt := 79) hx hb dX10_gain_69 (by decide) (fun z => ?_) (fun z => ?_)
            · have hf := it_pos z hf
              refine lv_aload_n hx hb dX10_gain_79 rfl (lv_at hl 0 rfl) ?_
              refine lv_bipush (v := (8 : Int32)) hx hb dX10_gain_80 (by decide) ?_
              refine lv_iload_n hx hb dX10_gain_82 rfl (lv_at hl 2 rfl) ?_
              refine lv_imul hx hb dX10_gain_83 ?_
              refine lv_iload_n hx hb dX10_gain_84 rfl (lv_at hl 1 rfl) ?_
              refine lv_iadd hx hb dX10_gain_85 ?_
              refine lv_iconst (v := (0 : Int32)) hx hb dX10_gain_86 (by decide) ?_
              refine lv_iconst (v := (-1 : Int32)) hx hb dX10_gain_87 (by decide) ?_
              obtain ⟨r18, u17, h16, hf⟩ := ob_some hf
              refine endI okM hw (runV_ok (As := [.int (((8 : Int32) * a2) + a1), .int (0 : Int32), .int (-1 : Int32)]) (rest := []) okM hc hw (c_X10_findPoints l ev (((8 : Int32) * a2) + a1) (0 : Int32) (-1 : Int32) u14 h16 H.size) kv_X10_findPoints ml_X10_312 (rvM0 ev u14) hl.1 rfl rfl (Nat.le_of_ble_eq_true rfl) (rm_le (by decide) (by decide)) dX10_gain_88) (fun H locs hw => ?_)
              refine lv_istore (lv' := [(5, .int r18), (0, .ref (ev.2.1 0)), (1, .int a1), (2, .int a2), (3, .int a3), (4, .int a4)]) hx hb dX10_gain_91 hl (by decide) rfl (fun ls hl => ?_)
              refine lv_aload_n hx hb dX10_gain_93 rfl (lv_at hl 1 rfl) ?_
              refine gM0_34 hc hw fl_X10_301 dX10_gain_94 ?_
              obtain ⟨x19, ex19, hf⟩ := lt_some hf
              refine topel ex19 ?_
              refine lv_lstore (lv' := [(6, .long x19), (5, .int r18), (0, .ref (ev.2.1 0)), (1, .int a1), (2, .int a2), (3, .int a3), (4, .int a4)]) hx hb dX10_gain_97 hl (by decide) rfl (fun ls hl => ?_)
              refine lv_aload_n hx hb dX10_gain_99 rfl (lv_at hl 2 rfl) ?_
              refine gM0_35 hc hw fl_X10_305 dX10_gain_100 ?_
              obtain ⟨x20, ex20, hf⟩ := lt_some hf
              refine topel ex20 ?_
              refine lv_lstore (lv' := [(8, .long x20), (6, .long x19), (5, .int r18), (0, .ref (ev.2.1 0)), (1, .int a1), (2, .int a2), (3, .int a3), (4, .int a4)]) hx hb dX10_gain_103 hl (by decide) rfl (fun ls hl => ?_)
              refine lv_iload hx hb dX10_gain_105 (lv_at hl 2 rfl) ?_
              refine lv_if_eq (tgt := 125) hx hb dX10_gain_107 (by decide) (fun z => ?_) (fun z => ?_)
              · have hf := it_pos z hf
                exact wL125 u17 H locs ls hw (lv_sub hl [3] rfl) hf
              · have hf := it_neg z hf
                refine lv_aload_n hx hb dX10_gain_110 rfl (lv_at hl 3 rfl) ?_
                refine lv_bipush (v := (8 : Int32)) hx hb dX10_gain_111 (by decide) ?_
                refine lv_iload_n hx hb dX10_gain_113 rfl (lv_at hl 5 rfl) ?_
                refine lv_imul hx hb dX10_gain_114 ?_
                refine lv_iload_n hx hb dX10_gain_115 rfl (lv_at hl 4 rfl) ?_
                refine lv_iadd hx hb dX10_gain_116 ?_
                refine lv_iload_n hx hb dX10_gain_117 rfl (lv_at hl 6 rfl) ?_
                refine lv_iconst (v := (-1 : Int32)) hx hb dX10_gain_118 (by decide) ?_
                obtain ⟨r26, u25, h24, hf⟩ := ob_some hf
                refine endI okM hw (runV_ok (As := [.int (((8 : Int32) * a2) + a1), .int a3, .int (-1 : Int32)]) (rest := []) okM hc hw (c_X10_findPoints l ev (((8 : Int32) * a2) + a1) a3 (-1 : Int32) u17 h24 H.size) kv_X10_findPoints ml_X10_312 (rvM0 ev u17) hl.1 rfl rfl (Nat.le_of_ble_eq_true rfl) (rm_le (by decide) (by decide)) dX10_gain_119) (fun H locs hw => ?_)
                refine lv_if_ne (tgt := 132) hx hb dX10_gain_122 (by decide) (fun z => ?_) (fun z => ?_)
                · have hf := it_neg z hf
                  refine lv_aload_n hx hb dX10_gain_132 rfl (lv_at hl 3 rfl) ?_
                  refine gM0_34 hc hw fl_X10_301 dX10_gain_133 ?_
                  refine lv_lload hx hb dX10_gain_136 (lv_at hl 0 rfl) ?_
                  refine lv_lmul hx hb dX10_gain_138 ?_
                  refine lv_lload hx hb dX10_gain_139 (lv_at hl 1 rfl) ?_
                  refine lv_aload_n hx hb dX10_gain_141 rfl (lv_at hl 3 rfl) ?_
                  refine gM0_35 hc hw fl_X10_305 dX10_gain_142 ?_
                  refine lv_lmul hx hb dX10_gain_145 ?_
                  refine lv_lsub hx hb dX10_gain_146 ?_
                  obtain ⟨x27, ex27, hf⟩ := lt_some hf
                  refine topel ex27 ?_
                  refine lv_lstore (lv' := [(10, .long x27), (8, .long x20), (6, .long x19), (5, .int r18), (0, .ref (ev.2.1 0)), (1, .int a1), (2, .int a2), (3, .int a3), (4, .int a4)]) hx hb dX10_gain_147 hl (by decide) rfl (fun ls hl => ?_)
                  refine lv_aload_n hx hb dX10_gain_149 rfl (lv_at hl 4 rfl) ?_
                  refine gM0_35 hc hw fl_X10_305 dX10_gain_150 ?_
                  refine lv_lload hx hb dX10_gain_153 (lv_at hl 1 rfl) ?_
                  refine lv_lmul hx hb dX10_gain_155 ?_
                  obtain ⟨x28, ex28, hf⟩ := lt_some hf
                  refine topel ex28 ?_
                  refine lv_lstore (lv' := [(12, .long x28), (10, .long x27), (8, .long x20), (6, .long x19), (5, .int r18), (0, .ref (ev.2.1 0)), (1, .int a1), (2, .int a2), (3, .int a3), (4, .int a4)]) hx hb dX10_gain_156 hl (by decide) rfl (fun ls hl => ?_)
                  refine lv_lload hx hb dX10_gain_158 (lv_at hl 1 rfl) ?_
                  refine lv_lload hx hb dX10_gain_160 (lv_at hl 0 rfl) ?_
                  obtain ⟨r31, u30, h29, hf⟩ := ob_some hf
                  refine endL okM hw (runS_ok (As := [.long x27, .long x28]) (rest := []) okM hc hw (c_X10_divisor l ev x27 x28 u25 h29 H.size) ks_X10_divisor ml_X10_219 hl.1 rfl rfl (Nat.le_of_ble_eq_true rfl) (rm_le (by decide) (by decide)) dX10_gain_162) (fun H locs hw => ?_)
                  refine lv_lstore (lv' := [(14, .long r31), (12, .long x28), (10, .long x27), (8, .long x20), (6, .long x19), (5, .int r18), (0, .ref (ev.2.1 0)), (1, .int a1), (2, .int a2), (3, .int a3), (4, .int a4)]) hx hb dX10_gain_165 hl (by decide) rfl (fun ls hl => ?_)
                  refine lv_iload hx hb dX10_gain_167 (lv_at hl 10 rfl) ?_
                  refine lv_if_ne (tgt := 180) hx hb dX10_gain_169 (by decide) (fun z => ?_) (fun z => ?_)
                  · have hf := it_neg z hf
                    refine lv_lload hx hb dX10_gain_180 (lv_at hl 1 rfl) ?_
                    refine lv_lload hx hb dX10_gain_182 (lv_at hl 0 rfl) ?_
                    obtain ⟨z, hf⟩ := it_none hf
                    refine lv_ldiv hx hb dX10_gain_184 z ?_
                    exact retL hc hr hlk hw hf dX10_gain_185
                  · have hf := it_pos z hf
                    refine lv_lload hx hb dX10_gain_172 (lv_at hl 2 rfl) ?_
                    refine lv_lload hx hb dX10_gain_174 (lv_at hl 0 rfl) ?_
                    obtain ⟨z, hf⟩ := it_none hf
                    refine lv_ldiv hx hb dX10_gain_176 z ?_
                    refine lv_goto (tgt := 185) hx hb dX10_gain_177 (by decide) ?_
                    exact retL hc hr hlk hw hf dX10_gain_185
                · have hf := it_pos z hf
                  exact wL125 u25 H locs ls hw (lv_sub hl [3] rfl) hf
            · have hf := it_neg z hf
              refine lv_aload_n hx hb dX10_gain_72 rfl (lv_at hl 0 rfl) ?_
              refine lv_bipush (v := (-6 : Int32)) hx hb dX10_gain_73 (by decide) ?_
              obtain ⟨r34, u33, h32, hf⟩ := ob_some hf
              refine endL okM hw (runV_ok (As := [.int (-6 : Int32)]) (rest := []) okM hc hw (c_X10_refuseFar l ev (-6 : Int32) u14 h32 H.size) kv_X10_refuseFar ml_X10_308 (rvM0 ev u14) hl.1 rfl rfl (Nat.le_of_ble_eq_true rfl) (rm_le (by decide) (by decide)) dX10_gain_75) (fun H locs hw => ?_)
              exact retL hc hr hlk hw hf dX10_gain_78
          · have hf := it_neg z hf
            refine lv_aload_n hx hb dX10_gain_59 rfl (lv_at hl 0 rfl) ?_
            refine lv_bipush (v := (-4 : Int32)) hx hb dX10_gain_60 (by decide) ?_
            obtain ⟨r37, u36, h35, hf⟩ := ob_some hf
            refine endL okM hw (runV_ok (As := [.int (-4 : Int32)]) (rest := []) okM hc hw (c_X10_refuseFar l ev (-4 : Int32) u14 h35 H.size) kv_X10_refuseFar ml_X10_308 (rvM0 ev u14) hl.1 rfl rfl (Nat.le_of_ble_eq_true rfl) (rm_le (by decide) (by decide)) dX10_gain_62) (fun H locs hw => ?_)
            exact retL hc hr hlk hw hf dX10_gain_65
        · have hf := it_neg z hf
          refine lv_aload_n hx hb dX10_gain_47 rfl (lv_at hl 0 rfl) ?_
          refine lv_bipush (v := (-5 : Int32)) hx hb dX10_gain_48 (by decide) ?_
          obtain ⟨r40, u39, h38, hf⟩ := ob_some hf
          refine endL okM hw (runV_ok (As := [.int (-5 : Int32)]) (rest := []) okM hc hw (c_X10_refuseFar l ev (-5 : Int32) u14 h38 H.size) kv_X10_refuseFar ml_X10_308 (rvM0 ev u14) hl.1 rfl rfl (Nat.le_of_ble_eq_true rfl) (rm_le (by decide) (by decide)) dX10_gain_50) (fun H locs hw => ?_)
          exact retL hc hr hlk hw hf dX10_gain_53
      · have hf := it_pos z hf
        refine lv_aload_n hx hb dX10_gain_31 rfl (lv_at hl 0 rfl) ?_
        refine lv_bipush (v := (-2 : Int32)) hx hb dX10_gain_32 (by decide) ?_
        obtain ⟨r43, u42, h41, hf⟩ := ob_some hf
        refine endL okM hw (runV_ok (As := [.int (-2 : Int32)]) (rest := []) okM hc hw (c_X10_refuseFar l ev (-2 : Int32) u11 h41 H.size) kv_X10_refuseFar ml_X10_308 (rvM0 ev u11) hl.1 rfl rfl (Nat.le_of_ble_eq_true rfl) (rm_le (by decide) (by decide)) dX10_gain_34) (fun H locs hw => ?_)
        exact retL hc hr hlk hw hf dX10_gain_37
    · have hf := it_pos z hf
      exact wL15 u8 H locs ls hw (lv_sub hl [0] rfl) hf
def f_X10_turned_L27 (u : SS) : Option (Int32 × SS) :=
  ob (f_X10_refuse (-1 : Int32) u) fun r6 u5 => some (r6, u5)
def f_X10_turned_L67 (u : SS) : Option (Int32 × SS) :=
  ob (f_X10_refuse (-5 : Int32) u) fun r20 u19 => some (r20, u19)
def f_X10_turned_L96 (u : SS) : Option (Int32 × SS) :=
  ob (f_X10_refuse (-7 : Int32) u) fun r29 u28 => some (r29, u28)
def f_X10_turned_L210 (k125 : Int32 → Int32 → Int32 → Int32 → Int32 → Int32 → SS → Option (Int32 × SS)) (b1 : Int32) (b2 : Int32) (b3 : Int32) (b4 : Int32) (b5 : Int32) (b6 : Int32) (u : SS) : Option (Int32 × SS) :=
  lt (b6 + (1 : Int32)) fun x36 => k125 b1 b2 b3 b4 b5 x36 u
def f_X10_turned_L163 (k125 : Int32 → Int32 → Int32 → Int32 → Int32 → Int32 → SS → Option (Int32 × SS)) (b1 : Int32) (b2 : Int32) (b3 : Int32) (b4 : Int32) (b5 : Int32) (b6 : Int32) (q0 : Int32) (u : SS) : Option (Int32 × SS) :=
  if q0 = 0 then (f_X10_turned_L210 k125 b1 b2 b3 b4 b5 b6 u) else (ob (f_X10_findPoints b4 (0 : Int32) b6 u) fun r39 u38 => if r39 = 0 then (f_X10_turned_L210 k125 b1 b2 b3 b4 b5 b6 u38) else (ob (f_X10_findPoints b5 (0 : Int32) b6 u38) fun r42 u41 => if r42 = 0 then (f_X10_turned_L210 k125 b1 b2 b3 b4 b5 b6 u41) else (ob (f_X10_isAhead b5 b4 b6 u41) fun r45 u44 => if r45 = 0 then (f_X10_turned_L210 k125 b1 b2 b3 b4 b5 b6 u44) else (some (b6, u44)))))
def f_X10_turned_L162 (k125 : Int32 → Int32 → Int32 → Int32 → Int32 → Int32 → SS → Option (Int32 × SS)) (b1 : Int32) (b2 : Int32) (b3 : Int32) (b4 : Int32) (b5 : Int32) (b6 : Int32) (u : SS) : Option (Int32 × SS) :=
  f_X10_turned_L163 k125 b1 b2 b3 b4 b5 b6 (0 : Int32) u
def b_X10_turned_L125 (k125 : Int32 → Int32 → Int32 → Int32 → Int32 → Int32 → SS → Option (Int32 × SS)) (b1 : Int32) (b2 : Int32) (b3 : Int32) (b4 : Int32) (b5 : Int32) (b6 : Int32) (u : SS) : Option (Int32 × SS) :=
  if (8 : Int32) ≤ b6 then (some ((-9 : Int32), u)) else (if b6 = b2 then (f_X10_turned_L162 k125 b1 b2 b3 b4 b5 b6 u) else (if b6 = b3 then (f_X10_turned_L162 k125 b1 b2 b3 b4 b5 b6 u) else (ob (f_X10_doesStand (((8 : Int32) * b1) + b6) u) fun r48 u47 => if r48 = 0 then (f_X10_turned_L162 k125 b1 b2 b3 b4 b5 b6 u47) else (f_X10_turned_L163 k125 b1 b2 b3 b4 b5 b6 (1 : Int32) u47))))
def f_X10_turned_L125 : Nat → Int32 → Int32 → Int32 → Int32 → Int32 → Int32 → SS → Option (Int32 × SS)
  | 0 => fun _ _ _ _ _ _ _ => none
  | n + 1 => b_X10_turned_L125 (f_X10_turned_L125 n)
def f_X10_turned (a1 : Int32) (a2 : Int32) (a3 : Int32) (u : SS) : Option (Int32 × SS) :=
  ob (f_X10_isLot a1 u) fun r3 u2 => if r3 = 0 then (f_X10_turned_L27 u2) else (ob (f_X10_isBidder a2 u2) fun r9 u8 => if r9 = 0 then (f_X10_turned_L27 u8) else (ob (f_X10_isBidder a3 u8) fun r12 u11 => if r12 = 0 then (f_X10_turned_L27 u11) else (if a2 = a3 then (f_X10_turned_L27 u11) else (lt (((8 : Int32) * a1) + a2) fun x13 => lt (((8 : Int32) * a1) + a3) fun x14 => ob (f_X10_doesStand x13 u11) fun r17 u16 => if r17 = 0 then (f_X10_turned_L67 u16) else (ob (f_X10_doesStand x14 u16) fun r23 u22 => if r23 = 0 then (f_X10_turned_L67 u22) else (ob (f_X10_findPoints x13 (0 : Int32) (-1 : Int32) u22) fun r26 u25 => if r26 = 0 then (f_X10_turned_L96 u25) else (ob (f_X10_findPoints x14 (0 : Int32) (-1 : Int32) u25) fun r32 u31 => if r32 = 0 then (f_X10_turned_L96 u31) else (ob (f_X10_isAhead x13 x14 (-1 : Int32) u31) fun r35 u34 => if r35 = 0 then (ob (f_X10_refuse (-3 : Int32) u34) fun r51 u50 => some (r51, u50)) else (f_X10_turned_L125 FU a1 a2 a3 x13 x14 (0 : Int32) u34)))))))))
set_option maxHeartbeats 4000000 in
set_option maxRecDepth 100000 in
theorem c_X10_turned (l : Launch) (ev : EV) (a1 : Int32) (a2 : Int32) (a3 : Int32) (u : SS) {r : Int32} {u' : SS} (hf : f_X10_turned a1 a2 a3 u = some (r, u')) : MI wdM l yX10_turned cX10_turned 8 (some .int) 7 ev [.ref (ev.2.1 0), .int a1, .int a2, .int a3] u r u' := by
  refine bodyI (by decide +kernel) rfl (Nat.le_of_ble_eq_true rfl) ?_
  intro p e s m below meth cd ls H locs hc hr hlk hw hl
  generalize hav : (List.toArray [.ref (ev.2.1 0), .int a1, .int a2, .int a3] : Array Value) = av at hc ⊢
  obtain ⟨hx, hb, hml, hown, hts, hK, hZ⟩ := id hc
  have hl : lv_has ls 8 [(0, .ref (ev.2.1 0)), (1, .int a1), (2, .int a2), (3, .int a3)] := hl
  have wL27 : ∀ (u : SS) (H : Heap) (locs : List Loc) (ls : Array Slot), VW wdM ev s u H locs → lv_has ls 8 [(0, .ref (ev.2.1 0))] → f_X10_turned_L27  u = some (r, u') → W p l e (rmk 7) s m av below meth cd H locs 0 0 (ZI wdM ev s below av r u') (F0 m 27 ls []) := by
    intro  u H locs ls hw hl hf
    unfold f_X10_turned_L27 at hf
    refine lv_aload_n hx hb dX10_turned_27 rfl (lv_at hl 0 rfl) ?_
    refine lv_iconst (v := (-1 : Int32)) hx hb dX10_turned_28 (by decide) ?_
    obtain ⟨r6, u5, h4, hf⟩ := ob_some hf
    refine endI okM hw (runV_ok (As := [.int (-1 : Int32)]) (rest := []) okM hc hw (c_X10_refuse l ev (-1 : Int32) u h4 H.size) kv_X10_refuse ml_X10_151 (rvM0 ev u) hl.1 rfl rfl (Nat.le_of_ble_eq_true rfl) (rm_le (by decide) (by decide)) dX10_turned_29) (fun H locs hw => ?_)
    exact retI hc hr hlk hw hf dX10_turned_32
  have wL67 : ∀ (u : SS) (H : Heap) (locs : List Loc) (ls : Array Slot), VW wdM ev s u H locs → lv_has ls 8 [(0, .ref (ev.2.1 0))] → f_X10_turned_L67  u = some (r, u') → W p l e (rmk 7) s m av below meth cd H locs 0 0 (ZI wdM ev s below av r u') (F0 m 67 ls []) := by
    intro  u H locs ls hw hl hf
    unfold f_X10_turned_L67 at hf
    refine lv_aload_n hx hb dX10_turned_67 rfl (lv_at hl 0 rfl) ?_
    refine lv_bipush (v := (-5 : Int32)) hx hb dX10_turned_68 (by decide) ?_
    obtain ⟨r20, u19, h18, hf⟩ := ob_some hf
    refine endI okM hw (runV_ok (As := [.int (-5 : Int32)]) (rest := []) okM hc hw (c_X10_refuse l ev (-5 : Int32) u h18 H.size) kv_X10_refuse ml_X10_151 (rvM0 ev u) hl.1 rfl rfl (Nat.le_of_ble_eq_true rfl) (rm_le (by decide) (by decide)) dX10_turned_70) (fun H locs hw => ?_)
    exact retI hc hr hlk hw hf dX10_turned_73
  have wL96 : ∀ (u : SS) (H : Heap) (locs : List Loc) (ls : Array Slot), VW wdM ev s u H locs → lv_has ls 8 [(0, .ref (ev.2.1 0))] → f_X10_turned_L96  u = some (r, u') → W p l e (rmk 7) s m av below meth cd H locs 0 0 (ZI wdM ev s below av r u') (F0 m 96 ls []) := by
    intro  u H locs ls hw hl hf
    unfold f_X10_turned_L96 at hf
    refine lv_aload_n hx hb dX10_turned_96 rfl (lv_at hl 0 rfl) ?_
    refine lv_bipush (v := (-7 : Int32)) hx hb dX10_turned_97 (by decide) ?_
    obtain ⟨r29, u28, h27, hf⟩ := ob_some hf
    refine endI okM hw (runV_ok (As := [.int (-7 : Int32)]) (rest := []) okM hc hw (c_X10_refuse l ev (-7 : Int32) u h27 H.size) kv_X10_refuse ml_X10_151 (rvM0 ev u) hl.1 rfl rfl (Nat.le_of_ble_eq_true rfl) (rm_le (by decide) (by decide)) dX10_turned_99) (fun H locs hw => ?_)
    exact retI hc hr hlk hw hf dX10_turned_102
  have wL210 : ∀ (k125 : Int32 → Int32 → Int32 → Int32 → Int32 → Int32 → SS → Option (Int32 × SS)) (hk125 : ∀ (b1 : Int32) (b2 : Int32) (b3 : Int32) (b4 : Int32) (b5 : Int32) (b6 : Int32) (u : SS) (H : Heap) (locs : List Loc) (ls : Array Slot), VW wdM ev s u H locs → lv_has ls 8 [(0, .ref (ev.2.1 0)), (1, .int b1), (2, .int b2), (3, .int b3), (4, .int b4), (5, .int b5), (6, .int b6)] → k125 b1 b2 b3 b4 b5 b6 u = some (r, u') → W p l e (rmk 7) s m av below meth cd H locs 0 0 (ZI wdM ev s below av r u') (F0 m 125 ls [])) (b1 : Int32) (b2 : Int32) (b3 : Int32) (b4 : Int32) (b5 : Int32) (b6 : Int32) (u : SS) (H : Heap) (locs : List Loc) (ls : Array Slot), VW wdM ev s u H locs → lv_has ls 8 [(0, .ref (ev.2.1 0)), (1, .int b1), (2, .int b2), (3, .int b3), (4, .int b4), (5, .int b5), (6, .int b6)] → f_X10_turned_L210 k125 b1 b2 b3 b4 b5 b6 u = some (r, u') → W p l e (rmk 7) s m av below meth cd H locs 0 0 (ZI wdM ev s below av r u') (F0 m 210 ls []) := by
    intro k125 hk125 b1 b2 b3 b4 b5 b6 u H locs ls hw hl hf
    unfold f_X10_turned_L210 at hf
    obtain ⟨x36, ex36, hf⟩ := lt_some hf
    refine lv_iinc (v := x36) (lv' := [(6, .int x36), (0, .ref (ev.2.1 0)), (1, .int b1), (2, .int b2), (3, .int b3), (4, .int b4), (5, .int b5)]) hx hb dX10_turned_210 hl (k := 6) rfl (by rw [ex36]; rfl) (by decide) rfl (fun ls hl => ?_)
    refine lv_goto (tgt := 125) hx hb dX10_turned_213 (by decide) ?_
    exact hk125 b1 b2 b3 b4 b5 x36 u H locs ls hw (lv_sub hl [1, 2, 3, 4, 5, 6, 0] rfl) hf
  have wL163 : ∀ (k125 : Int32 → Int32 → Int32 → Int32 → Int32 → Int32 → SS → Option (Int32 × SS)) (hk125 : ∀ (b1 : Int32) (b2 : Int32) (b3 : Int32) (b4 : Int32) (b5 : Int32) (b6 : Int32) (u : SS) (H : Heap) (locs : List Loc) (ls : Array Slot), VW wdM ev s u H locs → lv_has ls 8 [(0, .ref (ev.2.1 0)), (1, .int b1), (2, .int b2), (3, .int b3), (4, .int b4), (5, .int b5), (6, .int b6)] → k125 b1 b2 b3 b4 b5 b6 u = some (r, u') → W p l e (rmk 7) s m av below meth cd H locs 0 0 (ZI wdM ev s below av r u') (F0 m 125 ls [])) (b1 : Int32) (b2 : Int32) (b3 : Int32) (b4 : Int32) (b5 : Int32) (b6 : Int32) (q0 : Int32) (u : SS) (H : Heap) (locs : List Loc) (ls : Array Slot), VW wdM ev s u H locs → lv_has ls 8 [(0, .ref (ev.2.1 0)), (1, .int b1), (2, .int b2), (3, .int b3), (4, .int b4), (5, .int b5), (6, .int b6)] → f_X10_turned_L163 k125 b1 b2 b3 b4 b5 b6 q0 u = some (r, u') → W p l e (rmk 7) s m av below meth cd H locs 0 0 (ZI wdM ev s below av r u') (F0 m 163 ls [.int q0]) := by
    intro k125 hk125 b1 b2 b3 b4 b5 b6 q0 u H locs ls hw hl hf
    unfold f_X10_turned_L163 at hf
    refine lv_istore (lv' := [(7, .int q0), (0, .ref (ev.2.1 0)), (1, .int b1), (2, .int b2), (3, .int b3), (4, .int b4), (5, .int b5), (6, .int b6)]) hx hb dX10_turned_163 hl (by decide) rfl (fun ls hl => ?_)
    refine lv_iload hx hb dX10_turned_165 (lv_at hl 0 rfl) ?_
    refine lv_if_eq (tgt := 210) hx hb dX10_turned_167 (by decide) (fun z => ?_) (fun z => ?_)
    · have hf := it_pos z hf
      exact wL210 k125 hk125 b1 b2 b3 b4 b5 b6 u H locs ls hw (lv_sub hl [1, 2, 3, 4, 5, 6, 7] rfl) hf
    · have hf := it_neg z hf
      refine lv_aload_n hx hb dX10_turned_170 rfl (lv_at hl 1 rfl) ?_
      refine lv_iload hx hb dX10_turned_171 (lv_at hl 5 rfl) ?_
      refine lv_iconst (v := (0 : Int32)) hx hb dX10_turned_173 (by decide) ?_
      refine lv_iload hx hb dX10_turned_174 (lv_at hl 7 rfl) ?_
      obtain ⟨r39, u38, h37, hf⟩ := ob_some hf
      refine endI okM hw (runV_ok (As := [.int b4, .int (0 : Int32), .int b6]) (rest := []) okM hc hw (c_X10_findPoints l ev b4 (0 : Int32) b6 u h37 H.size) kv_X10_findPoints ml_X10_312 (rvM0 ev u) hl.1 rfl rfl (Nat.le_of_ble_eq_true rfl) (rm_le (by decide) (by decide)) dX10_turned_176) (fun H locs hw => ?_)
      refine lv_if_eq (tgt := 210) hx hb dX10_turned_179 (by decide) (fun z => ?_) (fun z => ?_)
      · have hf := it_pos z hf
        exact wL210 k125 hk125 b1 b2 b3 b4 b5 b6 u38 H locs ls hw (lv_sub hl [1, 2, 3, 4, 5, 6, 7] rfl) hf
      · have hf := it_neg z hf
        refine lv_aload_n hx hb dX10_turned_182 rfl (lv_at hl 1 rfl) ?_
        refine lv_iload hx hb dX10_turned_183 (lv_at hl 6 rfl) ?_
        refine lv_iconst (v := (0 : Int32)) hx hb dX10_turned_185 (by decide) ?_
        refine lv_iload hx hb dX10_turned_186 (lv_at hl 7 rfl) ?_
        obtain ⟨r42, u41, h40, hf⟩ := ob_some hf
        refine endI okM hw (runV_ok (As := [.int b5, .int (0 : Int32), .int b6]) (rest := []) okM hc hw (c_X10_findPoints l ev b5 (0 : Int32) b6 u38 h40 H.size) kv_X10_findPoints ml_X10_312 (rvM0 ev u38) hl.1 rfl rfl (Nat.le_of_ble_eq_true rfl) (rm_le (by decide) (by decide)) dX10_turned_188) (fun H locs hw => ?_)
        refine lv_if_eq (tgt := 210) hx hb dX10_turned_191 (by decide) (fun z => ?_) (fun z => ?_)
        · have hf := it_pos z hf
          exact wL210 k125 hk125 b1 b2 b3 b4 b5 b6 u41 H locs ls hw (lv_sub hl [1, 2, 3, 4, 5, 6, 7] rfl) hf
        · have hf := it_neg z hf
          refine lv_aload_n hx hb dX10_turned_194 rfl (lv_at hl 1 rfl) ?_
          refine lv_iload hx hb dX10_turned_195 (lv_at hl 6 rfl) ?_
          refine lv_iload hx hb dX10_turned_197 (lv_at hl 5 rfl) ?_
          refine lv_iload hx hb dX10_turned_199 (lv_at hl 7 rfl) ?_
          obtain ⟨r45, u44, h43, hf⟩ := ob_some hf
          refine endI okM hw (runV_ok (As := [.int b5, .int b4, .int b6]) (rest := []) okM hc hw (c_X10_isAhead l ev b5 b4 b6 u41 h43 H.size) kv_X10_isAhead ml_X10_318 (rvM0 ev u41) hl.1 rfl rfl (Nat.le_of_ble_eq_true rfl) (rm_le (by decide) (by decide)) dX10_turned_201) (fun H locs hw => ?_)
          refine lv_if_eq (tgt := 210) hx hb dX10_turned_204 (by decide) (fun z => ?_) (fun z => ?_)
          · have hf := it_pos z hf
            exact wL210 k125 hk125 b1 b2 b3 b4 b5 b6 u44 H locs ls hw (lv_sub hl [1, 2, 3, 4, 5, 6, 7] rfl) hf
          · have hf := it_neg z hf
            refine lv_iload hx hb dX10_turned_207 (lv_at hl 7 rfl) ?_
            exact retI hc hr hlk hw hf dX10_turned_209
  have wL162 : ∀ (k125 : Int32 → Int32 → Int32 → Int32 → Int32 → Int32 → SS → Option (Int32 × SS)) (hk125 : ∀ (b1 : Int32) (b2 : Int32) (b3 : Int32) (b4 : Int32) (b5 : Int32) (b6 : Int32) (u : SS) (H : Heap) (locs : List Loc) (ls : Array Slot), VW wdM ev s u H locs → lv_has ls 8 [(0, .ref (ev.2.1 0)), (1, .int b1), (2, .int b2), (3, .int b3), (4, .int b4), (5, .int b5), (6, .int b6)] → k125 b1 b2 b3 b4 b5 b6 u = some (r, u') → W p l e (rmk 7) s m av below meth cd H locs 0 0 (ZI wdM ev s below av r u') (F0 m 125 ls [])) (b1 : Int32) (b2 : Int32) (b3 : Int32) (b4 : Int32) (b5 : Int32) (b6 : Int32) (u : SS) (H : Heap) (locs : List Loc) (ls : Array Slot), VW wdM ev s u H locs → lv_has ls 8 [(0, .ref (ev.2.1 0)), (1, .int b1), (2, .int b2), (3, .int b3), (4, .int b4), (5, .int b5), (6, .int b6)] → f_X10_turned_L162 k125 b1 b2 b3 b4 b5 b6 u = some (r, u') → W p l e (rmk 7) s m av below meth cd H locs 0 0 (ZI wdM ev s below av r u') (F0 m 162 ls []) := by
    intro k125 hk125 b1 b2 b3 b4 b5 b6 u H locs ls hw hl hf
    unfold f_X10_turned_L162 at hf
    refine lv_iconst (v := (0 : Int32)) hx hb dX10_turned_162 (by decide) ?_
    exact wL163 k125 hk125 b1 b2 b3 b4 b5 b6 (0 : Int32) u H locs ls hw (lv_sub hl [0, 1, 2, 3, 4, 5, 6] rfl) hf
  have wL125 : ∀ (n : Nat) (b1 : Int32) (b2 : Int32) (b3 : Int32) (b4 : Int32) (b5 : Int32) (b6 : Int32) (u : SS) (H : Heap) (locs : List Loc) (ls : Array Slot), VW wdM ev s u H locs → lv_has ls 8 [(0, .ref (ev.2.1 0)), (1, .int b1), (2, .int b2), (3, .int b3), (4, .int b4), (5, .int b5), (6, .int b6)] → f_X10_turned_L125 n b1 b2 b3 b4 b5 b6 u = some (r, u') → W p l e (rmk 7) s m av below meth cd H locs 0 0 (ZI wdM ev s below av r u') (F0 m 125 ls []) := by
    intro n
    induction n with
    | zero =>
      intro b1 b2 b3 b4 b5 b6 u H locs ls hw hl hf
      cases hf
    | succ n hk125 =>
      intro b1 b2 b3 b4 b5 b6 u H locs ls hw hl hf
      have hf : b_X10_turned_L125 (f_X10_turned_L125 n) b1 b2 b3 b4 b5 b6 u = some (r, u') := hf
      unfold b_X10_turned_L125 at hf
      refine lv_iload hx hb dX10_turned_125 (lv_at hl 6 rfl) ?_
      refine lv_bipush (v := (8 : Int32)) hx hb dX10_turned_127 (by decide) ?_
      refine lv_icmp_ge (tgt := 216) hx hb dX10_turned_129 (by decide) (fun z => ?_) (fun z => ?_)
      · have hf := it_pos z hf
        refine lv_bipush (v := (-9 : Int32)) hx hb dX10_turned_216 (by decide) ?_
        exact retI hc hr hlk hw hf dX10_turned_218
      · have hf := it_neg z hf
        refine lv_iload hx hb dX10_turned_132 (lv_at hl 6 rfl) ?_
        refine lv_iload_n hx hb dX10_turned_134 rfl (lv_at hl 2 rfl) ?_
        refine lv_icmp_eq (tgt := 162) hx hb dX10_turned_135 (by decide) (fun z => ?_) (fun z => ?_)
        · have hf := it_pos z hf
          exact wL162 (f_X10_turned_L125 n) hk125 b1 b2 b3 b4 b5 b6 u H locs ls hw (lv_sub hl [0, 1, 2, 3, 4, 5, 6] rfl) hf
        · have hf := it_neg z hf
          refine lv_iload hx hb dX10_turned_138 (lv_at hl 6 rfl) ?_
          refine lv_iload_n hx hb dX10_turned_140 rfl (lv_at hl 3 rfl) ?_
          refine lv_icmp_eq (tgt := 162) hx hb dX10_turned_141 (by decide) (fun z => ?_) (fun z => ?_)
          · have hf := it_pos z hf
            exact wL162 (f_X10_turned_L125 n) hk125 b1 b2 b3 b4 b5 b6 u H locs ls hw (lv_sub hl [0, 1, 2, 3, 4, 5, 6] rfl) hf
          · have hf := it_neg z hf
            refine lv_aload_n hx hb dX10_turned_144 rfl (lv_at hl 0 rfl) ?_
            refine lv_bipush (v := (8 : Int32)) hx hb dX10_turned_145 (by decide) ?_
            refine lv_iload_n hx hb dX10_turned_147 rfl (lv_at hl 1 rfl) ?_
            refine lv_imul hx hb dX10_turned_148 ?_
            refine lv_iload hx hb dX10_turned_149 (lv_at hl 6 rfl) ?_
            refine lv_iadd hx hb dX10_turned_151 ?_
            obtain ⟨r48, u47, h46, hf⟩ := ob_some hf
            refine endI okM hw (runV_ok (As := [.int (((8 : Int32) * b1) + b6)]) (rest := []) okM hc hw (c_X10_doesStand l ev (((8 : Int32) * b1) + b6) u h46 H.size) kv_X10_doesStand ml_X10_197 (rvM0 ev u) hl.1 rfl rfl (Nat.le_of_ble_eq_true rfl) (rm_le (by decide) (by decide)) dX10_turned_152) (fun H locs hw => ?_)
            refine lv_if_eq (tgt := 162) hx hb dX10_turned_155 (by decide) (fun z => ?_) (fun z => ?_)
            · have hf := it_pos z hf
              exact wL162 (f_X10_turned_L125 n) hk125 b1 b2 b3 b4 b5 b6 u47 H locs ls hw (lv_sub hl [0, 1, 2, 3, 4, 5, 6] rfl) hf
            · have hf := it_neg z hf
              refine lv_iconst (v := (1 : Int32)) hx hb dX10_turned_158 (by decide) ?_
              refine lv_goto (tgt := 163) hx hb dX10_turned_159 (by decide) ?_
              exact wL163 (f_X10_turned_L125 n) hk125 b1 b2 b3 b4 b5 b6 (1 : Int32) u47 H locs ls hw (lv_sub hl [0, 1, 2, 3, 4, 5, 6] rfl) hf
  unfold f_X10_turned at hf
  refine lv_aload_n hx hb dX10_turned_0 rfl (lv_at hl 0 rfl) ?_
  refine lv_iload_n hx hb dX10_turned_1 rfl (lv_at hl 1 rfl) ?_
  obtain ⟨r3, u2, h1, hf⟩ := ob_some hf
  refine endI okM hw (runV_ok (As := [.int a1]) (rest := []) okM hc hw (c_X10_isLot l ev a1 u h1 H.size) kv_X10_isLot ml_X10_170 (rvM0 ev u) hl.1 rfl rfl (Nat.le_of_ble_eq_true rfl) (rm_le (by decide) (by decide)) dX10_turned_2) (fun H locs hw => ?_)
  refine lv_if_eq (tgt := 27) hx hb dX10_turned_5 (by decide) (fun z => ?_) (fun z => ?_)
  · have hf := it_pos z hf
    exact wL27 u2 H locs ls hw (lv_sub hl [0] rfl) hf
  · have hf := it_neg z hf
    refine lv_iload_n hx hb dX10_turned_8 rfl (lv_at hl 2 rfl) ?_
    obtain ⟨r9, u8, h7, hf⟩ := ob_some hf
    refine endI okM hw (runS_ok (As := [.int a2]) (rest := []) okM hc hw (c_X10_isBidder l ev a2 u2 h7 H.size) ks_X10_isBidder ml_X10_166 hl.1 rfl rfl (Nat.le_of_ble_eq_true rfl) (rm_le (by decide) (by decide)) dX10_turned_9) (fun H locs hw => ?_)
    refine lv_if_eq (tgt := 27) hx hb dX10_turned_12 (by decide) (fun z => ?_) (fun z => ?_)
    · have hf := it_pos z hf
      exact wL27 u8 H locs ls hw (lv_sub hl [0] rfl) hf
    · have hf := it_neg z hf
      refine lv_iload_n hx hb dX10_turned_15 rfl (lv_at hl 3 rfl) ?_
      obtain ⟨r12, u11, h10, hf⟩ := ob_some hf
      refine endI okM hw (runS_ok (As := [.int a3]) (rest := []) okM hc hw (c_X10_isBidder l ev a3 u8 h10 H.size) ks_X10_isBidder ml_X10_166 hl.1 rfl rfl (Nat.le_of_ble_eq_true rfl) (rm_le (by decide) (by decide)) dX10_turned_16) (fun H locs hw => ?_)
      refine lv_if_eq (tgt := 27) hx hb dX10_turned_19 (by decide) (fun z => ?_) (fun z => ?_)
      · have hf := it_pos z hf
        exact wL27 u11 H locs ls hw (lv_sub hl [0] rfl) hf
      · have hf := it_neg z hf
        refine lv_iload_n hx hb dX10_turned_22 rfl (lv_at hl 2 rfl) ?_
        refine lv_iload_n hx hb dX10_turned_23 rfl (lv_at hl 3 rfl) ?_
        refine lv_icmp_ne (tgt := 33) hx hb dX10_turned_24 (by decide) (fun z => ?_) (fun z => ?_)
        · have hf := it_neg z hf
          refine lv_bipush (v := (8 : Int32)) hx hb dX10_turned_33 (by decide) ?_
          refine lv_iload_n hx hb dX10_turned_35 rfl (lv_at hl 1 rfl) ?_
          refine lv_imul hx hb dX10_turned_36 ?_
          refine lv_iload_n hx hb dX10_turned_37 rfl (lv_at hl 2 rfl) ?_
          refine lv_iadd hx hb dX10_turned_38 ?_
          obtain ⟨x13, ex13, hf⟩ := lt_some hf
          refine tope ex13 ?_
          refine lv_istore (lv' := [(4, .int x13), (0, .ref (ev.2.1 0)), (1, .int a1), (2, .int a2), (3, .int a3)]) hx hb dX10_turned_39 hl (by decide) rfl (fun ls hl => ?_)
          refine lv_bipush (v := (8 : Int32)) hx hb dX10_turned_41 (by decide) ?_
          refine lv_iload_n hx hb dX10_turned_43 rfl (lv_at hl 2 rfl) ?_
          refine lv_imul hx hb dX10_turned_44 ?_
          refine lv_iload_n hx hb dX10_turned_45 rfl (lv_at hl 4 rfl) ?_
          refine lv_iadd hx hb dX10_turned_46 ?_
          obtain ⟨x14, ex14, hf⟩ := lt_some hf
          refine tope ex14 ?_
          refine lv_istore (lv' := [(5, .int x14), (4, .int x13), (0, .ref (ev.2.1 0)), (1, .int a1), (2, .int a2), (3, .int a3)]) hx hb dX10_turned_47 hl (by decide) rfl (fun ls hl => ?_)
          refine lv_aload_n hx hb dX10_turned_49 rfl (lv_at hl 2 rfl) ?_
          refine lv_iload hx hb dX10_turned_50 (lv_at hl 1 rfl) ?_
          obtain ⟨r17, u16, h15, hf⟩ := ob_some hf
          refine endI okM hw (runV_ok (As := [.int x13]) (rest := []) okM hc hw (c_X10_doesStand l ev x13 u11 h15 H.size) kv_X10_doesStand ml_X10_197 (rvM0 ev u11) hl.1 rfl rfl (Nat.le_of_ble_eq_true rfl) (rm_le (by decide) (by decide)) dX10_turned_52) (fun H locs hw => ?_)
          refine lv_if_eq (tgt := 67) hx hb dX10_turned_55 (by decide) (fun z => ?_) (fun z => ?_)
          · have hf := it_pos z hf
            exact wL67 u16 H locs ls hw (lv_sub hl [2] rfl) hf
          · have hf := it_neg z hf
            refine lv_aload_n hx hb dX10_turned_58 rfl (lv_at hl 2 rfl) ?_
            refine lv_iload hx hb dX10_turned_59 (lv_at hl 0 rfl) ?_
            obtain ⟨r23, u22, h21, hf⟩ := ob_some hf
            refine endI okM hw (runV_ok (As := [.int x14]) (rest := []) okM hc hw (c_X10_doesStand l ev x14 u16 h21 H.size) kv_X10_doesStand ml_X10_197 (rvM0 ev u16) hl.1 rfl rfl (Nat.le_of_ble_eq_true rfl) (rm_le (by decide) (by decide)) dX10_turned_61) (fun H locs hw => ?_)
            refine lv_if_ne (tgt := 74) hx hb dX10_turned_64 (by decide) (fun z => ?_) (fun z => ?_)
            · have hf := it_neg z hf
              refine lv_aload_n hx hb dX10_turned_74 rfl (lv_at hl 2 rfl) ?_
              refine lv_iload hx hb dX10_turned_75 (lv_at hl 1 rfl) ?_
              refine lv_iconst (v := (0 : Int32)) hx hb dX10_turned_77 (by decide) ?_
              refine lv_iconst (v := (-1 : Int32)) hx hb dX10_turned_78 (by decide) ?_
              obtain ⟨r26, u25, h24, hf⟩ := ob_some hf
              refine endI okM hw (runV_ok (As := [.int x13, .int (0 : Int32), .int (-1 : Int32)]) (rest := []) okM hc hw (c_X10_findPoints l ev x13 (0 : Int32) (-1 : Int32) u22 h24 H.size) kv_X10_findPoints ml_X10_312 (rvM0 ev u22) hl.1 rfl rfl (Nat.le_of_ble_eq_true rfl) (rm_le (by decide) (by decide)) dX10_turned_79) (fun H locs hw => ?_)
              refine lv_if_eq (tgt := 96) hx hb dX10_turned_82 (by decide) (fun z => ?_) (fun z => ?_)
              · have hf := it_pos z hf
                exact wL96 u25 H locs ls hw (lv_sub hl [2] rfl) hf
              · have hf := it_neg z hf
                refine lv_aload_n hx hb dX10_turned_85 rfl (lv_at hl 2 rfl) ?_
                refine lv_iload hx hb dX10_turned_86 (lv_at hl 0 rfl) ?_
                refine lv_iconst (v := (0 : Int32)) hx hb dX10_turned_88 (by decide) ?_
                refine lv_iconst (v := (-1 : Int32)) hx hb dX10_turned_89 (by decide) ?_
                obtain ⟨r32, u31, h30, hf⟩ := ob_some hf
                refine endI okM hw (runV_ok (As := [.int x14, .int (0 : Int32), .int (-1 : Int32)]) (rest := []) okM hc hw (c_X10_findPoints l ev x14 (0 : Int32) (-1 : Int32) u25 h30 H.size) kv_X10_findPoints ml_X10_312 (rvM0 ev u25) hl.1 rfl rfl (Nat.le_of_ble_eq_true rfl) (rm_le (by decide) (by decide)) dX10_turned_90) (fun H locs hw => ?_)
                refine lv_if_ne (tgt := 103) hx hb dX10_turned_93 (by decide) (fun z => ?_) (fun z => ?_)
                · have hf := it_neg z hf
                  refine lv_aload_n hx hb dX10_turned_103 rfl (lv_at hl 2 rfl) ?_
                  refine lv_iload hx hb dX10_turned_104 (lv_at hl 1 rfl) ?_
                  refine lv_iload hx hb dX10_turned_106 (lv_at hl 0 rfl) ?_
                  refine lv_iconst (v := (-1 : Int32)) hx hb dX10_turned_108 (by decide) ?_
                  obtain ⟨r35, u34, h33, hf⟩ := ob_some hf
                  refine endI okM hw (runV_ok (As := [.int x13, .int x14, .int (-1 : Int32)]) (rest := []) okM hc hw (c_X10_isAhead l ev x13 x14 (-1 : Int32) u31 h33 H.size) kv_X10_isAhead ml_X10_318 (rvM0 ev u31) hl.1 rfl rfl (Nat.le_of_ble_eq_true rfl) (rm_le (by decide) (by decide)) dX10_turned_109) (fun H locs hw => ?_)
                  refine lv_if_ne (tgt := 122) hx hb dX10_turned_112 (by decide) (fun z => ?_) (fun z => ?_)
                  · have hf := it_neg z hf
                    refine lv_iconst (v := (0 : Int32)) hx hb dX10_turned_122 (by decide) ?_
                    refine lv_istore (lv' := [(6, .int (0 : Int32)), (5, .int x14), (4, .int x13), (0, .ref (ev.2.1 0)), (1, .int a1), (2, .int a2), (3, .int a3)]) hx hb dX10_turned_123 hl (by decide) rfl (fun ls hl => ?_)
                    exact wL125 FU a1 a2 a3 x13 x14 (0 : Int32) u34 H locs ls hw (lv_sub hl [3, 4, 5, 6, 2, 1, 0] rfl) hf
                  · have hf := it_pos z hf
                    refine lv_aload_n hx hb dX10_turned_115 rfl (lv_at hl 2 rfl) ?_
                    refine lv_bipush (v := (-3 : Int32)) hx hb dX10_turned_116 (by decide) ?_
                    obtain ⟨r51, u50, h49, hf⟩ := ob_some hf
                    refine endI okM hw (runV_ok (As := [.int (-3 : Int32)]) (rest := []) okM hc hw (c_X10_refuse l ev (-3 : Int32) u34 h49 H.size) kv_X10_refuse ml_X10_151 (rvM0 ev u34) hl.1 rfl rfl (Nat.le_of_ble_eq_true rfl) (rm_le (by decide) (by decide)) dX10_turned_118) (fun H locs hw => ?_)
                    exact retI hc hr hlk hw hf dX10_turned_121
                · have hf := it_pos z hf
                  exact wL96 u31 H locs ls hw (lv_sub hl [2] rfl) hf
            · have hf := it_pos z hf
              exact wL67 u22 H locs ls hw (lv_sub hl [2] rfl) hf
        · have hf := it_pos z hf
          exact wL27 u11 H locs ls hw (lv_sub hl [0] rfl) hf
def f_X10_isLow_L55 (k8 : Int32 → Int64 → Int32 → Int32 → SS → Option (Int32 × SS)) (b1 : Int32) (b2 : Int64) (b4 : Int32) (b5 : Int32) (u : SS) : Option (Int32 × SS) :=
  lt (b5 + (1 : Int32)) fun x5 => k8 b1 b2 b4 x5 u
def b_X10_isLow_L8 (k8 : Int32 → Int64 → Int32 → Int32 → SS → Option (Int32 × SS)) (b1 : Int32) (b2 : Int64) (b4 : Int32) (b5 : Int32) (u : SS) : Option (Int32 × SS) :=
  if (8 : Int32) ≤ b5 then (if b4 ≤ 0 then (some ((0 : Int32), u)) else (ob (f_X10_priceOf b1 u) fun r3 u2 => oi (2 : Int32) 4 (if 0 ≤ (lg_cmp (((100 : Int64) * (r3.toInt64)) * (b4.toInt64)) (((gA u2 8 (2 : Int32).toNatClampNeg).toInt64) * b2)) then (some ((0 : Int32), u2)) else (some ((1 : Int32), u2))))) else (lt (((8 : Int32) * (b1 / (8 : Int32))) + b5) fun x4 => if x4 = b1 then (f_X10_isLow_L55 k8 b1 b2 b4 b5 u) else (ob (f_X10_doesStand x4 u) fun r8 u7 => if r8 = 0 then (f_X10_isLow_L55 k8 b1 b2 b4 b5 u7) else (ob (f_X10_priceOf x4 u7) fun r11 u10 => lt (b2 + (r11.toInt64)) fun x12 => lt (b4 + (1 : Int32)) fun x13 => f_X10_isLow_L55 k8 b1 x12 x13 b5 u10)))
def f_X10_isLow_L8 : Nat → Int32 → Int64 → Int32 → Int32 → SS → Option (Int32 × SS)
  | 0 => fun _ _ _ _ _ => none
  | n + 1 => b_X10_isLow_L8 (f_X10_isLow_L8 n)
def f_X10_isLow (a1 : Int32) (u : SS) : Option (Int32 × SS) :=
  f_X10_isLow_L8 FU a1 (0 : Int64) (0 : Int32) (0 : Int32) u
set_option maxHeartbeats 4000000 in
set_option maxRecDepth 100000 in
theorem c_X10_isLow (l : Launch) (ev : EV) (a1 : Int32) (u : SS) {r : Int32} {u' : SS} (hf : f_X10_isLow a1 u = some (r, u')) : MI wdM l yX10_isLow cX10_isLow 7 (some .boolean) 2 ev [.ref (ev.2.1 0), .int a1] u r u' := by
  refine bodyI (by decide +kernel) rfl (Nat.le_of_ble_eq_true rfl) ?_
  intro p e s m below meth cd ls H locs hc hr hlk hw hl
  generalize hav : (List.toArray [.ref (ev.2.1 0), .int a1] : Array Value) = av at hc ⊢
  obtain ⟨hx, hb, hml, hown, hts, hK, hZ⟩ := id hc
  have hl : lv_has ls 7 [(0, .ref (ev.2.1 0)), (1, .int a1)] := hl
  have wL55 : ∀ (k8 : Int32 → Int64 → Int32 → Int32 → SS → Option (Int32 × SS)) (hk8 : ∀ (b1 : Int32) (b2 : Int64) (b4 : Int32) (b5 : Int32) (u : SS) (H : Heap) (locs : List Loc) (ls : Array Slot), VW wdM ev s u H locs → lv_has ls 7 [(0, .ref (ev.2.1 0)), (1, .int b1), (2, .long b2), (4, .int b4), (5, .int b5)] → k8 b1 b2 b4 b5 u = some (r, u') → W p l e (rmk 2) s m av below meth cd H locs 0 0 (ZI wdM ev s below av r u') (F0 m 8 ls [])) (b1 : Int32) (b2 : Int64) (b4 : Int32) (b5 : Int32) (u : SS) (H : Heap) (locs : List Loc) (ls : Array Slot), VW wdM ev s u H locs → lv_has ls 7 [(0, .ref (ev.2.1 0)), (1, .int b1), (2, .long b2), (4, .int b4), (5, .int b5)] → f_X10_isLow_L55 k8 b1 b2 b4 b5 u = some (r, u') → W p l e (rmk 2) s m av below meth cd H locs 0 0 (ZI wdM ev s below av r u') (F0 m 55 ls []) := by
    intro k8 hk8 b1 b2 b4 b5 u H locs ls hw hl hf
    unfold f_X10_isLow_L55 at hf
    obtain ⟨x5, ex5, hf⟩ := lt_some hf
    refine lv_iinc (v := x5) (lv' := [(5, .int x5), (0, .ref (ev.2.1 0)), (1, .int b1), (2, .long b2), (4, .int b4)]) hx hb dX10_isLow_55 hl (k := 4) rfl (by rw [ex5]; rfl) (by decide) rfl (fun ls hl => ?_)
    refine lv_goto (tgt := 8) hx hb dX10_isLow_58 (by decide) ?_
    exact hk8 b1 b2 b4 x5 u H locs ls hw (lv_sub hl [1, 2, 3, 4, 0] rfl) hf
  have wL8 : ∀ (n : Nat) (b1 : Int32) (b2 : Int64) (b4 : Int32) (b5 : Int32) (u : SS) (H : Heap) (locs : List Loc) (ls : Array Slot), VW wdM ev s u H locs → lv_has ls 7 [(0, .ref (ev.2.1 0)), (1, .int b1), (2, .long b2), (4, .int b4), (5, .int b5)] → f_X10_isLow_L8 n b1 b2 b4 b5 u = some (r, u') → W p l e (rmk 2) s m av below meth cd H locs 0 0 (ZI wdM ev s below av r u') (F0 m 8 ls []) := by
    intro n
    induction n with
    | zero =>
      intro b1 b2 b4 b5 u H locs ls hw hl hf
      cases hf
    | succ n hk8 =>
      intro b1 b2 b4 b5 u H locs ls hw hl hf
      have hf : b_X10_isLow_L8 (f_X10_isLow_L8 n) b1 b2 b4 b5 u = some (r, u') := hf
      unfold b_X10_isLow_L8 at hf
      refine lv_iload hx hb dX10_isLow_8 (lv_at hl 4 rfl) ?_
      refine lv_bipush (v := (8 : Int32)) hx hb dX10_isLow_10 (by decide) ?_
      refine lv_icmp_ge (tgt := 61) hx hb dX10_isLow_12 (by decide) (fun z => ?_) (fun z => ?_)
      · have hf := it_pos z hf
        refine lv_iload hx hb dX10_isLow_61 (lv_at hl 3 rfl) ?_
        refine lv_if_le (tgt := 97) hx hb dX10_isLow_63 (by decide) (fun z => ?_) (fun z => ?_)
        · have hf := it_pos z hf
          refine lv_iconst (v := (0 : Int32)) hx hb dX10_isLow_97 (by decide) ?_
          exact retZ hc hr hlk hw nz0 hf dX10_isLow_98
        · have hf := it_neg z hf
          refine lv_ldc2 (v := (100 : Int64)) hx hb hown (hts _ ct_X10_187) dX10_isLow_66 ?_
          refine lv_aload_n hx hb dX10_isLow_69 rfl (lv_at hl 0 rfl) ?_
          refine lv_iload_n hx hb dX10_isLow_70 rfl (lv_at hl 1 rfl) ?_
          obtain ⟨r3, u2, h1, hf⟩ := ob_some hf
          refine endI okM hw (runV_ok (As := [.int b1]) (rest := [.long (100 : Int64)]) okM hc hw (c_X10_priceOf l ev b1 u h1 H.size) kv_X10_priceOf ml_X10_191 (rvM0 ev u) hl.1 rfl rfl (Nat.le_of_ble_eq_true rfl) (rm_le (by decide) (by decide)) dX10_isLow_71) (fun H locs hw => ?_)
          refine lv_i2l (v := r3.toInt64) hx hb dX10_isLow_74 rfl ?_
          refine lv_lmul hx hb dX10_isLow_75 ?_
          refine lv_iload hx hb dX10_isLow_76 (lv_at hl 3 rfl) ?_
          refine lv_i2l (v := b4.toInt64) hx hb dX10_isLow_78 rfl ?_
          refine lv_lmul hx hb dX10_isLow_79 ?_
          refine lv_aload_n hx hb dX10_isLow_80 rfl (lv_at hl 0 rfl) ?_
          refine gM0_11 hc hw fl_X10_42 dX10_isLow_81 ?_
          refine lv_iconst (v := (2 : Int32)) hx hb dX10_isLow_84 (by decide) ?_
          obtain ⟨z, hf⟩ := oi_some hf
          refine aM9 hc hw z dX10_isLow_85 ?_
          refine lv_i2l (v := (gA u2 8 (2 : Int32).toNatClampNeg).toInt64) hx hb dX10_isLow_86 rfl ?_
          refine lv_lload_n hx hb dX10_isLow_87 rfl (lv_at hl 2 rfl) ?_
          refine lv_lmul hx hb dX10_isLow_88 ?_
          refine W.lcmp hx hb dX10_isLow_89 ?_
          refine lv_if_ge (tgt := 97) hx hb dX10_isLow_90 (by decide) (fun z => ?_) (fun z => ?_)
          · have hf := it_pos z hf
            refine lv_iconst (v := (0 : Int32)) hx hb dX10_isLow_97 (by decide) ?_
            exact retZ hc hr hlk hw nz0 hf dX10_isLow_98
          · have hf := it_neg z hf
            refine lv_iconst (v := (1 : Int32)) hx hb dX10_isLow_93 (by decide) ?_
            refine lv_goto (tgt := 98) hx hb dX10_isLow_94 (by decide) ?_
            exact retZ hc hr hlk hw nz1 hf dX10_isLow_98
      · have hf := it_neg z hf
        refine lv_bipush (v := (8 : Int32)) hx hb dX10_isLow_15 (by decide) ?_
        refine lv_iload_n hx hb dX10_isLow_17 rfl (lv_at hl 1 rfl) ?_
        refine lv_bipush (v := (8 : Int32)) hx hb dX10_isLow_18 (by decide) ?_
        refine lv_idiv hx hb dX10_isLow_20 (by decide) ?_
        refine lv_imul hx hb dX10_isLow_21 ?_
        refine lv_iload hx hb dX10_isLow_22 (lv_at hl 4 rfl) ?_
        refine lv_iadd hx hb dX10_isLow_24 ?_
        obtain ⟨x4, ex4, hf⟩ := lt_some hf
        refine tope ex4 ?_
        refine lv_istore (lv' := [(6, .int x4), (0, .ref (ev.2.1 0)), (1, .int b1), (2, .long b2), (4, .int b4), (5, .int b5)]) hx hb dX10_isLow_25 hl (by decide) rfl (fun ls hl => ?_)
        refine lv_iload hx hb dX10_isLow_27 (lv_at hl 0 rfl) ?_
        refine lv_iload_n hx hb dX10_isLow_29 rfl (lv_at hl 2 rfl) ?_
        refine lv_icmp_eq (tgt := 55) hx hb dX10_isLow_30 (by decide) (fun z => ?_) (fun z => ?_)
        · have hf := it_pos z hf
          exact wL55 (f_X10_isLow_L8 n) hk8 b1 b2 b4 b5 u H locs ls hw (lv_sub hl [1, 2, 3, 4, 5] rfl) hf
        · have hf := it_neg z hf
          refine lv_aload_n hx hb dX10_isLow_33 rfl (lv_at hl 1 rfl) ?_
          refine lv_iload hx hb dX10_isLow_34 (lv_at hl 0 rfl) ?_
          obtain ⟨r8, u7, h6, hf⟩ := ob_some hf
          refine endI okM hw (runV_ok (As := [.int x4]) (rest := []) okM hc hw (c_X10_doesStand l ev x4 u h6 H.size) kv_X10_doesStand ml_X10_197 (rvM0 ev u) hl.1 rfl rfl (Nat.le_of_ble_eq_true rfl) (rm_le (by decide) (by decide)) dX10_isLow_36) (fun H locs hw => ?_)
          refine lv_if_eq (tgt := 55) hx hb dX10_isLow_39 (by decide) (fun z => ?_) (fun z => ?_)
          · have hf := it_pos z hf
            exact wL55 (f_X10_isLow_L8 n) hk8 b1 b2 b4 b5 u7 H locs ls hw (lv_sub hl [1, 2, 3, 4, 5] rfl) hf
          · have hf := it_neg z hf
            refine lv_lload_n hx hb dX10_isLow_42 rfl (lv_at hl 3 rfl) ?_
            refine lv_aload_n hx hb dX10_isLow_43 rfl (lv_at hl 1 rfl) ?_
            refine lv_iload hx hb dX10_isLow_44 (lv_at hl 0 rfl) ?_
            obtain ⟨r11, u10, h9, hf⟩ := ob_some hf
            refine endI okM hw (runV_ok (As := [.int x4]) (rest := [.long b2]) okM hc hw (c_X10_priceOf l ev x4 u7 h9 H.size) kv_X10_priceOf ml_X10_191 (rvM0 ev u7) hl.1 rfl rfl (Nat.le_of_ble_eq_true rfl) (rm_le (by decide) (by decide)) dX10_isLow_46) (fun H locs hw => ?_)
            refine lv_i2l (v := r11.toInt64) hx hb dX10_isLow_49 rfl ?_
            refine lv_ladd hx hb dX10_isLow_50 ?_
            obtain ⟨x12, ex12, hf⟩ := lt_some hf
            refine topel ex12 ?_
            refine lv_lstore_n (lv' := [(2, .long x12), (6, .int x4), (0, .ref (ev.2.1 0)), (1, .int b1), (4, .int b4), (5, .int b5)]) hx hb dX10_isLow_51 rfl hl (by decide) rfl (fun ls hl => ?_)
            obtain ⟨x13, ex13, hf⟩ := lt_some hf
            refine lv_iinc (v := x13) (lv' := [(4, .int x13), (2, .long x12), (6, .int x4), (0, .ref (ev.2.1 0)), (1, .int b1), (5, .int b5)]) hx hb dX10_isLow_52 hl (k := 4) rfl (by rw [ex13]; rfl) (by decide) rfl (fun ls hl => ?_)
            exact wL55 (f_X10_isLow_L8 n) hk8 b1 x12 x13 b5 u10 H locs ls hw (lv_sub hl [3, 4, 1, 0, 5] rfl) hf
  unfold f_X10_isLow at hf
  refine lv_lconst (v := (0 : Int64)) hx hb dX10_isLow_0 (by decide) ?_
  refine lv_lstore_n (lv' := [(2, .long (0 : Int64)), (0, .ref (ev.2.1 0)), (1, .int a1)]) hx hb dX10_isLow_1 rfl hl (by decide) rfl (fun ls hl => ?_)
  refine lv_iconst (v := (0 : Int32)) hx hb dX10_isLow_2 (by decide) ?_
  refine lv_istore (lv' := [(4, .int (0 : Int32)), (2, .long (0 : Int64)), (0, .ref (ev.2.1 0)), (1, .int a1)]) hx hb dX10_isLow_3 hl (by decide) rfl (fun ls hl => ?_)
  refine lv_iconst (v := (0 : Int32)) hx hb dX10_isLow_5 (by decide) ?_
  refine lv_istore (lv' := [(5, .int (0 : Int32)), (4, .int (0 : Int32)), (2, .long (0 : Int64)), (0, .ref (ev.2.1 0)), (1, .int a1)]) hx hb dX10_isLow_6 hl (by decide) rfl (fun ls hl => ?_)
  exact wL8 FU a1 (0 : Int64) (0 : Int32) (0 : Int32) u H locs ls hw (lv_sub hl [3, 4, 2, 1, 0] rfl) hf
def f_X10_low (a1 : Int32) (a2 : Int32) (u : SS) : Option (Int32 × SS) :=
  ob (f_X10_fails a1 a2 u) fun r3 u2 => if 0 ≤ r3 then (ob (f_X10_isLow (((8 : Int32) * a2) + a1) u2) fun r6 u5 => if r6 = 0 then (some ((0 : Int32), u5)) else (some ((1 : Int32), u5))) else (ob (f_X10_refuse r3 u2) fun r9 u8 => some (r9, u8))
set_option maxHeartbeats 4000000 in
set_option maxRecDepth 100000 in
theorem c_X10_low (l : Launch) (ev : EV) (a1 : Int32) (a2 : Int32) (u : SS) {r : Int32} {u' : SS} (hf : f_X10_low a1 a2 u = some (r, u')) : MI wdM l yX10_low cX10_low 4 (some .int) 4 ev [.ref (ev.2.1 0), .int a1, .int a2] u r u' := by
  refine bodyI (by decide +kernel) rfl (Nat.le_of_ble_eq_true rfl) ?_
  intro p e s m below meth cd ls H locs hc hr hlk hw hl
  generalize hav : (List.toArray [.ref (ev.2.1 0), .int a1, .int a2] : Array Value) = av at hc ⊢
  obtain ⟨hx, hb, hml, hown, hts, hK, hZ⟩ := id hc
  have hl : lv_has ls 4 [(0, .ref (ev.2.1 0)), (1, .int a1), (2, .int a2)] := hl
  unfold f_X10_low at hf
  refine lv_aload_n hx hb dX10_low_0 rfl (lv_at hl 0 rfl) ?_
  refine lv_iload_n hx hb dX10_low_1 rfl (lv_at hl 1 rfl) ?_
  refine lv_iload_n hx hb dX10_low_2 rfl (lv_at hl 2 rfl) ?_
  obtain ⟨r3, u2, h1, hf⟩ := ob_some hf
  refine endI okM hw (runV_ok (As := [.int a1, .int a2]) (rest := []) okM hc hw (c_X10_fails l ev a1 a2 u h1 H.size) kv_X10_fails ml_X10_203 (rvM0 ev u) hl.1 rfl rfl (Nat.le_of_ble_eq_true rfl) (rm_le (by decide) (by decide)) dX10_low_3) (fun H locs hw => ?_)
  refine lv_istore_n (lv' := [(3, .int r3), (0, .ref (ev.2.1 0)), (1, .int a1), (2, .int a2)]) hx hb dX10_low_6 rfl hl (by decide) rfl (fun ls hl => ?_)
  refine lv_iload_n hx hb dX10_low_7 rfl (lv_at hl 0 rfl) ?_
  refine lv_if_ge (tgt := 19) hx hb dX10_low_8 (by decide) (fun z => ?_) (fun z => ?_)
  · have hf := it_pos z hf
    refine lv_aload_n hx hb dX10_low_19 rfl (lv_at hl 1 rfl) ?_
    refine lv_bipush (v := (8 : Int32)) hx hb dX10_low_20 (by decide) ?_
    refine lv_iload_n hx hb dX10_low_22 rfl (lv_at hl 3 rfl) ?_
    refine lv_imul hx hb dX10_low_23 ?_
    refine lv_iload_n hx hb dX10_low_24 rfl (lv_at hl 2 rfl) ?_
    refine lv_iadd hx hb dX10_low_25 ?_
    obtain ⟨r6, u5, h4, hf⟩ := ob_some hf
    refine endI okM hw (runV_ok (As := [.int (((8 : Int32) * a2) + a1)]) (rest := []) okM hc hw (c_X10_isLow l ev (((8 : Int32) * a2) + a1) u2 h4 H.size) kv_X10_isLow ml_X10_324 (rvM0 ev u2) hl.1 rfl rfl (Nat.le_of_ble_eq_true rfl) (rm_le (by decide) (by decide)) dX10_low_26) (fun H locs hw => ?_)
    refine lv_if_eq (tgt := 36) hx hb dX10_low_29 (by decide) (fun z => ?_) (fun z => ?_)
    · have hf := it_pos z hf
      refine lv_iconst (v := (0 : Int32)) hx hb dX10_low_36 (by decide) ?_
      exact retI hc hr hlk hw hf dX10_low_37
    · have hf := it_neg z hf
      refine lv_iconst (v := (1 : Int32)) hx hb dX10_low_32 (by decide) ?_
      refine lv_goto (tgt := 37) hx hb dX10_low_33 (by decide) ?_
      exact retI hc hr hlk hw hf dX10_low_37
  · have hf := it_neg z hf
    refine lv_aload_n hx hb dX10_low_11 rfl (lv_at hl 1 rfl) ?_
    refine lv_iload_n hx hb dX10_low_12 rfl (lv_at hl 0 rfl) ?_
    obtain ⟨r9, u8, h7, hf⟩ := ob_some hf
    refine endI okM hw (runV_ok (As := [.int r3]) (rest := []) okM hc hw (c_X10_refuse l ev r3 u2 h7 H.size) kv_X10_refuse ml_X10_151 (rvM0 ev u2) hl.1 rfl rfl (Nat.le_of_ble_eq_true rfl) (rm_le (by decide) (by decide)) dX10_low_13) (fun H locs hw => ?_)
    refine lv_goto (tgt := 37) hx hb dX10_low_16 (by decide) ?_
    exact retI hc hr hlk hw hf dX10_low_37
def f_X10_ask_L47 (u : SS) : Option (Int32 × SS) :=
  ob (f_X10_refuse (-3 : Int32) u) fun r10 u9 => some (r10, u9)
def f_X10_ask (a1 : Int32) (a2 : Int32) (a3 : Int32) (u : SS) : Option (Int32 × SS) :=
  ob (f_X10_fails a1 a2 u) fun r3 u2 => if 0 ≤ r3 then (lt (((8 : Int32) * a2) + a1) fun x4 => ob (f_X10_isLow x4 u2) fun r7 u6 => if r7 = 0 then (f_X10_ask_L47 u6) else (oi x4 48 (if (gA u6 7 x4.toNatClampNeg) < 0 then (if (gI u6 0) < a3 then (if a3 ≤ (999999 : Int32) then (oi x4 48 (lt (tA u6 7 x4 a3) fun u11 => lt (sI u11 16 (0 : Int32)) fun u12 => some ((1 : Int32), u12))) else (ob (f_X10_refuse (-6 : Int32) u6) fun r15 u14 => some (r15, u14))) else (ob (f_X10_refuse (-4 : Int32) u6) fun r18 u17 => some (r18, u17))) else (f_X10_ask_L47 u6)))) else (ob (f_X10_refuse r3 u2) fun r21 u20 => some (r21, u20))
set_option maxHeartbeats 4000000 in
set_option maxRecDepth 100000 in
theorem c_X10_ask (l : Launch) (ev : EV) (a1 : Int32) (a2 : Int32) (a3 : Int32) (u : SS) {r : Int32} {u' : SS} (hf : f_X10_ask a1 a2 a3 u = some (r, u')) : MI wdM l yX10_ask cX10_ask 6 (some .int) 4 ev [.ref (ev.2.1 0), .int a1, .int a2, .int a3] u r u' := by
  refine bodyI (by decide +kernel) rfl (Nat.le_of_ble_eq_true rfl) ?_
  intro p e s m below meth cd ls H locs hc hr hlk hw hl
  generalize hav : (List.toArray [.ref (ev.2.1 0), .int a1, .int a2, .int a3] : Array Value) = av at hc ⊢
  obtain ⟨hx, hb, hml, hown, hts, hK, hZ⟩ := id hc
  have hl : lv_has ls 6 [(0, .ref (ev.2.1 0)), (1, .int a1), (2, .int a2), (3, .int a3)] := hl
  have wL47 : ∀ (u : SS) (H : Heap) (locs : List Loc) (ls : Array Slot), VW wdM ev s u H locs → lv_has ls 6 [(0, .ref (ev.2.1 0))] → f_X10_ask_L47  u = some (r, u') → W p l e (rmk 4) s m av below meth cd H locs 0 0 (ZI wdM ev s below av r u') (F0 m 47 ls []) := by
    intro  u H locs ls hw hl hf
    unfold f_X10_ask_L47 at hf
    refine lv_aload_n hx hb dX10_ask_47 rfl (lv_at hl 0 rfl) ?_
    refine lv_bipush (v := (-3 : Int32)) hx hb dX10_ask_48 (by decide) ?_
    obtain ⟨r10, u9, h8, hf⟩ := ob_some hf
    refine endI okM hw (runV_ok (As := [.int (-3 : Int32)]) (rest := []) okM hc hw (c_X10_refuse l ev (-3 : Int32) u h8 H.size) kv_X10_refuse ml_X10_151 (rvM0 ev u) hl.1 rfl rfl (Nat.le_of_ble_eq_true rfl) (rm_le (by decide) (by decide)) dX10_ask_50) (fun H locs hw => ?_)
    exact retI hc hr hlk hw hf dX10_ask_53
  unfold f_X10_ask at hf
  refine lv_aload_n hx hb dX10_ask_0 rfl (lv_at hl 0 rfl) ?_
  refine lv_iload_n hx hb dX10_ask_1 rfl (lv_at hl 1 rfl) ?_
  refine lv_iload_n hx hb dX10_ask_2 rfl (lv_at hl 2 rfl) ?_
  obtain ⟨r3, u2, h1, hf⟩ := ob_some hf
  refine endI okM hw (runV_ok (As := [.int a1, .int a2]) (rest := []) okM hc hw (c_X10_fails l ev a1 a2 u h1 H.size) kv_X10_fails ml_X10_203 (rvM0 ev u) hl.1 rfl rfl (Nat.le_of_ble_eq_true rfl) (rm_le (by decide) (by decide)) dX10_ask_3) (fun H locs hw => ?_)
  refine lv_istore (lv' := [(4, .int r3), (0, .ref (ev.2.1 0)), (1, .int a1), (2, .int a2), (3, .int a3)]) hx hb dX10_ask_6 hl (by decide) rfl (fun ls hl => ?_)
  refine lv_iload hx hb dX10_ask_8 (lv_at hl 0 rfl) ?_
  refine lv_if_ge (tgt := 20) hx hb dX10_ask_10 (by decide) (fun z => ?_) (fun z => ?_)
  · have hf := it_pos z hf
    refine lv_bipush (v := (8 : Int32)) hx hb dX10_ask_20 (by decide) ?_
    refine lv_iload_n hx hb dX10_ask_22 rfl (lv_at hl 3 rfl) ?_
    refine lv_imul hx hb dX10_ask_23 ?_
    refine lv_iload_n hx hb dX10_ask_24 rfl (lv_at hl 2 rfl) ?_
    refine lv_iadd hx hb dX10_ask_25 ?_
    obtain ⟨x4, ex4, hf⟩ := lt_some hf
    refine tope ex4 ?_
    refine lv_istore (lv' := [(5, .int x4), (4, .int r3), (0, .ref (ev.2.1 0)), (1, .int a1), (2, .int a2), (3, .int a3)]) hx hb dX10_ask_26 hl (by decide) rfl (fun ls hl => ?_)
    refine lv_aload_n hx hb dX10_ask_28 rfl (lv_at hl 2 rfl) ?_
    refine lv_iload hx hb dX10_ask_29 (lv_at hl 0 rfl) ?_
    obtain ⟨r7, u6, h5, hf⟩ := ob_some hf
    refine endI okM hw (runV_ok (As := [.int x4]) (rest := []) okM hc hw (c_X10_isLow l ev x4 u2 h5 H.size) kv_X10_isLow ml_X10_324 (rvM0 ev u2) hl.1 rfl rfl (Nat.le_of_ble_eq_true rfl) (rm_le (by decide) (by decide)) dX10_ask_31) (fun H locs hw => ?_)
    refine lv_if_eq (tgt := 47) hx hb dX10_ask_34 (by decide) (fun z => ?_) (fun z => ?_)
    · have hf := it_pos z hf
      exact wL47 u6 H locs ls hw (lv_sub hl [2] rfl) hf
    · have hf := it_neg z hf
      refine lv_aload_n hx hb dX10_ask_37 rfl (lv_at hl 2 rfl) ?_
      refine gM0_10 hc hw fl_X10_39 dX10_ask_38 ?_
      refine lv_iload hx hb dX10_ask_41 (lv_at hl 0 rfl) ?_
      obtain ⟨z, hf⟩ := oi_some hf
      refine aM8 hc hw z dX10_ask_43 ?_
      refine lv_if_lt (tgt := 54) hx hb dX10_ask_44 (by decide) (fun z => ?_) (fun z => ?_)
      · have hf := it_pos z hf
        refine lv_iload_n hx hb dX10_ask_54 rfl (lv_at hl 5 rfl) ?_
        refine lv_aload_n hx hb dX10_ask_55 rfl (lv_at hl 2 rfl) ?_
        refine gM0_0 hc hw fl_X10_148 dX10_ask_56 ?_
        refine lv_icmp_gt (tgt := 69) hx hb dX10_ask_59 (by decide) (fun z => ?_) (fun z => ?_)
        · have hf := it_pos z hf
          refine lv_iload_n hx hb dX10_ask_69 rfl (lv_at hl 5 rfl) ?_
          refine lv_ldc (v := (999999 : Int32)) hx hb hown (hts _ ct_X10_155) dX10_ask_70 ?_
          refine lv_icmp_le (tgt := 82) hx hb dX10_ask_72 (by decide) (fun z => ?_) (fun z => ?_)
          · have hf := it_pos z hf
            refine lv_aload_n hx hb dX10_ask_82 rfl (lv_at hl 2 rfl) ?_
            refine gM0_10 hc hw fl_X10_39 dX10_ask_83 ?_
            refine lv_iload hx hb dX10_ask_86 (lv_at hl 0 rfl) ?_
            refine lv_iload_n hx hb dX10_ask_88 rfl (lv_at hl 5 rfl) ?_
            obtain ⟨z, hf⟩ := oi_some hf
            refine tM8 hc hw z dX10_ask_89 (fun H locs hw => ?_)
            obtain ⟨u11, eu11, hf⟩ := lt_some hf
            have hw := VW.nm eu11 hw
            refine lv_aload_n hx hb dX10_ask_90 rfl (lv_at hl 2 rfl) ?_
            refine lv_iconst (v := (0 : Int32)) hx hb dX10_ask_91 (by decide) ?_
            refine pM0_40 hc hw fl_X10_156 nz0 fz0 dX10_ask_92 (fun H locs hw => ?_)
            obtain ⟨u12, eu12, hf⟩ := lt_some hf
            have hw := VW.nm eu12 hw
            refine lv_iconst (v := (1 : Int32)) hx hb dX10_ask_95 (by decide) ?_
            exact retI hc hr hlk hw hf dX10_ask_96
          · have hf := it_neg z hf
            refine lv_aload_n hx hb dX10_ask_75 rfl (lv_at hl 2 rfl) ?_
            refine lv_bipush (v := (-6 : Int32)) hx hb dX10_ask_76 (by decide) ?_
            obtain ⟨r15, u14, h13, hf⟩ := ob_some hf
            refine endI okM hw (runV_ok (As := [.int (-6 : Int32)]) (rest := []) okM hc hw (c_X10_refuse l ev (-6 : Int32) u6 h13 H.size) kv_X10_refuse ml_X10_151 (rvM0 ev u6) hl.1 rfl rfl (Nat.le_of_ble_eq_true rfl) (rm_le (by decide) (by decide)) dX10_ask_78) (fun H locs hw => ?_)
            exact retI hc hr hlk hw hf dX10_ask_81
        · have hf := it_neg z hf
          refine lv_aload_n hx hb dX10_ask_62 rfl (lv_at hl 2 rfl) ?_
          refine lv_bipush (v := (-4 : Int32)) hx hb dX10_ask_63 (by decide) ?_
          obtain ⟨r18, u17, h16, hf⟩ := ob_some hf
          refine endI okM hw (runV_ok (As := [.int (-4 : Int32)]) (rest := []) okM hc hw (c_X10_refuse l ev (-4 : Int32) u6 h16 H.size) kv_X10_refuse ml_X10_151 (rvM0 ev u6) hl.1 rfl rfl (Nat.le_of_ble_eq_true rfl) (rm_le (by decide) (by decide)) dX10_ask_65) (fun H locs hw => ?_)
          exact retI hc hr hlk hw hf dX10_ask_68
      · have hf := it_neg z hf
        exact wL47 u6 H locs ls hw (lv_sub hl [2] rfl) hf
  · have hf := it_neg z hf
    refine lv_aload_n hx hb dX10_ask_13 rfl (lv_at hl 1 rfl) ?_
    refine lv_iload hx hb dX10_ask_14 (lv_at hl 0 rfl) ?_
    obtain ⟨r21, u20, h19, hf⟩ := ob_some hf
    refine endI okM hw (runV_ok (As := [.int r3]) (rest := []) okM hc hw (c_X10_refuse l ev r3 u2 h19 H.size) kv_X10_refuse ml_X10_151 (rvM0 ev u2) hl.1 rfl rfl (Nat.le_of_ble_eq_true rfl) (rm_le (by decide) (by decide)) dX10_ask_16) (fun H locs hw => ?_)
    exact retI hc hr hlk hw hf dX10_ask_19
def f_X10_answer (a1 : Int32) (a2 : Int32) (u : SS) : Option (Int32 × SS) :=
  ob (f_X10_fails a1 a2 u) fun r3 u2 => if 0 ≤ r3 then (lt (((8 : Int32) * a2) + a1) fun x4 => oi x4 48 (if 0 ≤ (gA u2 7 x4.toNatClampNeg) then (oi x4 48 (lt (tA u2 7 x4 (-1 : Int32)) fun u5 => some ((1 : Int32), u5))) else (ob (f_X10_refuse (-3 : Int32) u2) fun r8 u7 => some (r8, u7)))) else (ob (f_X10_refuse r3 u2) fun r11 u10 => some (r11, u10))
set_option maxHeartbeats 4000000 in
set_option maxRecDepth 100000 in
theorem c_X10_answer (l : Launch) (ev : EV) (a1 : Int32) (a2 : Int32) (u : SS) {r : Int32} {u' : SS} (hf : f_X10_answer a1 a2 u = some (r, u')) : MI wdM l yX10_answer cX10_answer 5 (some .int) 4 ev [.ref (ev.2.1 0), .int a1, .int a2] u r u' := by
  refine bodyI (by decide +kernel) rfl (Nat.le_of_ble_eq_true rfl) ?_
  intro p e s m below meth cd ls H locs hc hr hlk hw hl
  generalize hav : (List.toArray [.ref (ev.2.1 0), .int a1, .int a2] : Array Value) = av at hc ⊢
  obtain ⟨hx, hb, hml, hown, hts, hK, hZ⟩ := id hc
  have hl : lv_has ls 5 [(0, .ref (ev.2.1 0)), (1, .int a1), (2, .int a2)] := hl
  unfold f_X10_answer at hf
  refine lv_aload_n hx hb dX10_answer_0 rfl (lv_at hl 0 rfl) ?_
  refine lv_iload_n hx hb dX10_answer_1 rfl (lv_at hl 1 rfl) ?_
  refine lv_iload_n hx hb dX10_answer_2 rfl (lv_at hl 2 rfl) ?_
  obtain ⟨r3, u2, h1, hf⟩ := ob_some hf
  refine endI okM hw (runV_ok (As := [.int a1, .int a2]) (rest := []) okM hc hw (c_X10_fails l ev a1 a2 u h1 H.size) kv_X10_fails ml_X10_203 (rvM0 ev u) hl.1 rfl rfl (Nat.le_of_ble_eq_true rfl) (rm_le (by decide) (by decide)) dX10_answer_3) (fun H locs hw => ?_)
  refine lv_istore_n (lv' := [(3, .int r3), (0, .ref (ev.2.1 0)), (1, .int a1), (2, .int a2)]) hx hb dX10_answer_6 rfl hl (by decide) rfl (fun ls hl => ?_)
  refine lv_iload_n hx hb dX10_answer_7 rfl (lv_at hl 0 rfl) ?_
  refine lv_if_ge (tgt := 17) hx hb dX10_answer_8 (by decide) (fun z => ?_) (fun z => ?_)
  · have hf := it_pos z hf
    refine lv_bipush (v := (8 : Int32)) hx hb dX10_answer_17 (by decide) ?_
    refine lv_iload_n hx hb dX10_answer_19 rfl (lv_at hl 3 rfl) ?_
    refine lv_imul hx hb dX10_answer_20 ?_
    refine lv_iload_n hx hb dX10_answer_21 rfl (lv_at hl 2 rfl) ?_
    refine lv_iadd hx hb dX10_answer_22 ?_
    obtain ⟨x4, ex4, hf⟩ := lt_some hf
    refine tope ex4 ?_
    refine lv_istore (lv' := [(4, .int x4), (3, .int r3), (0, .ref (ev.2.1 0)), (1, .int a1), (2, .int a2)]) hx hb dX10_answer_23 hl (by decide) rfl (fun ls hl => ?_)
    refine lv_aload_n hx hb dX10_answer_25 rfl (lv_at hl 2 rfl) ?_
    refine gM0_10 hc hw fl_X10_39 dX10_answer_26 ?_
    refine lv_iload hx hb dX10_answer_29 (lv_at hl 0 rfl) ?_
    obtain ⟨z, hf⟩ := oi_some hf
    refine aM8 hc hw z dX10_answer_31 ?_
    refine lv_if_ge (tgt := 42) hx hb dX10_answer_32 (by decide) (fun z => ?_) (fun z => ?_)
    · have hf := it_pos z hf
      refine lv_aload_n hx hb dX10_answer_42 rfl (lv_at hl 2 rfl) ?_
      refine gM0_10 hc hw fl_X10_39 dX10_answer_43 ?_
      refine lv_iload hx hb dX10_answer_46 (lv_at hl 0 rfl) ?_
      refine lv_iconst (v := (-1 : Int32)) hx hb dX10_answer_48 (by decide) ?_
      obtain ⟨z, hf⟩ := oi_some hf
      refine tM8 hc hw z dX10_answer_49 (fun H locs hw => ?_)
      obtain ⟨u5, eu5, hf⟩ := lt_some hf
      have hw := VW.nm eu5 hw
      refine lv_iconst (v := (1 : Int32)) hx hb dX10_answer_50 (by decide) ?_
      exact retI hc hr hlk hw hf dX10_answer_51
    · have hf := it_neg z hf
      refine lv_aload_n hx hb dX10_answer_35 rfl (lv_at hl 2 rfl) ?_
      refine lv_bipush (v := (-3 : Int32)) hx hb dX10_answer_36 (by decide) ?_
      obtain ⟨r8, u7, h6, hf⟩ := ob_some hf
      refine endI okM hw (runV_ok (As := [.int (-3 : Int32)]) (rest := []) okM hc hw (c_X10_refuse l ev (-3 : Int32) u2 h6 H.size) kv_X10_refuse ml_X10_151 (rvM0 ev u2) hl.1 rfl rfl (Nat.le_of_ble_eq_true rfl) (rm_le (by decide) (by decide)) dX10_answer_38) (fun H locs hw => ?_)
      exact retI hc hr hlk hw hf dX10_answer_41
  · have hf := it_neg z hf
    refine lv_aload_n hx hb dX10_answer_11 rfl (lv_at hl 1 rfl) ?_
    refine lv_iload_n hx hb dX10_answer_12 rfl (lv_at hl 0 rfl) ?_
    obtain ⟨r11, u10, h9, hf⟩ := ob_some hf
    refine endI okM hw (runV_ok (As := [.int r3]) (rest := []) okM hc hw (c_X10_refuse l ev r3 u2 h9 H.size) kv_X10_refuse ml_X10_151 (rvM0 ev u2) hl.1 rfl rfl (Nat.le_of_ble_eq_true rfl) (rm_le (by decide) (by decide)) dX10_answer_13) (fun H locs hw => ?_)
    exact retI hc hr hlk hw hf dX10_answer_16
def f_X10_out_L15 (u : SS) : Option (Int32 × SS) :=
  ob (f_X10_refuse (-1 : Int32) u) fun r6 u5 => some (r6, u5)
def f_X10_out_L85 (b3 : Int32) (b4 : Int32) (b5 : Int32) (q0 : Int32) (q1 : Int32) (u : SS) : Option (Int32 × SS) :=
  oi q1 48 (lt (tA u 7 q1 q0) fun u11 => oi b4 48 (lt (tZ u11 6 b4 b3) fun u12 => lt (sI u12 16 (0 : Int32)) fun u13 => if b5 = b3 then (some ((0 : Int32), u13)) else (some ((1 : Int32), u13))))
def f_X10_out_L78 (b3 : Int32) (b4 : Int32) (b5 : Int32) (q0 : Int32) (u : SS) : Option (Int32 × SS) :=
  oi b4 48 (f_X10_out_L85 b3 b4 b5 (gA u 7 b4.toNatClampNeg) q0 u)
def f_X10_out_L53 (b3 : Int32) (b4 : Int32) (q0 : Int32) (u : SS) : Option (Int32 × SS) :=
  if b3 = 0 then (ob (f_X10_isSilent b4 u) fun r16 u15 => if r16 = 0 then (f_X10_out_L78 b3 b4 q0 b4 u15) else (f_X10_out_L85 b3 b4 q0 (-1 : Int32) b4 u15)) else (f_X10_out_L78 b3 b4 q0 b4 u)
def f_X10_out_L48 (b3 : Int32) (b4 : Int32) (u : SS) : Option (Int32 × SS) :=
  f_X10_out_L53 b3 b4 (1 : Int32) u
def f_X10_out (a1 : Int32) (a2 : Int32) (a3 : Int32) (u : SS) : Option (Int32 × SS) :=
  ob (f_X10_isBidder a1 u) fun r3 u2 => if r3 = 0 then (f_X10_out_L15 u2) else (ob (f_X10_isLot a2 u2) fun r9 u8 => if r9 = 0 then (f_X10_out_L15 u8) else (lt (((8 : Int32) * a2) + a1) fun x10 => oi x10 48 (if (gA u8 6 x10.toNatClampNeg) = 0 then (ob (f_X10_isSilent x10 u8) fun r19 u18 => if r19 = 0 then (f_X10_out_L53 a3 x10 (0 : Int32) u18) else (f_X10_out_L48 a3 x10 u18)) else (f_X10_out_L48 a3 x10 u8))))
set_option maxHeartbeats 4000000 in
set_option maxRecDepth 100000 in
theorem c_X10_out (l : Launch) (ev : EV) (a1 : Int32) (a2 : Int32) (a3 : Int32) (u : SS) {r : Int32} {u' : SS} (hf : f_X10_out a1 a2 a3 u = some (r, u')) : MI wdM l yX10_out cX10_out 6 (some .int) 2 ev [.ref (ev.2.1 0), .int a1, .int a2, .int a3] u r u' := by
  refine bodyI (by decide +kernel) rfl (Nat.le_of_ble_eq_true rfl) ?_
  intro p e s m below meth cd ls H locs hc hr hlk hw hl
  generalize hav : (List.toArray [.ref (ev.2.1 0), .int a1, .int a2, .int a3] : Array Value) = av at hc ⊢
  obtain ⟨hx, hb, hml, hown, hts, hK, hZ⟩ := id hc
  have hl : lv_has ls 6 [(0, .ref (ev.2.1 0)), (1, .int a1), (2, .int a2), (3, .int a3)] := hl
  have wL15 : ∀ (u : SS) (H : Heap) (locs : List Loc) (ls : Array Slot), VW wdM ev s u H locs → lv_has ls 6 [(0, .ref (ev.2.1 0))] → f_X10_out_L15  u = some (r, u') → W p l e (rmk 2) s m av below meth cd H locs 0 0 (ZI wdM ev s below av r u') (F0 m 15 ls []) := by
    intro  u H locs ls hw hl hf
    unfold f_X10_out_L15 at hf
    refine lv_aload_n hx hb dX10_out_15 rfl (lv_at hl 0 rfl) ?_
    refine lv_iconst (v := (-1 : Int32)) hx hb dX10_out_16 (by decide) ?_
    obtain ⟨r6, u5, h4, hf⟩ := ob_some hf
    refine endI okM hw (runV_ok (As := [.int (-1 : Int32)]) (rest := []) okM hc hw (c_X10_refuse l ev (-1 : Int32) u h4 H.size) kv_X10_refuse ml_X10_151 (rvM0 ev u) hl.1 rfl rfl (Nat.le_of_ble_eq_true rfl) (rm_le (by decide) (by decide)) dX10_out_17) (fun H locs hw => ?_)
    exact retI hc hr hlk hw hf dX10_out_20
  have wL85 : ∀ (b3 : Int32) (b4 : Int32) (b5 : Int32) (q0 : Int32) (q1 : Int32) (u : SS) (H : Heap) (locs : List Loc) (ls : Array Slot), VW wdM ev s u H locs → lv_has ls 6 [(0, .ref (ev.2.1 0)), (3, .int b3), (4, .int b4), (5, .int b5)] → f_X10_out_L85 b3 b4 b5 q0 q1 u = some (r, u') → W p l e (rmk 2) s m av below meth cd H locs 0 0 (ZI wdM ev s below av r u') (F0 m 85 ls [.int q0, .int q1, .ref (ev.2.1 8)]) := by
    intro b3 b4 b5 q0 q1 u H locs ls hw hl hf
    unfold f_X10_out_L85 at hf
    obtain ⟨z, hf⟩ := oi_some hf
    refine tM8 hc hw z dX10_out_85 (fun H locs hw => ?_)
    obtain ⟨u11, eu11, hf⟩ := lt_some hf
    have hw := VW.nm eu11 hw
    refine lv_aload_n hx hb dX10_out_86 rfl (lv_at hl 0 rfl) ?_
    refine gM0_9 hc hw fl_X10_36 dX10_out_87 ?_
    refine lv_iload hx hb dX10_out_90 (lv_at hl 2 rfl) ?_
    refine lv_iload_n hx hb dX10_out_92 rfl (lv_at hl 1 rfl) ?_
    obtain ⟨z, hf⟩ := oi_some hf
    refine tM7 hc hw z dX10_out_93 (fun H locs hw => ?_)
    obtain ⟨u12, eu12, hf⟩ := lt_some hf
    have hw := VW.nm eu12 hw
    refine lv_aload_n hx hb dX10_out_94 rfl (lv_at hl 0 rfl) ?_
    refine lv_iconst (v := (0 : Int32)) hx hb dX10_out_95 (by decide) ?_
    refine pM0_40 hc hw fl_X10_156 nz0 fz0 dX10_out_96 (fun H locs hw => ?_)
    obtain ⟨u13, eu13, hf⟩ := lt_some hf
    have hw := VW.nm eu13 hw
    refine lv_iload hx hb dX10_out_99 (lv_at hl 3 rfl) ?_
    refine lv_iload_n hx hb dX10_out_101 rfl (lv_at hl 1 rfl) ?_
    refine lv_icmp_ne (tgt := 109) hx hb dX10_out_102 (by decide) (fun z => ?_) (fun z => ?_)
    · have hf := it_neg z hf
      refine lv_iconst (v := (1 : Int32)) hx hb dX10_out_109 (by decide) ?_
      exact retI hc hr hlk hw hf dX10_out_110
    · have hf := it_pos z hf
      refine lv_iconst (v := (0 : Int32)) hx hb dX10_out_105 (by decide) ?_
      refine lv_goto (tgt := 110) hx hb dX10_out_106 (by decide) ?_
      exact retI hc hr hlk hw hf dX10_out_110
  have wL78 : ∀ (b3 : Int32) (b4 : Int32) (b5 : Int32) (q0 : Int32) (u : SS) (H : Heap) (locs : List Loc) (ls : Array Slot), VW wdM ev s u H locs → lv_has ls 6 [(0, .ref (ev.2.1 0)), (3, .int b3), (4, .int b4), (5, .int b5)] → f_X10_out_L78 b3 b4 b5 q0 u = some (r, u') → W p l e (rmk 2) s m av below meth cd H locs 0 0 (ZI wdM ev s below av r u') (F0 m 78 ls [.int q0, .ref (ev.2.1 8)]) := by
    intro b3 b4 b5 q0 u H locs ls hw hl hf
    unfold f_X10_out_L78 at hf
    refine lv_aload_n hx hb dX10_out_78 rfl (lv_at hl 0 rfl) ?_
    refine gM0_10 hc hw fl_X10_39 dX10_out_79 ?_
    refine lv_iload hx hb dX10_out_82 (lv_at hl 2 rfl) ?_
    obtain ⟨z, hf⟩ := oi_some hf
    refine aM8 hc hw z dX10_out_84 ?_
    exact wL85 b3 b4 b5 (gA u 7 b4.toNatClampNeg) q0 u H locs ls hw (lv_sub hl [0, 1, 2, 3] rfl) hf
  have wL53 : ∀ (b3 : Int32) (b4 : Int32) (q0 : Int32) (u : SS) (H : Heap) (locs : List Loc) (ls : Array Slot), VW wdM ev s u H locs → lv_has ls 6 [(0, .ref (ev.2.1 0)), (3, .int b3), (4, .int b4)] → f_X10_out_L53 b3 b4 q0 u = some (r, u') → W p l e (rmk 2) s m av below meth cd H locs 0 0 (ZI wdM ev s below av r u') (F0 m 53 ls [.int q0]) := by
    intro b3 b4 q0 u H locs ls hw hl hf
    unfold f_X10_out_L53 at hf
    refine lv_istore (lv' := [(5, .int q0), (0, .ref (ev.2.1 0)), (3, .int b3), (4, .int b4)]) hx hb dX10_out_53 hl (by decide) rfl (fun ls hl => ?_)
    refine lv_aload_n hx hb dX10_out_55 rfl (lv_at hl 1 rfl) ?_
    refine gM0_10 hc hw fl_X10_39 dX10_out_56 ?_
    refine lv_iload hx hb dX10_out_59 (lv_at hl 3 rfl) ?_
    refine lv_iload_n hx hb dX10_out_61 rfl (lv_at hl 2 rfl) ?_
    refine lv_if_ne (tgt := 78) hx hb dX10_out_62 (by decide) (fun z => ?_) (fun z => ?_)
    · have hf := it_neg z hf
      exact wL78 b3 b4 q0 b4 u H locs ls hw (lv_sub hl [1, 2, 3, 0] rfl) hf
    · have hf := it_pos z hf
      refine lv_aload_n hx hb dX10_out_65 rfl (lv_at hl 1 rfl) ?_
      refine lv_iload hx hb dX10_out_66 (lv_at hl 3 rfl) ?_
      obtain ⟨r16, u15, h14, hf⟩ := ob_some hf
      refine endI okM hw (runV_ok (As := [.int b4]) (rest := [.int b4, .ref (ev.2.1 8)]) okM hc hw (c_X10_isSilent l ev b4 u h14 H.size) kv_X10_isSilent ml_X10_194 (rvM0 ev u) hl.1 rfl rfl (Nat.le_of_ble_eq_true rfl) (rm_le (by decide) (by decide)) dX10_out_68) (fun H locs hw => ?_)
      refine lv_if_eq (tgt := 78) hx hb dX10_out_71 (by decide) (fun z => ?_) (fun z => ?_)
      · have hf := it_pos z hf
        exact wL78 b3 b4 q0 b4 u15 H locs ls hw (lv_sub hl [1, 2, 3, 0] rfl) hf
      · have hf := it_neg z hf
        refine lv_iconst (v := (-1 : Int32)) hx hb dX10_out_74 (by decide) ?_
        refine lv_goto (tgt := 85) hx hb dX10_out_75 (by decide) ?_
        exact wL85 b3 b4 q0 (-1 : Int32) b4 u15 H locs ls hw (lv_sub hl [1, 2, 3, 0] rfl) hf
  have wL48 : ∀ (b3 : Int32) (b4 : Int32) (u : SS) (H : Heap) (locs : List Loc) (ls : Array Slot), VW wdM ev s u H locs → lv_has ls 6 [(0, .ref (ev.2.1 0)), (3, .int b3), (4, .int b4)] → f_X10_out_L48 b3 b4 u = some (r, u') → W p l e (rmk 2) s m av below meth cd H locs 0 0 (ZI wdM ev s below av r u') (F0 m 48 ls []) := by
    intro b3 b4 u H locs ls hw hl hf
    unfold f_X10_out_L48 at hf
    refine lv_iconst (v := (1 : Int32)) hx hb dX10_out_48 (by decide) ?_
    refine lv_goto (tgt := 53) hx hb dX10_out_49 (by decide) ?_
    exact wL53 b3 b4 (1 : Int32) u H locs ls hw (lv_sub hl [0, 1, 2] rfl) hf
  unfold f_X10_out at hf
  refine lv_iload_n hx hb dX10_out_0 rfl (lv_at hl 1 rfl) ?_
  obtain ⟨r3, u2, h1, hf⟩ := ob_some hf
  refine endI okM hw (runS_ok (As := [.int a1]) (rest := []) okM hc hw (c_X10_isBidder l ev a1 u h1 H.size) ks_X10_isBidder ml_X10_166 hl.1 rfl rfl (Nat.le_of_ble_eq_true rfl) (rm_le (by decide) (by decide)) dX10_out_1) (fun H locs hw => ?_)
  refine lv_if_eq (tgt := 15) hx hb dX10_out_4 (by decide) (fun z => ?_) (fun z => ?_)
  · have hf := it_pos z hf
    exact wL15 u2 H locs ls hw (lv_sub hl [0] rfl) hf
  · have hf := it_neg z hf
    refine lv_aload_n hx hb dX10_out_7 rfl (lv_at hl 0 rfl) ?_
    refine lv_iload_n hx hb dX10_out_8 rfl (lv_at hl 2 rfl) ?_
    obtain ⟨r9, u8, h7, hf⟩ := ob_some hf
    refine endI okM hw (runV_ok (As := [.int a2]) (rest := []) okM hc hw (c_X10_isLot l ev a2 u2 h7 H.size) kv_X10_isLot ml_X10_170 (rvM0 ev u2) hl.1 rfl rfl (Nat.le_of_ble_eq_true rfl) (rm_le (by decide) (by decide)) dX10_out_9) (fun H locs hw => ?_)
    refine lv_if_ne (tgt := 21) hx hb dX10_out_12 (by decide) (fun z => ?_) (fun z => ?_)
    · have hf := it_neg z hf
      refine lv_bipush (v := (8 : Int32)) hx hb dX10_out_21 (by decide) ?_
      refine lv_iload_n hx hb dX10_out_23 rfl (lv_at hl 2 rfl) ?_
      refine lv_imul hx hb dX10_out_24 ?_
      refine lv_iload_n hx hb dX10_out_25 rfl (lv_at hl 1 rfl) ?_
      refine lv_iadd hx hb dX10_out_26 ?_
      obtain ⟨x10, ex10, hf⟩ := lt_some hf
      refine tope ex10 ?_
      refine lv_istore (lv' := [(4, .int x10), (0, .ref (ev.2.1 0)), (1, .int a1), (2, .int a2), (3, .int a3)]) hx hb dX10_out_27 hl (by decide) rfl (fun ls hl => ?_)
      refine lv_aload_n hx hb dX10_out_29 rfl (lv_at hl 1 rfl) ?_
      refine gM0_9 hc hw fl_X10_36 dX10_out_30 ?_
      refine lv_iload hx hb dX10_out_33 (lv_at hl 0 rfl) ?_
      obtain ⟨z, hf⟩ := oi_some hf
      refine aM7 hc hw z dX10_out_35 ?_
      refine lv_if_ne (tgt := 48) hx hb dX10_out_36 (by decide) (fun z => ?_) (fun z => ?_)
      · have hf := it_neg z hf
        exact wL48 a3 x10 u8 H locs ls hw (lv_sub hl [1, 4, 0] rfl) hf
      · have hf := it_pos z hf
        refine lv_aload_n hx hb dX10_out_39 rfl (lv_at hl 1 rfl) ?_
        refine lv_iload hx hb dX10_out_40 (lv_at hl 0 rfl) ?_
        obtain ⟨r19, u18, h17, hf⟩ := ob_some hf
        refine endI okM hw (runV_ok (As := [.int x10]) (rest := []) okM hc hw (c_X10_isSilent l ev x10 u8 h17 H.size) kv_X10_isSilent ml_X10_194 (rvM0 ev u8) hl.1 rfl rfl (Nat.le_of_ble_eq_true rfl) (rm_le (by decide) (by decide)) dX10_out_42) (fun H locs hw => ?_)
        refine lv_if_eq (tgt := 52) hx hb dX10_out_45 (by decide) (fun z => ?_) (fun z => ?_)
        · have hf := it_pos z hf
          refine lv_iconst (v := (0 : Int32)) hx hb dX10_out_52 (by decide) ?_
          exact wL53 a3 x10 (0 : Int32) u18 H locs ls hw (lv_sub hl [1, 4, 0] rfl) hf
        · have hf := it_neg z hf
          exact wL48 a3 x10 u18 H locs ls hw (lv_sub hl [1, 4, 0] rfl) hf
    · have hf := it_pos z hf
      exact wL15 u8 H locs ls hw (lv_sub hl [0] rfl) hf
def f_X10_most (a1 : Int32) (a2 : Int32) (u : SS) : Option (Int32 × SS) :=
  ob (f_X10_isBidder a1 u) fun r3 u2 => if r3 = 0 then (ob (f_X10_refuse (-1 : Int32) u2) fun r15 u14 => some (r15, u14)) else (if 0 ≤ a2 then (if a2 ≤ (6 : Int32) then (oi a1 8 (lt (gA u2 16 a1.toNatClampNeg) fun x4 => oi a1 8 (lt (tA u2 16 a1 a2) fun u5 => lt (sI u5 16 (0 : Int32)) fun u6 => some (x4, u6)))) else (ob (f_X10_refuse (-6 : Int32) u2) fun r9 u8 => some (r9, u8))) else (ob (f_X10_refuse (-4 : Int32) u2) fun r12 u11 => some (r12, u11)))
set_option maxHeartbeats 4000000 in
set_option maxRecDepth 100000 in
theorem c_X10_most (l : Launch) (ev : EV) (a1 : Int32) (a2 : Int32) (u : SS) {r : Int32} {u' : SS} (hf : f_X10_most a1 a2 u = some (r, u')) : MI wdM l yX10_most cX10_most 4 (some .int) 2 ev [.ref (ev.2.1 0), .int a1, .int a2] u r u' := by
  refine bodyI (by decide +kernel) rfl (Nat.le_of_ble_eq_true rfl) ?_
  intro p e s m below meth cd ls H locs hc hr hlk hw hl
  generalize hav : (List.toArray [.ref (ev.2.1 0), .int a1, .int a2] : Array Value) = av at hc ⊢
  obtain ⟨hx, hb, hml, hown, hts, hK, hZ⟩ := id hc
  have hl : lv_has ls 4 [(0, .ref (ev.2.1 0)), (1, .int a1), (2, .int a2)] := hl
  unfold f_X10_most at hf
  refine lv_iload_n hx hb dX10_most_0 rfl (lv_at hl 1 rfl) ?_
  obtain ⟨r3, u2, h1, hf⟩ := ob_some hf
  refine endI okM hw (runS_ok (As := [.int a1]) (rest := []) okM hc hw (c_X10_isBidder l ev a1 u h1 H.size) ks_X10_isBidder ml_X10_166 hl.1 rfl rfl (Nat.le_of_ble_eq_true rfl) (rm_le (by decide) (by decide)) dX10_most_1) (fun H locs hw => ?_)
  refine lv_if_ne (tgt := 13) hx hb dX10_most_4 (by decide) (fun z => ?_) (fun z => ?_)
  · have hf := it_neg z hf
    refine lv_iload_n hx hb dX10_most_13 rfl (lv_at hl 2 rfl) ?_
    refine lv_if_ge (tgt := 24) hx hb dX10_most_14 (by decide) (fun z => ?_) (fun z => ?_)
    · have hf := it_pos z hf
      refine lv_iload_n hx hb dX10_most_24 rfl (lv_at hl 2 rfl) ?_
      refine lv_bipush (v := (6 : Int32)) hx hb dX10_most_25 (by decide) ?_
      refine lv_icmp_le (tgt := 37) hx hb dX10_most_27 (by decide) (fun z => ?_) (fun z => ?_)
      · have hf := it_pos z hf
        refine lv_aload_n hx hb dX10_most_37 rfl (lv_at hl 0 rfl) ?_
        refine gM0_38 hc hw fl_X10_79 dX10_most_38 ?_
        refine lv_iload_n hx hb dX10_most_41 rfl (lv_at hl 1 rfl) ?_
        obtain ⟨z, hf⟩ := oi_some hf
        refine aM21 hc hw z dX10_most_42 ?_
        obtain ⟨x4, ex4, hf⟩ := lt_some hf
        refine tope ex4 ?_
        refine lv_istore_n (lv' := [(3, .int x4), (0, .ref (ev.2.1 0)), (1, .int a1), (2, .int a2)]) hx hb dX10_most_43 rfl hl (by decide) rfl (fun ls hl => ?_)
        refine lv_aload_n hx hb dX10_most_44 rfl (lv_at hl 1 rfl) ?_
        refine gM0_38 hc hw fl_X10_79 dX10_most_45 ?_
        refine lv_iload_n hx hb dX10_most_48 rfl (lv_at hl 2 rfl) ?_
        refine lv_iload_n hx hb dX10_most_49 rfl (lv_at hl 3 rfl) ?_
        obtain ⟨z, hf⟩ := oi_some hf
        refine tM21 hc hw z dX10_most_50 (fun H locs hw => ?_)
        obtain ⟨u5, eu5, hf⟩ := lt_some hf
        have hw := VW.nm eu5 hw
        refine lv_aload_n hx hb dX10_most_51 rfl (lv_at hl 1 rfl) ?_
        refine lv_iconst (v := (0 : Int32)) hx hb dX10_most_52 (by decide) ?_
        refine pM0_40 hc hw fl_X10_156 nz0 fz0 dX10_most_53 (fun H locs hw => ?_)
        obtain ⟨u6, eu6, hf⟩ := lt_some hf
        have hw := VW.nm eu6 hw
        refine lv_iload_n hx hb dX10_most_56 rfl (lv_at hl 0 rfl) ?_
        exact retI hc hr hlk hw hf dX10_most_57
      · have hf := it_neg z hf
        refine lv_aload_n hx hb dX10_most_30 rfl (lv_at hl 0 rfl) ?_
        refine lv_bipush (v := (-6 : Int32)) hx hb dX10_most_31 (by decide) ?_
        obtain ⟨r9, u8, h7, hf⟩ := ob_some hf
        refine endI okM hw (runV_ok (As := [.int (-6 : Int32)]) (rest := []) okM hc hw (c_X10_refuse l ev (-6 : Int32) u2 h7 H.size) kv_X10_refuse ml_X10_151 (rvM0 ev u2) hl.1 rfl rfl (Nat.le_of_ble_eq_true rfl) (rm_le (by decide) (by decide)) dX10_most_33) (fun H locs hw => ?_)
        exact retI hc hr hlk hw hf dX10_most_36
    · have hf := it_neg z hf
      refine lv_aload_n hx hb dX10_most_17 rfl (lv_at hl 0 rfl) ?_
      refine lv_bipush (v := (-4 : Int32)) hx hb dX10_most_18 (by decide) ?_
      obtain ⟨r12, u11, h10, hf⟩ := ob_some hf
      refine endI okM hw (runV_ok (As := [.int (-4 : Int32)]) (rest := []) okM hc hw (c_X10_refuse l ev (-4 : Int32) u2 h10 H.size) kv_X10_refuse ml_X10_151 (rvM0 ev u2) hl.1 rfl rfl (Nat.le_of_ble_eq_true rfl) (rm_le (by decide) (by decide)) dX10_most_20) (fun H locs hw => ?_)
      exact retI hc hr hlk hw hf dX10_most_23
  · have hf := it_pos z hf
    refine lv_aload_n hx hb dX10_most_7 rfl (lv_at hl 0 rfl) ?_
    refine lv_iconst (v := (-1 : Int32)) hx hb dX10_most_8 (by decide) ?_
    obtain ⟨r15, u14, h13, hf⟩ := ob_some hf
    refine endI okM hw (runV_ok (As := [.int (-1 : Int32)]) (rest := []) okM hc hw (c_X10_refuse l ev (-1 : Int32) u2 h13 H.size) kv_X10_refuse ml_X10_151 (rvM0 ev u2) hl.1 rfl rfl (Nat.le_of_ble_eq_true rfl) (rm_le (by decide) (by decide)) dX10_most_9) (fun H locs hw => ?_)
    exact retI hc hr hlk hw hf dX10_most_12
