def f_X10_undo_L135 (k47 : Int32 → Int32 → Int32 → SS → Option SS) (b1 : Int32) (b2 : Int32) (b3 : Int32) (u : SS) : Option SS :=
  lt (b3 + (1 : Int32)) fun x5 => k47 b1 b2 x5 u
def f_X10_undo_L134 (k47 : Int32 → Int32 → Int32 → SS → Option SS) (b1 : Int32) (b2 : Int32) (b3 : Int32) (q0 : Int32) (q1 : Int32) (u : SS) : Option SS :=
  oi q1 48 (lt (tA u 7 q1 q0) fun u10 => f_X10_undo_L135 k47 b1 b2 b3 u10)
def b_X10_undo_L68 (k47 : Int32 → Int32 → Int32 → SS → Option SS) (k68 : Int32 → Int32 → Int32 → Int32 → Int32 → SS → Option SS) (b1 : Int32) (b2 : Int32) (b3 : Int32) (b4 : Int32) (b5 : Int32) (u : SS) : Option SS :=
  if (6 : Int32) ≤ b5 then (if b2 = (2 : Int32) then (oi b4 48 (lt (tZ u 6 b4 (0 : Int32)) fun u6 => ob (f_X10_isSilent b4 u6) fun r9 u8 => if r9 = 0 then (oi b4 48 (f_X10_undo_L134 k47 b1 b2 b3 (gA u8 7 b4.toNatClampNeg) b4 u8)) else (f_X10_undo_L134 k47 b1 b2 b3 (-1 : Int32) b4 u8))) else (f_X10_undo_L135 k47 b1 b2 b3 u)) else (oi (((48 : Int32) * b5) + b4) 288 (lt (tA u 9 (((48 : Int32) * b5) + b4) (-1 : Int32)) fun u11 => lt (b5 + (1 : Int32)) fun x12 => k68 b1 b2 b3 b4 x12 u11))
def f_X10_undo_L68 (k47 : Int32 → Int32 → Int32 → SS → Option SS) : Nat → Int32 → Int32 → Int32 → Int32 → Int32 → SS → Option SS
  | 0 => fun _ _ _ _ _ _ => none
  | n + 1 => b_X10_undo_L68 k47 (f_X10_undo_L68 k47 n)
def b_X10_undo_L47 (k47 : Int32 → Int32 → Int32 → SS → Option SS) (b1 : Int32) (b2 : Int32) (b3 : Int32) (u : SS) : Option SS :=
  if (8 : Int32) ≤ b3 then (lt (sI u 16 (0 : Int32)) fun u2 => some u2) else (if b2 ≤ 0 then (lt (sI u 16 (0 : Int32)) fun u3 => some u3) else (lt (((8 : Int32) * b1) + b3) fun x4 => f_X10_undo_L68 k47 FU b1 b2 b3 x4 (0 : Int32) u))
def f_X10_undo_L47 : Nat → Int32 → Int32 → Int32 → SS → Option SS
  | 0 => fun _ _ _ _ => none
  | n + 1 => b_X10_undo_L47 (f_X10_undo_L47 n)
def f_X10_undo_L45 (b1 : Int32) (b2 : Int32) (u : SS) : Option SS :=
  f_X10_undo_L47 FU b1 b2 (0 : Int32) u
def b_X10_undo_L7 (k7 : Int32 → Int32 → Int32 → SS → Option SS) (b1 : Int32) (b2 : Int32) (b3 : Int32) (u : SS) : Option SS :=
  if (gI u 25) ≤ b3 then (if b2 = 0 then (oi (0 : Int32) 80 (lt (tA u 13 (0 : Int32) (113 : Int32)) fun u13 => lt (sI u13 7 (1 : Int32)) fun u14 => f_X10_undo_L45 b1 b2 u14)) else (f_X10_undo_L45 b1 b2 u)) else (oi b3 20 (lt (tZ u 29 b3 (0 : Int32)) fun u15 => lt (b3 + (1 : Int32)) fun x16 => k7 b1 b2 x16 u15))
def f_X10_undo_L7 : Nat → Int32 → Int32 → Int32 → SS → Option SS
  | 0 => fun _ _ _ _ => none
  | n + 1 => b_X10_undo_L7 (f_X10_undo_L7 n)
def f_X10_undo (a1 : Int32) (a2 : Int32) (u : SS) : Option SS :=
  lt (sI u 22 (0 : Int32)) fun u1 => f_X10_undo_L7 FU a1 a2 (0 : Int32) u1
set_option maxHeartbeats 4000000 in
set_option maxRecDepth 100000 in
theorem c_X10_undo (l : Launch) (ev : EV) (a1 : Int32) (a2 : Int32) (u : SS) {u' : SS} (hf : f_X10_undo a1 a2 u = some u') : MV wdM l yX10_undo cX10_undo 6 none 1 ev [.ref (ev.2.1 0), .int a1, .int a2] u u' := by
  refine bodyV (by decide +kernel) rfl (Nat.le_of_ble_eq_true rfl) ?_
  intro p e s m below meth cd ls H locs hc hr hlk hw hl
  generalize hav : (List.toArray [.ref (ev.2.1 0), .int a1, .int a2] : Array Value) = av at hc ⊢
  obtain ⟨hx, hb, hml, hown, hts, hK, hZ⟩ := id hc
  have hl : lv_has ls 6 [(0, .ref (ev.2.1 0)), (1, .int a1), (2, .int a2)] := hl
  have wL135 : ∀ (k47 : Int32 → Int32 → Int32 → SS → Option SS) (hk47 : ∀ (b1 : Int32) (b2 : Int32) (b3 : Int32) (u : SS) (H : Heap) (locs : List Loc) (ls : Array Slot), VW wdM ev s u H locs → lv_has ls 6 [(0, .ref (ev.2.1 0)), (1, .int b1), (2, .int b2), (3, .int b3)] → k47 b1 b2 b3 u = some u' → W p l e (rmk 1) s m av below meth cd H locs 0 0 (ZV wdM ev s below av u') (F0 m 47 ls [])) (b1 : Int32) (b2 : Int32) (b3 : Int32) (u : SS) (H : Heap) (locs : List Loc) (ls : Array Slot), VW wdM ev s u H locs → lv_has ls 6 [(0, .ref (ev.2.1 0)), (1, .int b1), (2, .int b2), (3, .int b3)] → f_X10_undo_L135 k47 b1 b2 b3 u = some u' → W p l e (rmk 1) s m av below meth cd H locs 0 0 (ZV wdM ev s below av u') (F0 m 135 ls []) := by
    intro k47 hk47 b1 b2 b3 u H locs ls hw hl hf
    unfold f_X10_undo_L135 at hf
    obtain ⟨x5, ex5, hf⟩ := lt_some hf
    refine lv_iinc (v := x5) (lv' := [(3, .int x5), (0, .ref (ev.2.1 0)), (1, .int b1), (2, .int b2)]) hx hb dX10_undo_135 hl (k := 3) rfl (by rw [ex5]; rfl) (by decide) rfl (fun ls hl => ?_)
    refine lv_goto (tgt := 47) hx hb dX10_undo_138 (by decide) ?_
    exact hk47 b1 b2 x5 u H locs ls hw (lv_sub hl [1, 2, 3, 0] rfl) hf
  have wL134 : ∀ (k47 : Int32 → Int32 → Int32 → SS → Option SS) (hk47 : ∀ (b1 : Int32) (b2 : Int32) (b3 : Int32) (u : SS) (H : Heap) (locs : List Loc) (ls : Array Slot), VW wdM ev s u H locs → lv_has ls 6 [(0, .ref (ev.2.1 0)), (1, .int b1), (2, .int b2), (3, .int b3)] → k47 b1 b2 b3 u = some u' → W p l e (rmk 1) s m av below meth cd H locs 0 0 (ZV wdM ev s below av u') (F0 m 47 ls [])) (b1 : Int32) (b2 : Int32) (b3 : Int32) (q0 : Int32) (q1 : Int32) (u : SS) (H : Heap) (locs : List Loc) (ls : Array Slot), VW wdM ev s u H locs → lv_has ls 6 [(0, .ref (ev.2.1 0)), (1, .int b1), (2, .int b2), (3, .int b3)] → f_X10_undo_L134 k47 b1 b2 b3 q0 q1 u = some u' → W p l e (rmk 1) s m av below meth cd H locs 0 0 (ZV wdM ev s below av u') (F0 m 134 ls [.int q0, .int q1, .ref (ev.2.1 8)]) := by
    intro k47 hk47 b1 b2 b3 q0 q1 u H locs ls hw hl hf
    unfold f_X10_undo_L134 at hf
    obtain ⟨z, hf⟩ := oi_some hf
    refine tM8 hc hw z dX10_undo_134 (fun H locs hw => ?_)
    obtain ⟨u10, eu10, hf⟩ := lt_some hf
    have hw := VW.nm eu10 hw
    exact wL135 k47 hk47 b1 b2 b3 u10 H locs ls hw (lv_sub hl [0, 1, 2, 3] rfl) hf
  have wL68 : ∀ (k47 : Int32 → Int32 → Int32 → SS → Option SS) (hk47 : ∀ (b1 : Int32) (b2 : Int32) (b3 : Int32) (u : SS) (H : Heap) (locs : List Loc) (ls : Array Slot), VW wdM ev s u H locs → lv_has ls 6 [(0, .ref (ev.2.1 0)), (1, .int b1), (2, .int b2), (3, .int b3)] → k47 b1 b2 b3 u = some u' → W p l e (rmk 1) s m av below meth cd H locs 0 0 (ZV wdM ev s below av u') (F0 m 47 ls [])) (n : Nat) (b1 : Int32) (b2 : Int32) (b3 : Int32) (b4 : Int32) (b5 : Int32) (u : SS) (H : Heap) (locs : List Loc) (ls : Array Slot), VW wdM ev s u H locs → lv_has ls 6 [(0, .ref (ev.2.1 0)), (1, .int b1), (2, .int b2), (3, .int b3), (4, .int b4), (5, .int b5)] → f_X10_undo_L68 k47 n b1 b2 b3 b4 b5 u = some u' → W p l e (rmk 1) s m av below meth cd H locs 0 0 (ZV wdM ev s below av u') (F0 m 68 ls []) := by
    intro k47 hk47 n
    induction n with
    | zero =>
      intro b1 b2 b3 b4 b5 u H locs ls hw hl hf
      cases hf
    | succ n hk68 =>
      intro b1 b2 b3 b4 b5 u H locs ls hw hl hf
      have hf : b_X10_undo_L68 k47 (f_X10_undo_L68 k47 n) b1 b2 b3 b4 b5 u = some u' := hf
      unfold b_X10_undo_L68 at hf
      refine lv_iload hx hb dX10_undo_68 (lv_at hl 5 rfl) ?_
      refine lv_bipush (v := (6 : Int32)) hx hb dX10_undo_70 (by decide) ?_
      refine lv_icmp_ge (tgt := 95) hx hb dX10_undo_72 (by decide) (fun z => ?_) (fun z => ?_)
      · have hf := it_pos z hf
        refine lv_iload_n hx hb dX10_undo_95 rfl (lv_at hl 2 rfl) ?_
        refine lv_iconst (v := (2 : Int32)) hx hb dX10_undo_96 (by decide) ?_
        refine lv_icmp_ne (tgt := 135) hx hb dX10_undo_97 (by decide) (fun z => ?_) (fun z => ?_)
        · have hf := it_neg z hf
          exact wL135 k47 hk47 b1 b2 b3 u H locs ls hw (lv_sub hl [0, 1, 2, 3] rfl) hf
        · have hf := it_pos z hf
          refine lv_aload_n hx hb dX10_undo_100 rfl (lv_at hl 0 rfl) ?_
          refine gM0_9 hc hw fl_X10_36 dX10_undo_101 ?_
          refine lv_iload hx hb dX10_undo_104 (lv_at hl 4 rfl) ?_
          refine lv_iconst (v := (0 : Int32)) hx hb dX10_undo_106 (by decide) ?_
          obtain ⟨z, hf⟩ := oi_some hf
          refine tM7 hc hw z dX10_undo_107 (fun H locs hw => ?_)
          obtain ⟨u6, eu6, hf⟩ := lt_some hf
          have hw := VW.nm eu6 hw
          refine lv_aload_n hx hb dX10_undo_108 rfl (lv_at hl 0 rfl) ?_
          refine gM0_10 hc hw fl_X10_39 dX10_undo_109 ?_
          refine lv_iload hx hb dX10_undo_112 (lv_at hl 4 rfl) ?_
          refine lv_aload_n hx hb dX10_undo_114 rfl (lv_at hl 0 rfl) ?_
          refine lv_iload hx hb dX10_undo_115 (lv_at hl 4 rfl) ?_
          obtain ⟨r9, u8, h7, hf⟩ := ob_some hf
          refine endI okM hw (runV_ok (As := [.int b4]) (rest := [.int b4, .ref (ev.2.1 8)]) okM hc hw (c_X10_isSilent l ev b4 u6 h7 H.size) kv_X10_isSilent ml_X10_194 (rvM0 ev u6) hl.1 rfl rfl (Nat.le_of_ble_eq_true rfl) (rm_le (by decide) (by decide)) dX10_undo_117) (fun H locs hw => ?_)
          refine lv_if_eq (tgt := 127) hx hb dX10_undo_120 (by decide) (fun z => ?_) (fun z => ?_)
          · have hf := it_pos z hf
            refine lv_aload_n hx hb dX10_undo_127 rfl (lv_at hl 0 rfl) ?_
            refine gM0_10 hc hw fl_X10_39 dX10_undo_128 ?_
            refine lv_iload hx hb dX10_undo_131 (lv_at hl 4 rfl) ?_
            obtain ⟨z, hf⟩ := oi_some hf
            refine aM8 hc hw z dX10_undo_133 ?_
            exact wL134 k47 hk47 b1 b2 b3 (gA u8 7 b4.toNatClampNeg) b4 u8 H locs ls hw (lv_sub hl [0, 1, 2, 3] rfl) hf
          · have hf := it_neg z hf
            refine lv_iconst (v := (-1 : Int32)) hx hb dX10_undo_123 (by decide) ?_
            refine lv_goto (tgt := 134) hx hb dX10_undo_124 (by decide) ?_
            exact wL134 k47 hk47 b1 b2 b3 (-1 : Int32) b4 u8 H locs ls hw (lv_sub hl [0, 1, 2, 3] rfl) hf
      · have hf := it_neg z hf
        refine lv_aload_n hx hb dX10_undo_75 rfl (lv_at hl 0 rfl) ?_
        refine gM0_12 hc hw fl_X10_45 dX10_undo_76 ?_
        refine lv_bipush (v := (48 : Int32)) hx hb dX10_undo_79 (by decide) ?_
        refine lv_iload hx hb dX10_undo_81 (lv_at hl 5 rfl) ?_
        refine lv_imul hx hb dX10_undo_83 ?_
        refine lv_iload hx hb dX10_undo_84 (lv_at hl 4 rfl) ?_
        refine lv_iadd hx hb dX10_undo_86 ?_
        refine lv_iconst (v := (-1 : Int32)) hx hb dX10_undo_87 (by decide) ?_
        obtain ⟨z, hf⟩ := oi_some hf
        refine tM10 hc hw z dX10_undo_88 (fun H locs hw => ?_)
        obtain ⟨u11, eu11, hf⟩ := lt_some hf
        have hw := VW.nm eu11 hw
        obtain ⟨x12, ex12, hf⟩ := lt_some hf
        refine lv_iinc (v := x12) (lv' := [(5, .int x12), (0, .ref (ev.2.1 0)), (1, .int b1), (2, .int b2), (3, .int b3), (4, .int b4)]) hx hb dX10_undo_89 hl (k := 5) rfl (by rw [ex12]; rfl) (by decide) rfl (fun ls hl => ?_)
        refine lv_goto (tgt := 68) hx hb dX10_undo_92 (by decide) ?_
        exact hk68 b1 b2 b3 b4 x12 u11 H locs ls hw (lv_sub hl [1, 2, 3, 4, 5, 0] rfl) hf
  have wL47 : ∀ (n : Nat) (b1 : Int32) (b2 : Int32) (b3 : Int32) (u : SS) (H : Heap) (locs : List Loc) (ls : Array Slot), VW wdM ev s u H locs → lv_has ls 6 [(0, .ref (ev.2.1 0)), (1, .int b1), (2, .int b2), (3, .int b3)] → f_X10_undo_L47 n b1 b2 b3 u = some u' → W p l e (rmk 1) s m av below meth cd H locs 0 0 (ZV wdM ev s below av u') (F0 m 47 ls []) := by
    intro n
    induction n with
    | zero =>
      intro b1 b2 b3 u H locs ls hw hl hf
      cases hf
    | succ n hk47 =>
      intro b1 b2 b3 u H locs ls hw hl hf
      have hf : b_X10_undo_L47 (f_X10_undo_L47 n) b1 b2 b3 u = some u' := hf
      unfold b_X10_undo_L47 at hf
      refine lv_iload_n hx hb dX10_undo_47 rfl (lv_at hl 3 rfl) ?_
      refine lv_bipush (v := (8 : Int32)) hx hb dX10_undo_48 (by decide) ?_
      refine lv_icmp_ge (tgt := 141) hx hb dX10_undo_50 (by decide) (fun z => ?_) (fun z => ?_)
      · have hf := it_pos z hf
        refine lv_aload_n hx hb dX10_undo_141 rfl (lv_at hl 0 rfl) ?_
        refine lv_iconst (v := (0 : Int32)) hx hb dX10_undo_142 (by decide) ?_
        refine pM0_40 hc hw fl_X10_156 nz0 fz0 dX10_undo_143 (fun H locs hw => ?_)
        obtain ⟨u2, eu2, hf⟩ := lt_some hf
        have hw := VW.nm eu2 hw
        exact retV hc hr hlk hw hf dX10_undo_146
      · have hf := it_neg z hf
        refine lv_iload_n hx hb dX10_undo_53 rfl (lv_at hl 2 rfl) ?_
        refine lv_if_le (tgt := 141) hx hb dX10_undo_54 (by decide) (fun z => ?_) (fun z => ?_)
        · have hf := it_pos z hf
          refine lv_aload_n hx hb dX10_undo_141 rfl (lv_at hl 0 rfl) ?_
          refine lv_iconst (v := (0 : Int32)) hx hb dX10_undo_142 (by decide) ?_
          refine pM0_40 hc hw fl_X10_156 nz0 fz0 dX10_undo_143 (fun H locs hw => ?_)
          obtain ⟨u3, eu3, hf⟩ := lt_some hf
          have hw := VW.nm eu3 hw
          exact retV hc hr hlk hw hf dX10_undo_146
        · have hf := it_neg z hf
          refine lv_bipush (v := (8 : Int32)) hx hb dX10_undo_57 (by decide) ?_
          refine lv_iload_n hx hb dX10_undo_59 rfl (lv_at hl 1 rfl) ?_
          refine lv_imul hx hb dX10_undo_60 ?_
          refine lv_iload_n hx hb dX10_undo_61 rfl (lv_at hl 3 rfl) ?_
          refine lv_iadd hx hb dX10_undo_62 ?_
          obtain ⟨x4, ex4, hf⟩ := lt_some hf
          refine tope ex4 ?_
          refine lv_istore (lv' := [(4, .int x4), (0, .ref (ev.2.1 0)), (1, .int b1), (2, .int b2), (3, .int b3)]) hx hb dX10_undo_63 hl (by decide) rfl (fun ls hl => ?_)
          refine lv_iconst (v := (0 : Int32)) hx hb dX10_undo_65 (by decide) ?_
          refine lv_istore (lv' := [(5, .int (0 : Int32)), (4, .int x4), (0, .ref (ev.2.1 0)), (1, .int b1), (2, .int b2), (3, .int b3)]) hx hb dX10_undo_66 hl (by decide) rfl (fun ls hl => ?_)
          exact wL68 (f_X10_undo_L47 n) hk47 FU b1 b2 b3 x4 (0 : Int32) u H locs ls hw (lv_sub hl [2, 3, 4, 5, 1, 0] rfl) hf
  have wL45 : ∀ (b1 : Int32) (b2 : Int32) (u : SS) (H : Heap) (locs : List Loc) (ls : Array Slot), VW wdM ev s u H locs → lv_has ls 6 [(0, .ref (ev.2.1 0)), (1, .int b1), (2, .int b2)] → f_X10_undo_L45 b1 b2 u = some u' → W p l e (rmk 1) s m av below meth cd H locs 0 0 (ZV wdM ev s below av u') (F0 m 45 ls []) := by
    intro b1 b2 u H locs ls hw hl hf
    unfold f_X10_undo_L45 at hf
    refine lv_iconst (v := (0 : Int32)) hx hb dX10_undo_45 (by decide) ?_
    refine lv_istore_n (lv' := [(3, .int (0 : Int32)), (0, .ref (ev.2.1 0)), (1, .int b1), (2, .int b2)]) hx hb dX10_undo_46 rfl hl (by decide) rfl (fun ls hl => ?_)
    exact wL47 FU b1 b2 (0 : Int32) u H locs ls hw (lv_sub hl [1, 2, 3, 0] rfl) hf
  have wL7 : ∀ (n : Nat) (b1 : Int32) (b2 : Int32) (b3 : Int32) (u : SS) (H : Heap) (locs : List Loc) (ls : Array Slot), VW wdM ev s u H locs → lv_has ls 6 [(0, .ref (ev.2.1 0)), (1, .int b1), (2, .int b2), (3, .int b3)] → f_X10_undo_L7 n b1 b2 b3 u = some u' → W p l e (rmk 1) s m av below meth cd H locs 0 0 (ZV wdM ev s below av u') (F0 m 7 ls []) := by
    intro n
    induction n with
    | zero =>
      intro b1 b2 b3 u H locs ls hw hl hf
      cases hf
    | succ n hk7 =>
      intro b1 b2 b3 u H locs ls hw hl hf
      have hf : b_X10_undo_L7 (f_X10_undo_L7 n) b1 b2 b3 u = some u' := hf
      unfold b_X10_undo_L7 at hf
      refine lv_iload_n hx hb dX10_undo_7 rfl (lv_at hl 3 rfl) ?_
      refine lv_aload_n hx hb dX10_undo_8 rfl (lv_at hl 0 rfl) ?_
      refine gM0_58 hc hw fl_X10_365 dX10_undo_9 ?_
      refine lv_icmp_ge (tgt := 28) hx hb dX10_undo_12 (by decide) (fun z => ?_) (fun z => ?_)
      · have hf := it_pos z hf
        refine lv_iload_n hx hb dX10_undo_28 rfl (lv_at hl 2 rfl) ?_
        refine lv_if_ne (tgt := 45) hx hb dX10_undo_29 (by decide) (fun z => ?_) (fun z => ?_)
        · have hf := it_neg z hf
          exact wL45 b1 b2 u H locs ls hw (lv_sub hl [0, 1, 2] rfl) hf
        · have hf := it_pos z hf
          refine lv_aload_n hx hb dX10_undo_32 rfl (lv_at hl 0 rfl) ?_
          refine gM0_20 hc hw fl_X10_57 dX10_undo_33 ?_
          refine lv_iconst (v := (0 : Int32)) hx hb dX10_undo_36 (by decide) ?_
          refine lv_bipush (v := (113 : Int32)) hx hb dX10_undo_37 (by decide) ?_
          obtain ⟨z, hf⟩ := oi_some hf
          refine tM14 hc hw z dX10_undo_39 (fun H locs hw => ?_)
          obtain ⟨u13, eu13, hf⟩ := lt_some hf
          have hw := VW.nm eu13 hw
          refine lv_aload_n hx hb dX10_undo_40 rfl (lv_at hl 0 rfl) ?_
          refine lv_iconst (v := (1 : Int32)) hx hb dX10_undo_41 (by decide) ?_
          refine pM0_21 hc hw fl_X10_139 dX10_undo_42 (fun H locs hw => ?_)
          obtain ⟨u14, eu14, hf⟩ := lt_some hf
          have hw := VW.nm eu14 hw
          exact wL45 b1 b2 u14 H locs ls hw (lv_sub hl [0, 1, 2] rfl) hf
      · have hf := it_neg z hf
        refine lv_aload_n hx hb dX10_undo_15 rfl (lv_at hl 0 rfl) ?_
        refine gM0_61 hc hw fl_X10_118 dX10_undo_16 ?_
        refine lv_iload_n hx hb dX10_undo_19 rfl (lv_at hl 3 rfl) ?_
        refine lv_iconst (v := (0 : Int32)) hx hb dX10_undo_20 (by decide) ?_
        obtain ⟨z, hf⟩ := oi_some hf
        refine tM34 hc hw z dX10_undo_21 (fun H locs hw => ?_)
        obtain ⟨u15, eu15, hf⟩ := lt_some hf
        have hw := VW.nm eu15 hw
        obtain ⟨x16, ex16, hf⟩ := lt_some hf
        refine lv_iinc (v := x16) (lv' := [(3, .int x16), (0, .ref (ev.2.1 0)), (1, .int b1), (2, .int b2)]) hx hb dX10_undo_22 hl (k := 3) rfl (by rw [ex16]; rfl) (by decide) rfl (fun ls hl => ?_)
        refine lv_goto (tgt := 7) hx hb dX10_undo_25 (by decide) ?_
        exact hk7 b1 b2 x16 u15 H locs ls hw (lv_sub hl [1, 2, 3, 0] rfl) hf
  unfold f_X10_undo at hf
  refine lv_aload_n hx hb dX10_undo_0 rfl (lv_at hl 0 rfl) ?_
  refine lv_iconst (v := (0 : Int32)) hx hb dX10_undo_1 (by decide) ?_
  refine pM0_52 hc hw fl_X10_356 nz0 fz0 dX10_undo_2 (fun H locs hw => ?_)
  obtain ⟨u1, eu1, hf⟩ := lt_some hf
  have hw := VW.nm eu1 hw
  refine lv_iconst (v := (0 : Int32)) hx hb dX10_undo_5 (by decide) ?_
  refine lv_istore_n (lv' := [(3, .int (0 : Int32)), (0, .ref (ev.2.1 0)), (1, .int a1), (2, .int a2)]) hx hb dX10_undo_6 rfl hl (by decide) rfl (fun ls hl => ?_)
  exact wL7 FU a1 a2 (0 : Int32) u1 H locs ls hw (lv_sub hl [1, 2, 3, 0] rfl) hf
def f_X10_judge (a1 : Int32) (a2 : Int32) (u : SS) : Option (Int32 × SS) :=
  ob (f_X10_in a1 (0 : Int32) ((gI u 25) - (1 : Int32)) u) fun r3 u2 => if r3 = 0 then (ob (f_X10_refuse (-1 : Int32) u2) fun r12 u11 => some (r12, u11)) else (oi a1 20 (if (gA u2 29 a1.toNatClampNeg) = 0 then (ob (f_X10_refuse (-3 : Int32) u2) fun r9 u8 => some (r9, u8)) else (oi a1 20 (lt (tZ u2 29 a1 (0 : Int32)) fun u4 => if a2 = 0 then (some ((1 : Int32), u4)) else (oi a1 20 (oi a1 20 (ov (f_X10_undo (gA u4 27 a1.toNatClampNeg) (gA u4 28 a1.toNatClampNeg) u4) fun u6 => some ((1 : Int32), u6))))))))
set_option maxHeartbeats 4000000 in
set_option maxRecDepth 100000 in
theorem c_X10_judge (l : Launch) (ev : EV) (a1 : Int32) (a2 : Int32) (u : SS) {r : Int32} {u' : SS} (hf : f_X10_judge a1 a2 u = some (r, u')) : MI wdM l yX10_judge cX10_judge 3 (some .int) 2 ev [.ref (ev.2.1 0), .int a1, .int a2] u r u' := by
  refine bodyI (by decide +kernel) rfl (Nat.le_of_ble_eq_true rfl) ?_
  intro p e s m below meth cd ls H locs hc hr hlk hw hl
  generalize hav : (List.toArray [.ref (ev.2.1 0), .int a1, .int a2] : Array Value) = av at hc ⊢
  obtain ⟨hx, hb, hml, hown, hts, hK, hZ⟩ := id hc
  have hl : lv_has ls 3 [(0, .ref (ev.2.1 0)), (1, .int a1), (2, .int a2)] := hl
  unfold f_X10_judge at hf
  refine lv_iload_n hx hb dX10_judge_0 rfl (lv_at hl 1 rfl) ?_
  refine lv_iconst (v := (0 : Int32)) hx hb dX10_judge_1 (by decide) ?_
  refine lv_aload_n hx hb dX10_judge_2 rfl (lv_at hl 0 rfl) ?_
  refine gM0_58 hc hw fl_X10_365 dX10_judge_3 ?_
  refine lv_iconst (v := (1 : Int32)) hx hb dX10_judge_6 (by decide) ?_
  refine lv_isub hx hb dX10_judge_7 ?_
  obtain ⟨r3, u2, h1, hf⟩ := ob_some hf
  refine endI okM hw (runS_ok (As := [.int a1, .int (0 : Int32), .int ((gI u 25) - (1 : Int32))]) (rest := []) okM hc hw (c_X10_in l ev a1 (0 : Int32) ((gI u 25) - (1 : Int32)) u h1 H.size) ks_X10_in ml_X10_144 hl.1 rfl rfl (Nat.le_of_ble_eq_true rfl) (rm_le (by decide) (by decide)) dX10_judge_8) (fun H locs hw => ?_)
  refine lv_if_ne (tgt := 20) hx hb dX10_judge_11 (by decide) (fun z => ?_) (fun z => ?_)
  · have hf := it_neg z hf
    refine lv_aload_n hx hb dX10_judge_20 rfl (lv_at hl 0 rfl) ?_
    refine gM0_61 hc hw fl_X10_118 dX10_judge_21 ?_
    refine lv_iload_n hx hb dX10_judge_24 rfl (lv_at hl 1 rfl) ?_
    obtain ⟨z, hf⟩ := oi_some hf
    refine aM34 hc hw z dX10_judge_25 ?_
    refine lv_if_ne (tgt := 36) hx hb dX10_judge_26 (by decide) (fun z => ?_) (fun z => ?_)
    · have hf := it_neg z hf
      refine lv_aload_n hx hb dX10_judge_36 rfl (lv_at hl 0 rfl) ?_
      refine gM0_61 hc hw fl_X10_118 dX10_judge_37 ?_
      refine lv_iload_n hx hb dX10_judge_40 rfl (lv_at hl 1 rfl) ?_
      refine lv_iconst (v := (0 : Int32)) hx hb dX10_judge_41 (by decide) ?_
      obtain ⟨z, hf⟩ := oi_some hf
      refine tM34 hc hw z dX10_judge_42 (fun H locs hw => ?_)
      obtain ⟨u4, eu4, hf⟩ := lt_some hf
      have hw := VW.nm eu4 hw
      refine lv_iload_n hx hb dX10_judge_43 rfl (lv_at hl 2 rfl) ?_
      refine lv_if_eq (tgt := 63) hx hb dX10_judge_44 (by decide) (fun z => ?_) (fun z => ?_)
      · have hf := it_pos z hf
        refine lv_iconst (v := (1 : Int32)) hx hb dX10_judge_63 (by decide) ?_
        exact retI hc hr hlk hw hf dX10_judge_64
      · have hf := it_neg z hf
        refine lv_aload_n hx hb dX10_judge_47 rfl (lv_at hl 0 rfl) ?_
        refine lv_aload_n hx hb dX10_judge_48 rfl (lv_at hl 0 rfl) ?_
        refine gM0_59 hc hw fl_X10_112 dX10_judge_49 ?_
        refine lv_iload_n hx hb dX10_judge_52 rfl (lv_at hl 1 rfl) ?_
        obtain ⟨z, hf⟩ := oi_some hf
        refine aM32 hc hw z dX10_judge_53 ?_
        refine lv_aload_n hx hb dX10_judge_54 rfl (lv_at hl 0 rfl) ?_
        refine gM0_60 hc hw fl_X10_115 dX10_judge_55 ?_
        refine lv_iload_n hx hb dX10_judge_58 rfl (lv_at hl 1 rfl) ?_
        obtain ⟨z, hf⟩ := oi_some hf
        refine aM33 hc hw z dX10_judge_59 ?_
        obtain ⟨u6, h5, hf⟩ := ov_some hf
        refine endV okM hw (runV_ok (As := [.int (gA u4 27 a1.toNatClampNeg), .int (gA u4 28 a1.toNatClampNeg)]) (rest := []) okM hc hw (c_X10_undo l ev (gA u4 27 a1.toNatClampNeg) (gA u4 28 a1.toNatClampNeg) u4 h5 H.size) kv_X10_undo ml_X10_368 (rvM0 ev u4) hl.1 rfl rfl (Nat.le_of_ble_eq_true rfl) (rm_le (by decide) (by decide)) dX10_judge_60) (fun H locs hw => ?_)
        refine lv_iconst (v := (1 : Int32)) hx hb dX10_judge_63 (by decide) ?_
        exact retI hc hr hlk hw hf dX10_judge_64
    · have hf := it_pos z hf
      refine lv_aload_n hx hb dX10_judge_29 rfl (lv_at hl 0 rfl) ?_
      refine lv_bipush (v := (-3 : Int32)) hx hb dX10_judge_30 (by decide) ?_
      obtain ⟨r9, u8, h7, hf⟩ := ob_some hf
      refine endI okM hw (runV_ok (As := [.int (-3 : Int32)]) (rest := []) okM hc hw (c_X10_refuse l ev (-3 : Int32) u2 h7 H.size) kv_X10_refuse ml_X10_151 (rvM0 ev u2) hl.1 rfl rfl (Nat.le_of_ble_eq_true rfl) (rm_le (by decide) (by decide)) dX10_judge_32) (fun H locs hw => ?_)
      exact retI hc hr hlk hw hf dX10_judge_35
  · have hf := it_pos z hf
    refine lv_aload_n hx hb dX10_judge_14 rfl (lv_at hl 0 rfl) ?_
    refine lv_iconst (v := (-1 : Int32)) hx hb dX10_judge_15 (by decide) ?_
    obtain ⟨r12, u11, h10, hf⟩ := ob_some hf
    refine endI okM hw (runV_ok (As := [.int (-1 : Int32)]) (rest := []) okM hc hw (c_X10_refuse l ev (-1 : Int32) u2 h10 H.size) kv_X10_refuse ml_X10_151 (rvM0 ev u2) hl.1 rfl rfl (Nat.le_of_ble_eq_true rfl) (rm_le (by decide) (by decide)) dX10_judge_16) (fun H locs hw => ?_)
    exact retI hc hr hlk hw hf dX10_judge_19
def f_X10_holding_L27 (k4 : Int32 → Int32 → SS → Option (Int32 × SS)) (b2 : Int32) (q0 : Int32) (q1 : Int32) (u : SS) : Option (Int32 × SS) :=
  lt (q1 + q0) fun x1 => lt (b2 + (1 : Int32)) fun x2 => k4 x1 x2 u
def b_X10_holding_L4 (k4 : Int32 → Int32 → SS → Option (Int32 × SS)) (b1 : Int32) (b2 : Int32) (u : SS) : Option (Int32 × SS) :=
  if (gI u 25) ≤ b2 then (some (b1, u)) else (oi b2 20 (if (gA u 29 b2.toNatClampNeg) = 0 then (f_X10_holding_L27 k4 b2 (0 : Int32) b1 u) else (f_X10_holding_L27 k4 b2 (1 : Int32) b1 u)))
def f_X10_holding_L4 : Nat → Int32 → Int32 → SS → Option (Int32 × SS)
  | 0 => fun _ _ _ => none
  | n + 1 => b_X10_holding_L4 (f_X10_holding_L4 n)
def f_X10_holding (u : SS) : Option (Int32 × SS) :=
  f_X10_holding_L4 FU (0 : Int32) (0 : Int32) u
set_option maxHeartbeats 4000000 in
set_option maxRecDepth 100000 in
theorem c_X10_holding (l : Launch) (ev : EV) (u : SS) {r : Int32} {u' : SS} (hf : f_X10_holding  u = some (r, u')) : MI wdM l yX10_holding cX10_holding 3 (some .int) 0 ev [.ref (ev.2.1 0)] u r u' := by
  refine bodyI (by decide +kernel) rfl (Nat.le_of_ble_eq_true rfl) ?_
  intro p e s m below meth cd ls H locs hc hr hlk hw hl
  generalize hav : (List.toArray [.ref (ev.2.1 0)] : Array Value) = av at hc ⊢
  obtain ⟨hx, hb, hml, hown, hts, hK, hZ⟩ := id hc
  have hl : lv_has ls 3 [(0, .ref (ev.2.1 0))] := hl
  have wL27 : ∀ (k4 : Int32 → Int32 → SS → Option (Int32 × SS)) (hk4 : ∀ (b1 : Int32) (b2 : Int32) (u : SS) (H : Heap) (locs : List Loc) (ls : Array Slot), VW wdM ev s u H locs → lv_has ls 3 [(0, .ref (ev.2.1 0)), (1, .int b1), (2, .int b2)] → k4 b1 b2 u = some (r, u') → W p l e (rmk 0) s m av below meth cd H locs 0 0 (ZI wdM ev s below av r u') (F0 m 4 ls [])) (b2 : Int32) (q0 : Int32) (q1 : Int32) (u : SS) (H : Heap) (locs : List Loc) (ls : Array Slot), VW wdM ev s u H locs → lv_has ls 3 [(0, .ref (ev.2.1 0)), (2, .int b2)] → f_X10_holding_L27 k4 b2 q0 q1 u = some (r, u') → W p l e (rmk 0) s m av below meth cd H locs 0 0 (ZI wdM ev s below av r u') (F0 m 27 ls [.int q0, .int q1]) := by
    intro k4 hk4 b2 q0 q1 u H locs ls hw hl hf
    unfold f_X10_holding_L27 at hf
    refine lv_iadd hx hb dX10_holding_27 ?_
    obtain ⟨x1, ex1, hf⟩ := lt_some hf
    refine tope ex1 ?_
    refine lv_istore_n (lv' := [(1, .int x1), (0, .ref (ev.2.1 0)), (2, .int b2)]) hx hb dX10_holding_28 rfl hl (by decide) rfl (fun ls hl => ?_)
    obtain ⟨x2, ex2, hf⟩ := lt_some hf
    refine lv_iinc (v := x2) (lv' := [(2, .int x2), (1, .int x1), (0, .ref (ev.2.1 0))]) hx hb dX10_holding_29 hl (k := 2) rfl (by rw [ex2]; rfl) (by decide) rfl (fun ls hl => ?_)
    refine lv_goto (tgt := 4) hx hb dX10_holding_32 (by decide) ?_
    exact hk4 x1 x2 u H locs ls hw (lv_sub hl [2, 1, 0] rfl) hf
  have wL4 : ∀ (n : Nat) (b1 : Int32) (b2 : Int32) (u : SS) (H : Heap) (locs : List Loc) (ls : Array Slot), VW wdM ev s u H locs → lv_has ls 3 [(0, .ref (ev.2.1 0)), (1, .int b1), (2, .int b2)] → f_X10_holding_L4 n b1 b2 u = some (r, u') → W p l e (rmk 0) s m av below meth cd H locs 0 0 (ZI wdM ev s below av r u') (F0 m 4 ls []) := by
    intro n
    induction n with
    | zero =>
      intro b1 b2 u H locs ls hw hl hf
      cases hf
    | succ n hk4 =>
      intro b1 b2 u H locs ls hw hl hf
      have hf : b_X10_holding_L4 (f_X10_holding_L4 n) b1 b2 u = some (r, u') := hf
      unfold b_X10_holding_L4 at hf
      refine lv_iload_n hx hb dX10_holding_4 rfl (lv_at hl 2 rfl) ?_
      refine lv_aload_n hx hb dX10_holding_5 rfl (lv_at hl 0 rfl) ?_
      refine gM0_58 hc hw fl_X10_365 dX10_holding_6 ?_
      refine lv_icmp_ge (tgt := 35) hx hb dX10_holding_9 (by decide) (fun z => ?_) (fun z => ?_)
      · have hf := it_pos z hf
        refine lv_iload_n hx hb dX10_holding_35 rfl (lv_at hl 1 rfl) ?_
        exact retI hc hr hlk hw hf dX10_holding_36
      · have hf := it_neg z hf
        refine lv_iload_n hx hb dX10_holding_12 rfl (lv_at hl 1 rfl) ?_
        refine lv_aload_n hx hb dX10_holding_13 rfl (lv_at hl 0 rfl) ?_
        refine gM0_61 hc hw fl_X10_118 dX10_holding_14 ?_
        refine lv_iload_n hx hb dX10_holding_17 rfl (lv_at hl 2 rfl) ?_
        obtain ⟨z, hf⟩ := oi_some hf
        refine aM34 hc hw z dX10_holding_18 ?_
        refine lv_if_eq (tgt := 26) hx hb dX10_holding_19 (by decide) (fun z => ?_) (fun z => ?_)
        · have hf := it_pos z hf
          refine lv_iconst (v := (0 : Int32)) hx hb dX10_holding_26 (by decide) ?_
          exact wL27 (f_X10_holding_L4 n) hk4 b2 (0 : Int32) b1 u H locs ls hw (lv_sub hl [0, 2] rfl) hf
        · have hf := it_neg z hf
          refine lv_iconst (v := (1 : Int32)) hx hb dX10_holding_22 (by decide) ?_
          refine lv_goto (tgt := 27) hx hb dX10_holding_23 (by decide) ?_
          exact wL27 (f_X10_holding_L4 n) hk4 b2 (1 : Int32) b1 u H locs ls hw (lv_sub hl [0, 2] rfl) hf
  unfold f_X10_holding at hf
  refine lv_iconst (v := (0 : Int32)) hx hb dX10_holding_0 (by decide) ?_
  refine lv_istore_n (lv' := [(1, .int (0 : Int32)), (0, .ref (ev.2.1 0))]) hx hb dX10_holding_1 rfl hl (by decide) rfl (fun ls hl => ?_)
  refine lv_iconst (v := (0 : Int32)) hx hb dX10_holding_2 (by decide) ?_
  refine lv_istore_n (lv' := [(2, .int (0 : Int32)), (1, .int (0 : Int32)), (0, .ref (ev.2.1 0))]) hx hb dX10_holding_3 rfl hl (by decide) rfl (fun ls hl => ?_)
  exact wL4 FU (0 : Int32) (0 : Int32) u H locs ls hw (lv_sub hl [2, 1, 0] rfl) hf
def f_X10_sign_L32 (u : SS) : Option (Int32 × SS) :=
  ob (f_X10_refuse (-3 : Int32) u) fun r3 u2 => some (r3, u2)
def f_X10_sign (u : SS) : Option (Int32 × SS) :=
  if (gI u 22) = 0 then (f_X10_sign_L32 u) else (if (gI u 23) = 0 then (if (gI u 0) ≤ (gI u 24) then (f_X10_sign_L32 u) else (ob (f_X10_holding u) fun r6 u5 => if r6 ≤ 0 then (lt (sI u5 23 (1 : Int32)) fun u7 => some ((1 : Int32), u7)) else (f_X10_sign_L32 u5))) else (f_X10_sign_L32 u))
set_option maxHeartbeats 4000000 in
set_option maxRecDepth 100000 in
theorem c_X10_sign (l : Launch) (ev : EV) (u : SS) {r : Int32} {u' : SS} (hf : f_X10_sign  u = some (r, u')) : MI wdM l yX10_sign cX10_sign 1 (some .int) 1 ev [.ref (ev.2.1 0)] u r u' := by
  refine bodyI (by decide +kernel) rfl (Nat.le_of_ble_eq_true rfl) ?_
  intro p e s m below meth cd ls H locs hc hr hlk hw hl
  generalize hav : (List.toArray [.ref (ev.2.1 0)] : Array Value) = av at hc ⊢
  obtain ⟨hx, hb, hml, hown, hts, hK, hZ⟩ := id hc
  have hl : lv_has ls 1 [(0, .ref (ev.2.1 0))] := hl
  have wL32 : ∀ (u : SS) (H : Heap) (locs : List Loc) (ls : Array Slot), VW wdM ev s u H locs → lv_has ls 1 [(0, .ref (ev.2.1 0))] → f_X10_sign_L32  u = some (r, u') → W p l e (rmk 1) s m av below meth cd H locs 0 0 (ZI wdM ev s below av r u') (F0 m 32 ls []) := by
    intro  u H locs ls hw hl hf
    unfold f_X10_sign_L32 at hf
    refine lv_aload_n hx hb dX10_sign_32 rfl (lv_at hl 0 rfl) ?_
    refine lv_bipush (v := (-3 : Int32)) hx hb dX10_sign_33 (by decide) ?_
    obtain ⟨r3, u2, h1, hf⟩ := ob_some hf
    refine endI okM hw (runV_ok (As := [.int (-3 : Int32)]) (rest := []) okM hc hw (c_X10_refuse l ev (-3 : Int32) u h1 H.size) kv_X10_refuse ml_X10_151 (rvM0 ev u) hl.1 rfl rfl (Nat.le_of_ble_eq_true rfl) (rm_le (by decide) (by decide)) dX10_sign_35) (fun H locs hw => ?_)
    exact retI hc hr hlk hw hf dX10_sign_38
  unfold f_X10_sign at hf
  refine lv_aload_n hx hb dX10_sign_0 rfl (lv_at hl 0 rfl) ?_
  refine gM0_52 hc hw fl_X10_356 dX10_sign_1 ?_
  refine lv_if_eq (tgt := 32) hx hb dX10_sign_4 (by decide) (fun z => ?_) (fun z => ?_)
  · have hf := it_pos z hf
    exact wL32 u H locs ls hw (lv_sub hl [0] rfl) hf
  · have hf := it_neg z hf
    refine lv_aload_n hx hb dX10_sign_7 rfl (lv_at hl 0 rfl) ?_
    refine gM0_53 hc hw fl_X10_362 dX10_sign_8 ?_
    refine lv_if_ne (tgt := 32) hx hb dX10_sign_11 (by decide) (fun z => ?_) (fun z => ?_)
    · have hf := it_neg z hf
      exact wL32 u H locs ls hw (lv_sub hl [0] rfl) hf
    · have hf := it_pos z hf
      refine lv_aload_n hx hb dX10_sign_14 rfl (lv_at hl 0 rfl) ?_
      refine gM0_0 hc hw fl_X10_148 dX10_sign_15 ?_
      refine lv_aload_n hx hb dX10_sign_18 rfl (lv_at hl 0 rfl) ?_
      refine gM0_54 hc hw fl_X10_359 dX10_sign_19 ?_
      refine lv_icmp_le (tgt := 32) hx hb dX10_sign_22 (by decide) (fun z => ?_) (fun z => ?_)
      · have hf := it_pos z hf
        exact wL32 u H locs ls hw (lv_sub hl [0] rfl) hf
      · have hf := it_neg z hf
        refine lv_aload_n hx hb dX10_sign_25 rfl (lv_at hl 0 rfl) ?_
        obtain ⟨r6, u5, h4, hf⟩ := ob_some hf
        refine endI okM hw (runV_ok (As := []) (rest := []) okM hc hw (c_X10_holding l ev u h4 H.size) kv_X10_holding ml_X10_371 (rvM0 ev u) hl.1 rfl rfl (Nat.le_of_ble_eq_true rfl) (rm_le (by decide) (by decide)) dX10_sign_26) (fun H locs hw => ?_)
        refine lv_if_le (tgt := 39) hx hb dX10_sign_29 (by decide) (fun z => ?_) (fun z => ?_)
        · have hf := it_pos z hf
          refine lv_aload_n hx hb dX10_sign_39 rfl (lv_at hl 0 rfl) ?_
          refine lv_iconst (v := (1 : Int32)) hx hb dX10_sign_40 (by decide) ?_
          refine pM0_53 hc hw fl_X10_362 nz1 fz1 dX10_sign_41 (fun H locs hw => ?_)
          obtain ⟨u7, eu7, hf⟩ := lt_some hf
          have hw := VW.nm eu7 hw
          refine lv_iconst (v := (1 : Int32)) hx hb dX10_sign_44 (by decide) ?_
          exact retI hc hr hlk hw hf dX10_sign_45
        · have hf := it_neg z hf
          exact wL32 u5 H locs ls hw (lv_sub hl [0] rfl) hf
def f_X10_change_L30 (u : SS) : Option (Int32 × SS) :=
  ob (f_X10_refuse (-3 : Int32) u) fun r6 u5 => some (r6, u5)
def f_X10_change (a1 : Int32) (a2 : Int32) (u : SS) : Option (Int32 × SS) :=
  ob (f_X10_isLot a1 u) fun r3 u2 => if r3 = 0 then (ob (f_X10_refuse (-1 : Int32) u2) fun r16 u15 => some (r16, u15)) else (if (gI u2 23) = 0 then (f_X10_change_L30 u2) else (oi a1 6 (if 0 ≤ (gA u2 24 a1.toNatClampNeg) then (if (1 : Int32) ≤ a2 then (if a2 ≤ (999999 : Int32) then (oi a1 6 (oi (3 : Int32) 4 (oi a1 6 (if (lg_cmp ((100 : Int64) * (((gA u2 26 a1.toNatClampNeg) + a2).toInt64)) (((gA u2 8 (3 : Int32).toNatClampNeg).toInt64) * ((gA u2 25 a1.toNatClampNeg).toInt64))) ≤ 0 then (oi a1 6 (oi a1 6 (lt (tA u2 26 a1 ((gA u2 26 a1.toNatClampNeg) + a2)) fun u7 => oi a1 6 (some ((gA u7 26 a1.toNatClampNeg), u7))))) else (some ((-9 : Int32), u2)))))) else (ob (f_X10_refuse (-6 : Int32) u2) fun r10 u9 => some (r10, u9))) else (ob (f_X10_refuse (-4 : Int32) u2) fun r13 u12 => some (r13, u12))) else (f_X10_change_L30 u2))))
set_option maxHeartbeats 4000000 in
set_option maxRecDepth 100000 in
theorem c_X10_change (l : Launch) (ev : EV) (a1 : Int32) (a2 : Int32) (u : SS) {r : Int32} {u' : SS} (hf : f_X10_change a1 a2 u = some (r, u')) : MI wdM l yX10_change cX10_change 3 (some .int) 2 ev [.ref (ev.2.1 0), .int a1, .int a2] u r u' := by
  refine bodyI (by decide +kernel) rfl (Nat.le_of_ble_eq_true rfl) ?_
  intro p e s m below meth cd ls H locs hc hr hlk hw hl
  generalize hav : (List.toArray [.ref (ev.2.1 0), .int a1, .int a2] : Array Value) = av at hc ⊢
  obtain ⟨hx, hb, hml, hown, hts, hK, hZ⟩ := id hc
  have hl : lv_has ls 3 [(0, .ref (ev.2.1 0)), (1, .int a1), (2, .int a2)] := hl
  have wL30 : ∀ (u : SS) (H : Heap) (locs : List Loc) (ls : Array Slot), VW wdM ev s u H locs → lv_has ls 3 [(0, .ref (ev.2.1 0))] → f_X10_change_L30  u = some (r, u') → W p l e (rmk 2) s m av below meth cd H locs 0 0 (ZI wdM ev s below av r u') (F0 m 30 ls []) := by
    intro  u H locs ls hw hl hf
    unfold f_X10_change_L30 at hf
    refine lv_aload_n hx hb dX10_change_30 rfl (lv_at hl 0 rfl) ?_
    refine lv_bipush (v := (-3 : Int32)) hx hb dX10_change_31 (by decide) ?_
    obtain ⟨r6, u5, h4, hf⟩ := ob_some hf
    refine endI okM hw (runV_ok (As := [.int (-3 : Int32)]) (rest := []) okM hc hw (c_X10_refuse l ev (-3 : Int32) u h4 H.size) kv_X10_refuse ml_X10_151 (rvM0 ev u) hl.1 rfl rfl (Nat.le_of_ble_eq_true rfl) (rm_le (by decide) (by decide)) dX10_change_33) (fun H locs hw => ?_)
    exact retI hc hr hlk hw hf dX10_change_36
  unfold f_X10_change at hf
  refine lv_aload_n hx hb dX10_change_0 rfl (lv_at hl 0 rfl) ?_
  refine lv_iload_n hx hb dX10_change_1 rfl (lv_at hl 1 rfl) ?_
  obtain ⟨r3, u2, h1, hf⟩ := ob_some hf
  refine endI okM hw (runV_ok (As := [.int a1]) (rest := []) okM hc hw (c_X10_isLot l ev a1 u h1 H.size) kv_X10_isLot ml_X10_170 (rvM0 ev u) hl.1 rfl rfl (Nat.le_of_ble_eq_true rfl) (rm_le (by decide) (by decide)) dX10_change_2) (fun H locs hw => ?_)
  refine lv_if_ne (tgt := 14) hx hb dX10_change_5 (by decide) (fun z => ?_) (fun z => ?_)
  · have hf := it_neg z hf
    refine lv_aload_n hx hb dX10_change_14 rfl (lv_at hl 0 rfl) ?_
    refine gM0_53 hc hw fl_X10_362 dX10_change_15 ?_
    refine lv_if_eq (tgt := 30) hx hb dX10_change_18 (by decide) (fun z => ?_) (fun z => ?_)
    · have hf := it_pos z hf
      exact wL30 u2 H locs ls hw (lv_sub hl [0] rfl) hf
    · have hf := it_neg z hf
      refine lv_aload_n hx hb dX10_change_21 rfl (lv_at hl 0 rfl) ?_
      refine gM0_55 hc hw fl_X10_103 dX10_change_22 ?_
      refine lv_iload_n hx hb dX10_change_25 rfl (lv_at hl 1 rfl) ?_
      obtain ⟨z, hf⟩ := oi_some hf
      refine aM29 hc hw z dX10_change_26 ?_
      refine lv_if_ge (tgt := 37) hx hb dX10_change_27 (by decide) (fun z => ?_) (fun z => ?_)
      · have hf := it_pos z hf
        refine lv_iload_n hx hb dX10_change_37 rfl (lv_at hl 2 rfl) ?_
        refine lv_iconst (v := (1 : Int32)) hx hb dX10_change_38 (by decide) ?_
        refine lv_icmp_ge (tgt := 49) hx hb dX10_change_39 (by decide) (fun z => ?_) (fun z => ?_)
        · have hf := it_pos z hf
          refine lv_iload_n hx hb dX10_change_49 rfl (lv_at hl 2 rfl) ?_
          refine lv_ldc (v := (999999 : Int32)) hx hb hown (hts _ ct_X10_155) dX10_change_50 ?_
          refine lv_icmp_le (tgt := 62) hx hb dX10_change_52 (by decide) (fun z => ?_) (fun z => ?_)
          · have hf := it_pos z hf
            refine lv_ldc2 (v := (100 : Int64)) hx hb hown (hts _ ct_X10_187) dX10_change_62 ?_
            refine lv_aload_n hx hb dX10_change_65 rfl (lv_at hl 0 rfl) ?_
            refine gM0_57 hc hw fl_X10_109 dX10_change_66 ?_
            refine lv_iload_n hx hb dX10_change_69 rfl (lv_at hl 1 rfl) ?_
            obtain ⟨z, hf⟩ := oi_some hf
            refine aM31 hc hw z dX10_change_70 ?_
            refine lv_iload_n hx hb dX10_change_71 rfl (lv_at hl 2 rfl) ?_
            refine lv_iadd hx hb dX10_change_72 ?_
            refine lv_i2l (v := ((gA u2 26 a1.toNatClampNeg) + a2).toInt64) hx hb dX10_change_73 rfl ?_
            refine lv_lmul hx hb dX10_change_74 ?_
            refine lv_aload_n hx hb dX10_change_75 rfl (lv_at hl 0 rfl) ?_
            refine gM0_11 hc hw fl_X10_42 dX10_change_76 ?_
            refine lv_iconst (v := (3 : Int32)) hx hb dX10_change_79 (by decide) ?_
            obtain ⟨z, hf⟩ := oi_some hf
            refine aM9 hc hw z dX10_change_80 ?_
            refine lv_i2l (v := (gA u2 8 (3 : Int32).toNatClampNeg).toInt64) hx hb dX10_change_81 rfl ?_
            refine lv_aload_n hx hb dX10_change_82 rfl (lv_at hl 0 rfl) ?_
            refine gM0_56 hc hw fl_X10_106 dX10_change_83 ?_
            refine lv_iload_n hx hb dX10_change_86 rfl (lv_at hl 1 rfl) ?_
            obtain ⟨z, hf⟩ := oi_some hf
            refine aM30 hc hw z dX10_change_87 ?_
            refine lv_i2l (v := (gA u2 25 a1.toNatClampNeg).toInt64) hx hb dX10_change_88 rfl ?_
            refine lv_lmul hx hb dX10_change_89 ?_
            refine W.lcmp hx hb dX10_change_90 ?_
            refine lv_if_le (tgt := 97) hx hb dX10_change_91 (by decide) (fun z => ?_) (fun z => ?_)
            · have hf := it_pos z hf
              refine lv_aload_n hx hb dX10_change_97 rfl (lv_at hl 0 rfl) ?_
              refine gM0_57 hc hw fl_X10_109 dX10_change_98 ?_
              refine lv_iload_n hx hb dX10_change_101 rfl (lv_at hl 1 rfl) ?_
              refine lv_dup2_11 hx hb dX10_change_102 rfl rfl ?_
              obtain ⟨z, hf⟩ := oi_some hf
              refine aM31 hc hw z dX10_change_103 ?_
              refine lv_iload_n hx hb dX10_change_104 rfl (lv_at hl 2 rfl) ?_
              refine lv_iadd hx hb dX10_change_105 ?_
              obtain ⟨z, hf⟩ := oi_some hf
              refine tM31 hc hw z dX10_change_106 (fun H locs hw => ?_)
              obtain ⟨u7, eu7, hf⟩ := lt_some hf
              have hw := VW.nm eu7 hw
              refine lv_aload_n hx hb dX10_change_107 rfl (lv_at hl 0 rfl) ?_
              refine gM0_57 hc hw fl_X10_109 dX10_change_108 ?_
              refine lv_iload_n hx hb dX10_change_111 rfl (lv_at hl 1 rfl) ?_
              obtain ⟨z, hf⟩ := oi_some hf
              refine aM31 hc hw z dX10_change_112 ?_
              exact retI hc hr hlk hw hf dX10_change_113
            · have hf := it_neg z hf
              refine lv_bipush (v := (-9 : Int32)) hx hb dX10_change_94 (by decide) ?_
              exact retI hc hr hlk hw hf dX10_change_96
          · have hf := it_neg z hf
            refine lv_aload_n hx hb dX10_change_55 rfl (lv_at hl 0 rfl) ?_
            refine lv_bipush (v := (-6 : Int32)) hx hb dX10_change_56 (by decide) ?_
            obtain ⟨r10, u9, h8, hf⟩ := ob_some hf
            refine endI okM hw (runV_ok (As := [.int (-6 : Int32)]) (rest := []) okM hc hw (c_X10_refuse l ev (-6 : Int32) u2 h8 H.size) kv_X10_refuse ml_X10_151 (rvM0 ev u2) hl.1 rfl rfl (Nat.le_of_ble_eq_true rfl) (rm_le (by decide) (by decide)) dX10_change_58) (fun H locs hw => ?_)
            exact retI hc hr hlk hw hf dX10_change_61
        · have hf := it_neg z hf
          refine lv_aload_n hx hb dX10_change_42 rfl (lv_at hl 0 rfl) ?_
          refine lv_bipush (v := (-4 : Int32)) hx hb dX10_change_43 (by decide) ?_
          obtain ⟨r13, u12, h11, hf⟩ := ob_some hf
          refine endI okM hw (runV_ok (As := [.int (-4 : Int32)]) (rest := []) okM hc hw (c_X10_refuse l ev (-4 : Int32) u2 h11 H.size) kv_X10_refuse ml_X10_151 (rvM0 ev u2) hl.1 rfl rfl (Nat.le_of_ble_eq_true rfl) (rm_le (by decide) (by decide)) dX10_change_45) (fun H locs hw => ?_)
          exact retI hc hr hlk hw hf dX10_change_48
      · have hf := it_neg z hf
        exact wL30 u2 H locs ls hw (lv_sub hl [0] rfl) hf
  · have hf := it_pos z hf
    refine lv_aload_n hx hb dX10_change_8 rfl (lv_at hl 0 rfl) ?_
    refine lv_iconst (v := (-1 : Int32)) hx hb dX10_change_9 (by decide) ?_
    obtain ⟨r16, u15, h14, hf⟩ := ob_some hf
    refine endI okM hw (runV_ok (As := [.int (-1 : Int32)]) (rest := []) okM hc hw (c_X10_refuse l ev (-1 : Int32) u2 h14 H.size) kv_X10_refuse ml_X10_151 (rvM0 ev u2) hl.1 rfl rfl (Nat.le_of_ble_eq_true rfl) (rm_le (by decide) (by decide)) dX10_change_10) (fun H locs hw => ?_)
    exact retI hc hr hlk hw hf dX10_change_13
def f_X10_apart (a0 : Int64) (a2 : Int64) (u : SS) : Option (Int64 × SS) :=
  if (lg_cmp a0 a2) ≤ 0 then (some ((a2 - a0), u)) else (some ((a0 - a2), u))
set_option maxHeartbeats 4000000 in
set_option maxRecDepth 100000 in
theorem c_X10_apart (l : Launch) (ev : EV) (a0 : Int64) (a2 : Int64) (u : SS) {r : Int64} {u' : SS} (hf : f_X10_apart a0 a2 u = some (r, u')) : ML wdM l yX10_apart cX10_apart 4 (some .long) 0 ev [.long a0, .long a2] u r u' := by
  refine bodyL (by decide +kernel) rfl (Nat.le_of_ble_eq_true rfl) ?_
  intro p e s m below meth cd ls H locs hc hr hlk hw hl
  generalize hav : (List.toArray [.long a0, .long a2] : Array Value) = av at hc ⊢
  obtain ⟨hx, hb, hml, hown, hts, hK, hZ⟩ := id hc
  have hl : lv_has ls 4 [(0, .long a0), (2, .long a2)] := hl
  unfold f_X10_apart at hf
  refine lv_lload_n hx hb dX10_apart_0 rfl (lv_at hl 0 rfl) ?_
  refine lv_lload_n hx hb dX10_apart_1 rfl (lv_at hl 1 rfl) ?_
  refine W.lcmp hx hb dX10_apart_2 ?_
  refine lv_if_le (tgt := 12) hx hb dX10_apart_3 (by decide) (fun z => ?_) (fun z => ?_)
  · have hf := it_pos z hf
    refine lv_lload_n hx hb dX10_apart_12 rfl (lv_at hl 1 rfl) ?_
    refine lv_lload_n hx hb dX10_apart_13 rfl (lv_at hl 0 rfl) ?_
    refine lv_lsub hx hb dX10_apart_14 ?_
    exact retL hc hr hlk hw hf dX10_apart_15
  · have hf := it_neg z hf
    refine lv_lload_n hx hb dX10_apart_6 rfl (lv_at hl 0 rfl) ?_
    refine lv_lload_n hx hb dX10_apart_7 rfl (lv_at hl 1 rfl) ?_
    refine lv_lsub hx hb dX10_apart_8 ?_
    refine lv_goto (tgt := 15) hx hb dX10_apart_9 (by decide) ?_
    exact retL hc hr hlk hw hf dX10_apart_15
def b_X10_likenessBy_L101 (k101 : Int32 → Int32 → Int64 → Int32 → SS → Option (Int64 × SS)) (b1 : Int32) (b2 : Int32) (b5 : Int64) (b7 : Int32) (u : SS) : Option (Int64 × SS) :=
  if (4 : Int32) ≤ b7 then (some (b5, u)) else (oi (((4 : Int32) * b1) + b7) 192 (ob (f_X10_itemsOf b2 u) fun r3 u2 => oi b7 4 (oi (((4 : Int32) * b2) + (gA u2 30 b7.toNatClampNeg)) 192 (ob (f_X10_itemsOf b1 u2) fun r6 u5 => ob (f_X10_apart (((gA u 3 (((4 : Int32) * b1) + b7).toNatClampNeg).toInt64) * (r3.toInt64)) (((gA u2 3 (((4 : Int32) * b2) + (gA u2 30 b7.toNatClampNeg)).toNatClampNeg).toInt64) * (r6.toInt64)) u5) fun r9 u8 => lt (b5 + r9) fun x10 => lt (b7 + (1 : Int32)) fun x11 => k101 b1 b2 x10 x11 u8))))
def f_X10_likenessBy_L101 : Nat → Int32 → Int32 → Int64 → Int32 → SS → Option (Int64 × SS)
  | 0 => fun _ _ _ _ _ => none
  | n + 1 => b_X10_likenessBy_L101 (f_X10_likenessBy_L101 n)
def b_X10_likenessBy_L30 (k30 : Int32 → Int32 → Int32 → Int32 → SS → Option (Int64 × SS)) (b1 : Int32) (b2 : Int32) (b4 : Int32) (b5 : Int32) (u : SS) : Option (Int64 × SS) :=
  if (4 : Int32) ≤ b5 then (f_X10_likenessBy_L101 FU b1 b2 (0 : Int64) (0 : Int32) u) else (if ((4 : Int32) - b5) = 0 then none else lt (b5 + (b4 - b4 / ((4 : Int32) - b5) * ((4 : Int32) - b5))) fun x12 => if ((4 : Int32) - b5) = 0 then none else lt (b4 / ((4 : Int32) - b5)) fun x13 => oi b5 4 (lt (gA u 30 b5.toNatClampNeg) fun x14 => oi x12 4 (oi b5 4 (lt (tA u 30 b5 (gA u 30 x12.toNatClampNeg)) fun u15 => oi x12 4 (lt (tA u15 30 x12 x14) fun u16 => lt (b5 + (1 : Int32)) fun x17 => k30 b1 b2 x13 x17 u16)))))
def f_X10_likenessBy_L30 : Nat → Int32 → Int32 → Int32 → Int32 → SS → Option (Int64 × SS)
  | 0 => fun _ _ _ _ _ => none
  | n + 1 => b_X10_likenessBy_L30 (f_X10_likenessBy_L30 n)
def b_X10_likenessBy_L6 (k6 : Int32 → Int32 → Int32 → Int32 → SS → Option (Int64 × SS)) (b1 : Int32) (b2 : Int32) (b4 : Int32) (b5 : Int32) (u : SS) : Option (Int64 × SS) :=
  if (4 : Int32) ≤ b5 then (f_X10_likenessBy_L30 FU b1 b2 b4 (0 : Int32) u) else (oi b5 4 (lt (tA u 30 b5 b5) fun u18 => lt (b5 + (1 : Int32)) fun x19 => k6 b1 b2 b4 x19 u18))
def f_X10_likenessBy_L6 : Nat → Int32 → Int32 → Int32 → Int32 → SS → Option (Int64 × SS)
  | 0 => fun _ _ _ _ _ => none
  | n + 1 => b_X10_likenessBy_L6 (f_X10_likenessBy_L6 n)
def f_X10_likenessBy (a1 : Int32) (a2 : Int32) (a3 : Int32) (u : SS) : Option (Int64 × SS) :=
  f_X10_likenessBy_L6 FU a1 a2 a3 (0 : Int32) u
set_option maxHeartbeats 4000000 in
set_option maxRecDepth 100000 in
theorem c_X10_likenessBy (l : Launch) (ev : EV) (a1 : Int32) (a2 : Int32) (a3 : Int32) (u : SS) {r : Int64} {u' : SS} (hf : f_X10_likenessBy a1 a2 a3 u = some (r, u')) : ML wdM l yX10_likenessBy cX10_likenessBy 8 (some .long) 1 ev [.ref (ev.2.1 0), .int a1, .int a2, .int a3] u r u' := by
  refine bodyL (by decide +kernel) rfl (Nat.le_of_ble_eq_true rfl) ?_
  intro p e s m below meth cd ls H locs hc hr hlk hw hl
  generalize hav : (List.toArray [.ref (ev.2.1 0), .int a1, .int a2, .int a3] : Array Value) = av at hc ⊢
  obtain ⟨hx, hb, hml, hown, hts, hK, hZ⟩ := id hc
  have hl : lv_has ls 8 [(0, .ref (ev.2.1 0)), (1, .int a1), (2, .int a2), (3, .int a3)] := hl
  have wL101 : ∀ (n : Nat) (b1 : Int32) (b2 : Int32) (b5 : Int64) (b7 : Int32) (u : SS) (H : Heap) (locs : List Loc) (ls : Array Slot), VW wdM ev s u H locs → lv_has ls 8 [(0, .ref (ev.2.1 0)), (1, .int b1), (2, .int b2), (5, .long b5), (7, .int b7)] → f_X10_likenessBy_L101 n b1 b2 b5 b7 u = some (r, u') → W p l e (rmk 1) s m av below meth cd H locs 0 0 (ZL wdM ev s below av r u') (F0 m 101 ls []) := by
    intro n
    induction n with
    | zero =>
      intro b1 b2 b5 b7 u H locs ls hw hl hf
      cases hf
    | succ n hk101 =>
      intro b1 b2 b5 b7 u H locs ls hw hl hf
      have hf : b_X10_likenessBy_L101 (f_X10_likenessBy_L101 n) b1 b2 b5 b7 u = some (r, u') := hf
      unfold b_X10_likenessBy_L101 at hf
      refine lv_iload hx hb dX10_likenessBy_101 (lv_at hl 4 rfl) ?_
      refine lv_iconst (v := (4 : Int32)) hx hb dX10_likenessBy_103 (by decide) ?_
      refine lv_icmp_ge (tgt := 164) hx hb dX10_likenessBy_104 (by decide) (fun z => ?_) (fun z => ?_)
      · have hf := it_pos z hf
        refine lv_lload hx hb dX10_likenessBy_164 (lv_at hl 3 rfl) ?_
        exact retL hc hr hlk hw hf dX10_likenessBy_166
      · have hf := it_neg z hf
        refine lv_lload hx hb dX10_likenessBy_107 (lv_at hl 3 rfl) ?_
        refine lv_aload_n hx hb dX10_likenessBy_109 rfl (lv_at hl 0 rfl) ?_
        refine gM0_6 hc hw fl_X10_27 dX10_likenessBy_110 ?_
        refine lv_iconst (v := (4 : Int32)) hx hb dX10_likenessBy_113 (by decide) ?_
        refine lv_iload_n hx hb dX10_likenessBy_114 rfl (lv_at hl 1 rfl) ?_
        refine lv_imul hx hb dX10_likenessBy_115 ?_
        refine lv_iload hx hb dX10_likenessBy_116 (lv_at hl 4 rfl) ?_
        refine lv_iadd hx hb dX10_likenessBy_118 ?_
        obtain ⟨z, hf⟩ := oi_some hf
        refine aM4 hc hw z dX10_likenessBy_119 ?_
        refine lv_i2l (v := (gA u 3 (((4 : Int32) * b1) + b7).toNatClampNeg).toInt64) hx hb dX10_likenessBy_120 rfl ?_
        refine lv_aload_n hx hb dX10_likenessBy_121 rfl (lv_at hl 0 rfl) ?_
        refine lv_iload_n hx hb dX10_likenessBy_122 rfl (lv_at hl 2 rfl) ?_
        obtain ⟨r3, u2, h1, hf⟩ := ob_some hf
        refine endI okM hw (runV_ok (As := [.int b2]) (rest := [.long ((gA u 3 (((4 : Int32) * b1) + b7).toNatClampNeg).toInt64), .long b5]) okM hc hw (c_X10_itemsOf l ev b2 u h1 H.size) kv_X10_itemsOf ml_X10_184 (rvM0 ev u) hl.1 rfl rfl (Nat.le_of_ble_eq_true rfl) (rm_le (by decide) (by decide)) dX10_likenessBy_123) (fun H locs hw => ?_)
        refine lv_i2l (v := r3.toInt64) hx hb dX10_likenessBy_126 rfl ?_
        refine lv_lmul hx hb dX10_likenessBy_127 ?_
        refine lv_aload_n hx hb dX10_likenessBy_128 rfl (lv_at hl 0 rfl) ?_
        refine gM0_6 hc hw fl_X10_27 dX10_likenessBy_129 ?_
        refine lv_iconst (v := (4 : Int32)) hx hb dX10_likenessBy_132 (by decide) ?_
        refine lv_iload_n hx hb dX10_likenessBy_133 rfl (lv_at hl 2 rfl) ?_
        refine lv_imul hx hb dX10_likenessBy_134 ?_
        refine lv_aload_n hx hb dX10_likenessBy_135 rfl (lv_at hl 0 rfl) ?_
        refine gM0_62 hc hw fl_X10_121 dX10_likenessBy_136 ?_
        refine lv_iload hx hb dX10_likenessBy_139 (lv_at hl 4 rfl) ?_
        obtain ⟨z, hf⟩ := oi_some hf
        refine aM35 hc hw z dX10_likenessBy_141 ?_
        refine lv_iadd hx hb dX10_likenessBy_142 ?_
        obtain ⟨z, hf⟩ := oi_some hf
        refine aM4 hc hw z dX10_likenessBy_143 ?_
        refine lv_i2l (v := (gA u2 3 (((4 : Int32) * b2) + (gA u2 30 b7.toNatClampNeg)).toNatClampNeg).toInt64) hx hb dX10_likenessBy_144 rfl ?_
        refine lv_aload_n hx hb dX10_likenessBy_145 rfl (lv_at hl 0 rfl) ?_
        refine lv_iload_n hx hb dX10_likenessBy_146 rfl (lv_at hl 1 rfl) ?_
        obtain ⟨r6, u5, h4, hf⟩ := ob_some hf
        refine endI okM hw (runV_ok (As := [.int b1]) (rest := [.long ((gA u2 3 (((4 : Int32) * b2) + (gA u2 30 b7.toNatClampNeg)).toNatClampNeg).toInt64), .long (((gA u 3 (((4 : Int32) * b1) + b7).toNatClampNeg).toInt64) * (r3.toInt64)), .long b5]) okM hc hw (c_X10_itemsOf l ev b1 u2 h4 H.size) kv_X10_itemsOf ml_X10_184 (rvM0 ev u2) hl.1 rfl rfl (Nat.le_of_ble_eq_true rfl) (rm_le (by decide) (by decide)) dX10_likenessBy_147) (fun H locs hw => ?_)
        refine lv_i2l (v := r6.toInt64) hx hb dX10_likenessBy_150 rfl ?_
        refine lv_lmul hx hb dX10_likenessBy_151 ?_
        obtain ⟨r9, u8, h7, hf⟩ := ob_some hf
        refine endL okM hw (runS_ok (As := [.long (((gA u 3 (((4 : Int32) * b1) + b7).toNatClampNeg).toInt64) * (r3.toInt64)), .long (((gA u2 3 (((4 : Int32) * b2) + (gA u2 30 b7.toNatClampNeg)).toNatClampNeg).toInt64) * (r6.toInt64))]) (rest := [.long b5]) okM hc hw (c_X10_apart l ev (((gA u 3 (((4 : Int32) * b1) + b7).toNatClampNeg).toInt64) * (r3.toInt64)) (((gA u2 3 (((4 : Int32) * b2) + (gA u2 30 b7.toNatClampNeg)).toNatClampNeg).toInt64) * (r6.toInt64)) u5 h7 H.size) ks_X10_apart ml_X10_374 hl.1 rfl rfl (Nat.le_of_ble_eq_true rfl) (rm_le (by decide) (by decide)) dX10_likenessBy_152) (fun H locs hw => ?_)
        refine lv_ladd hx hb dX10_likenessBy_155 ?_
        obtain ⟨x10, ex10, hf⟩ := lt_some hf
        refine topel ex10 ?_
        refine lv_lstore (lv' := [(5, .long x10), (0, .ref (ev.2.1 0)), (1, .int b1), (2, .int b2), (7, .int b7)]) hx hb dX10_likenessBy_156 hl (by decide) rfl (fun ls hl => ?_)
        obtain ⟨x11, ex11, hf⟩ := lt_some hf
        refine lv_iinc (v := x11) (lv' := [(7, .int x11), (5, .long x10), (0, .ref (ev.2.1 0)), (1, .int b1), (2, .int b2)]) hx hb dX10_likenessBy_158 hl (k := 4) rfl (by rw [ex11]; rfl) (by decide) rfl (fun ls hl => ?_)
        refine lv_goto (tgt := 101) hx hb dX10_likenessBy_161 (by decide) ?_
        exact hk101 b1 b2 x10 x11 u8 H locs ls hw (lv_sub hl [2, 3, 4, 1, 0] rfl) hf
  have wL30 : ∀ (n : Nat) (b1 : Int32) (b2 : Int32) (b4 : Int32) (b5 : Int32) (u : SS) (H : Heap) (locs : List Loc) (ls : Array Slot), VW wdM ev s u H locs → lv_has ls 8 [(0, .ref (ev.2.1 0)), (1, .int b1), (2, .int b2), (4, .int b4), (5, .int b5)] → f_X10_likenessBy_L30 n b1 b2 b4 b5 u = some (r, u') → W p l e (rmk 1) s m av below meth cd H locs 0 0 (ZL wdM ev s below av r u') (F0 m 30 ls []) := by
    intro n
    induction n with
    | zero =>
      intro b1 b2 b4 b5 u H locs ls hw hl hf
      cases hf
    | succ n hk30 =>
      intro b1 b2 b4 b5 u H locs ls hw hl hf
      have hf : b_X10_likenessBy_L30 (f_X10_likenessBy_L30 n) b1 b2 b4 b5 u = some (r, u') := hf
      unfold b_X10_likenessBy_L30 at hf
      refine lv_iload hx hb dX10_likenessBy_30 (lv_at hl 4 rfl) ?_
      refine lv_iconst (v := (4 : Int32)) hx hb dX10_likenessBy_32 (by decide) ?_
      refine lv_icmp_ge (tgt := 95) hx hb dX10_likenessBy_33 (by decide) (fun z => ?_) (fun z => ?_)
      · have hf := it_pos z hf
        refine lv_lconst (v := (0 : Int64)) hx hb dX10_likenessBy_95 (by decide) ?_
        refine lv_lstore (lv' := [(5, .long (0 : Int64)), (0, .ref (ev.2.1 0)), (1, .int b1), (2, .int b2), (4, .int b4)]) hx hb dX10_likenessBy_96 hl (by decide) rfl (fun ls hl => ?_)
        refine lv_iconst (v := (0 : Int32)) hx hb dX10_likenessBy_98 (by decide) ?_
        refine lv_istore (lv' := [(7, .int (0 : Int32)), (5, .long (0 : Int64)), (0, .ref (ev.2.1 0)), (1, .int b1), (2, .int b2), (4, .int b4)]) hx hb dX10_likenessBy_99 hl (by decide) rfl (fun ls hl => ?_)
        exact wL101 FU b1 b2 (0 : Int64) (0 : Int32) u H locs ls hw (lv_sub hl [2, 3, 4, 1, 0] rfl) hf
      · have hf := it_neg z hf
        refine lv_iload hx hb dX10_likenessBy_36 (lv_at hl 4 rfl) ?_
        refine lv_iload hx hb dX10_likenessBy_38 (lv_at hl 3 rfl) ?_
        refine lv_iconst (v := (4 : Int32)) hx hb dX10_likenessBy_40 (by decide) ?_
        refine lv_iload hx hb dX10_likenessBy_41 (lv_at hl 4 rfl) ?_
        refine lv_isub hx hb dX10_likenessBy_43 ?_
        obtain ⟨z, hf⟩ := it_none hf
        refine lv_irem hx hb dX10_likenessBy_44 z ?_
        refine lv_iadd hx hb dX10_likenessBy_45 ?_
        obtain ⟨x12, ex12, hf⟩ := lt_some hf
        refine tope ex12 ?_
        refine lv_istore (lv' := [(6, .int x12), (0, .ref (ev.2.1 0)), (1, .int b1), (2, .int b2), (4, .int b4), (5, .int b5)]) hx hb dX10_likenessBy_46 hl (by decide) rfl (fun ls hl => ?_)
        refine lv_iload hx hb dX10_likenessBy_48 (lv_at hl 4 rfl) ?_
        refine lv_iconst (v := (4 : Int32)) hx hb dX10_likenessBy_50 (by decide) ?_
        refine lv_iload hx hb dX10_likenessBy_51 (lv_at hl 5 rfl) ?_
        refine lv_isub hx hb dX10_likenessBy_53 ?_
        obtain ⟨z, hf⟩ := it_none hf
        refine lv_idiv hx hb dX10_likenessBy_54 z ?_
        obtain ⟨x13, ex13, hf⟩ := lt_some hf
        refine tope ex13 ?_
        refine lv_istore (lv' := [(4, .int x13), (6, .int x12), (0, .ref (ev.2.1 0)), (1, .int b1), (2, .int b2), (5, .int b5)]) hx hb dX10_likenessBy_55 hl (by decide) rfl (fun ls hl => ?_)
        refine lv_aload_n hx hb dX10_likenessBy_57 rfl (lv_at hl 2 rfl) ?_
        refine gM0_62 hc hw fl_X10_121 dX10_likenessBy_58 ?_
        refine lv_iload hx hb dX10_likenessBy_61 (lv_at hl 5 rfl) ?_
        obtain ⟨z, hf⟩ := oi_some hf
        refine aM35 hc hw z dX10_likenessBy_63 ?_
        obtain ⟨x14, ex14, hf⟩ := lt_some hf
        refine tope ex14 ?_
        refine lv_istore (lv' := [(7, .int x14), (4, .int x13), (6, .int x12), (0, .ref (ev.2.1 0)), (1, .int b1), (2, .int b2), (5, .int b5)]) hx hb dX10_likenessBy_64 hl (by decide) rfl (fun ls hl => ?_)
        refine lv_aload_n hx hb dX10_likenessBy_66 rfl (lv_at hl 3 rfl) ?_
        refine gM0_62 hc hw fl_X10_121 dX10_likenessBy_67 ?_
        refine lv_iload hx hb dX10_likenessBy_70 (lv_at hl 6 rfl) ?_
        refine lv_aload_n hx hb dX10_likenessBy_72 rfl (lv_at hl 3 rfl) ?_
        refine gM0_62 hc hw fl_X10_121 dX10_likenessBy_73 ?_
        refine lv_iload hx hb dX10_likenessBy_76 (lv_at hl 2 rfl) ?_
        obtain ⟨z, hf⟩ := oi_some hf
        refine aM35 hc hw z dX10_likenessBy_78 ?_
        obtain ⟨z, hf⟩ := oi_some hf
        refine tM35 hc hw z dX10_likenessBy_79 (fun H locs hw => ?_)
        obtain ⟨u15, eu15, hf⟩ := lt_some hf
        have hw := VW.nm eu15 hw
        refine lv_aload_n hx hb dX10_likenessBy_80 rfl (lv_at hl 3 rfl) ?_
        refine gM0_62 hc hw fl_X10_121 dX10_likenessBy_81 ?_
        refine lv_iload hx hb dX10_likenessBy_84 (lv_at hl 2 rfl) ?_
        refine lv_iload hx hb dX10_likenessBy_86 (lv_at hl 0 rfl) ?_
        obtain ⟨z, hf⟩ := oi_some hf
        refine tM35 hc hw z dX10_likenessBy_88 (fun H locs hw => ?_)
        obtain ⟨u16, eu16, hf⟩ := lt_some hf
        have hw := VW.nm eu16 hw
        obtain ⟨x17, ex17, hf⟩ := lt_some hf
        refine lv_iinc (v := x17) (lv' := [(5, .int x17), (7, .int x14), (4, .int x13), (6, .int x12), (0, .ref (ev.2.1 0)), (1, .int b1), (2, .int b2)]) hx hb dX10_likenessBy_89 hl (k := 6) rfl (by rw [ex17]; rfl) (by decide) rfl (fun ls hl => ?_)
        refine lv_goto (tgt := 30) hx hb dX10_likenessBy_92 (by decide) ?_
        exact hk30 b1 b2 x13 x17 u16 H locs ls hw (lv_sub hl [4, 5, 6, 2, 0] rfl) hf
  have wL6 : ∀ (n : Nat) (b1 : Int32) (b2 : Int32) (b4 : Int32) (b5 : Int32) (u : SS) (H : Heap) (locs : List Loc) (ls : Array Slot), VW wdM ev s u H locs → lv_has ls 8 [(0, .ref (ev.2.1 0)), (1, .int b1), (2, .int b2), (4, .int b4), (5, .int b5)] → f_X10_likenessBy_L6 n b1 b2 b4 b5 u = some (r, u') → W p l e (rmk 1) s m av below meth cd H locs 0 0 (ZL wdM ev s below av r u') (F0 m 6 ls []) := by
    intro n
    induction n with
    | zero =>
      intro b1 b2 b4 b5 u H locs ls hw hl hf
      cases hf
    | succ n hk6 =>
      intro b1 b2 b4 b5 u H locs ls hw hl hf
      have hf : b_X10_likenessBy_L6 (f_X10_likenessBy_L6 n) b1 b2 b4 b5 u = some (r, u') := hf
      unfold b_X10_likenessBy_L6 at hf
      refine lv_iload hx hb dX10_likenessBy_6 (lv_at hl 4 rfl) ?_
      refine lv_iconst (v := (4 : Int32)) hx hb dX10_likenessBy_8 (by decide) ?_
      refine lv_icmp_ge (tgt := 27) hx hb dX10_likenessBy_9 (by decide) (fun z => ?_) (fun z => ?_)
      · have hf := it_pos z hf
        refine lv_iconst (v := (0 : Int32)) hx hb dX10_likenessBy_27 (by decide) ?_
        refine lv_istore (lv' := [(5, .int (0 : Int32)), (0, .ref (ev.2.1 0)), (1, .int b1), (2, .int b2), (4, .int b4)]) hx hb dX10_likenessBy_28 hl (by decide) rfl (fun ls hl => ?_)
        exact wL30 FU b1 b2 b4 (0 : Int32) u H locs ls hw (lv_sub hl [1, 2, 3, 4, 0] rfl) hf
      · have hf := it_neg z hf
        refine lv_aload_n hx hb dX10_likenessBy_12 rfl (lv_at hl 0 rfl) ?_
        refine gM0_62 hc hw fl_X10_121 dX10_likenessBy_13 ?_
        refine lv_iload hx hb dX10_likenessBy_16 (lv_at hl 4 rfl) ?_
        refine lv_iload hx hb dX10_likenessBy_18 (lv_at hl 4 rfl) ?_
        obtain ⟨z, hf⟩ := oi_some hf
        refine tM35 hc hw z dX10_likenessBy_20 (fun H locs hw => ?_)
        obtain ⟨u18, eu18, hf⟩ := lt_some hf
        have hw := VW.nm eu18 hw
        obtain ⟨x19, ex19, hf⟩ := lt_some hf
        refine lv_iinc (v := x19) (lv' := [(5, .int x19), (0, .ref (ev.2.1 0)), (1, .int b1), (2, .int b2), (4, .int b4)]) hx hb dX10_likenessBy_21 hl (k := 4) rfl (by rw [ex19]; rfl) (by decide) rfl (fun ls hl => ?_)
        refine lv_goto (tgt := 6) hx hb dX10_likenessBy_24 (by decide) ?_
        exact hk6 b1 b2 b4 x19 u18 H locs ls hw (lv_sub hl [1, 2, 3, 4, 0] rfl) hf
  unfold f_X10_likenessBy at hf
  refine lv_iload_n hx hb dX10_likenessBy_0 rfl (lv_at hl 3 rfl) ?_
  refine lv_istore (lv' := [(4, .int a3), (0, .ref (ev.2.1 0)), (1, .int a1), (2, .int a2), (3, .int a3)]) hx hb dX10_likenessBy_1 hl (by decide) rfl (fun ls hl => ?_)
  refine lv_iconst (v := (0 : Int32)) hx hb dX10_likenessBy_3 (by decide) ?_
  refine lv_istore (lv' := [(5, .int (0 : Int32)), (4, .int a3), (0, .ref (ev.2.1 0)), (1, .int a1), (2, .int a2), (3, .int a3)]) hx hb dX10_likenessBy_4 hl (by decide) rfl (fun ls hl => ?_)
  exact wL6 FU a1 a2 a3 (0 : Int32) u H locs ls hw (lv_sub hl [2, 3, 4, 1, 0] rfl) hf
def f_X10_chanceOf_L37 (k5 : Int32 → Int32 → Int32 → Int32 → SS → Option (Int32 × SS)) (b1 : Int32) (b2 : Int32) (b4 : Int32) (q0 : Int32) (q1 : Int32) (u : SS) : Option (Int32 × SS) :=
  lt (q1 + q0) fun x7 => lt (b4 + (1 : Int32)) fun x8 => k5 b1 b2 x7 x8 u
def b_X10_chanceOf_L5 (k5 : Int32 → Int32 → Int32 → Int32 → SS → Option (Int32 × SS)) (b1 : Int32) (b2 : Int32) (b3 : Int32) (b4 : Int32) (u : SS) : Option (Int32 × SS) :=
  if (24 : Int32) ≤ b4 then (some (b3, u)) else (ob (f_X10_likenessBy b1 b2 b4 u) fun r3 u2 => ob (f_X10_likenessBy b1 b2 (0 : Int32) u2) fun r6 u5 => if 0 < (lg_cmp r3 r6) then (f_X10_chanceOf_L37 k5 b1 b2 b4 (0 : Int32) b3 u5) else (f_X10_chanceOf_L37 k5 b1 b2 b4 (1 : Int32) b3 u5))
def f_X10_chanceOf_L5 : Nat → Int32 → Int32 → Int32 → Int32 → SS → Option (Int32 × SS)
  | 0 => fun _ _ _ _ _ => none
  | n + 1 => b_X10_chanceOf_L5 (f_X10_chanceOf_L5 n)
def f_X10_chanceOf (a1 : Int32) (a2 : Int32) (u : SS) : Option (Int32 × SS) :=
  f_X10_chanceOf_L5 FU a1 a2 (0 : Int32) (0 : Int32) u
set_option maxHeartbeats 4000000 in
set_option maxRecDepth 100000 in
theorem c_X10_chanceOf (l : Launch) (ev : EV) (a1 : Int32) (a2 : Int32) (u : SS) {r : Int32} {u' : SS} (hf : f_X10_chanceOf a1 a2 u = some (r, u')) : MI wdM l yX10_chanceOf cX10_chanceOf 5 (some .int) 2 ev [.ref (ev.2.1 0), .int a1, .int a2] u r u' := by
  refine bodyI (by decide +kernel) rfl (Nat.le_of_ble_eq_true rfl) ?_
  intro p e s m below meth cd ls H locs hc hr hlk hw hl
  generalize hav : (List.toArray [.ref (ev.2.1 0), .int a1, .int a2] : Array Value) = av at hc ⊢
  obtain ⟨hx, hb, hml, hown, hts, hK, hZ⟩ := id hc
  have hl : lv_has ls 5 [(0, .ref (ev.2.1 0)), (1, .int a1), (2, .int a2)] := hl
  have wL37 : ∀ (k5 : Int32 → Int32 → Int32 → Int32 → SS → Option (Int32 × SS)) (hk5 : ∀ (b1 : Int32) (b2 : Int32) (b3 : Int32) (b4 : Int32) (u : SS) (H : Heap) (locs : List Loc) (ls : Array Slot), VW wdM ev s u H locs → lv_has ls 5 [(0, .ref (ev.2.1 0)), (1, .int b1), (2, .int b2), (3, .int b3), (4, .int b4)] → k5 b1 b2 b3 b4 u = some (r, u') → W p l e (rmk 2) s m av below meth cd H locs 0 0 (ZI wdM ev s below av r u') (F0 m 5 ls [])) (b1 : Int32) (b2 : Int32) (b4 : Int32) (q0 : Int32) (q1 : Int32) (u : SS) (H : Heap) (locs : List Loc) (ls : Array Slot), VW wdM ev s u H locs → lv_has ls 5 [(0, .ref (ev.2.1 0)), (1, .int b1), (2, .int b2), (4, .int b4)] → f_X10_chanceOf_L37 k5 b1 b2 b4 q0 q1 u = some (r, u') → W p l e (rmk 2) s m av below meth cd H locs 0 0 (ZI wdM ev s below av r u') (F0 m 37 ls [.int q0, .int q1]) := by
    intro k5 hk5 b1 b2 b4 q0 q1 u H locs ls hw hl hf
    unfold f_X10_chanceOf_L37 at hf
    refine lv_iadd hx hb dX10_chanceOf_37 ?_
    obtain ⟨x7, ex7, hf⟩ := lt_some hf
    refine tope ex7 ?_
    refine lv_istore_n (lv' := [(3, .int x7), (0, .ref (ev.2.1 0)), (1, .int b1), (2, .int b2), (4, .int b4)]) hx hb dX10_chanceOf_38 rfl hl (by decide) rfl (fun ls hl => ?_)
    obtain ⟨x8, ex8, hf⟩ := lt_some hf
    refine lv_iinc (v := x8) (lv' := [(4, .int x8), (3, .int x7), (0, .ref (ev.2.1 0)), (1, .int b1), (2, .int b2)]) hx hb dX10_chanceOf_39 hl (k := 4) rfl (by rw [ex8]; rfl) (by decide) rfl (fun ls hl => ?_)
    refine lv_goto (tgt := 5) hx hb dX10_chanceOf_42 (by decide) ?_
    exact hk5 b1 b2 x7 x8 u H locs ls hw (lv_sub hl [2, 3, 4, 1, 0] rfl) hf
  have wL5 : ∀ (n : Nat) (b1 : Int32) (b2 : Int32) (b3 : Int32) (b4 : Int32) (u : SS) (H : Heap) (locs : List Loc) (ls : Array Slot), VW wdM ev s u H locs → lv_has ls 5 [(0, .ref (ev.2.1 0)), (1, .int b1), (2, .int b2), (3, .int b3), (4, .int b4)] → f_X10_chanceOf_L5 n b1 b2 b3 b4 u = some (r, u') → W p l e (rmk 2) s m av below meth cd H locs 0 0 (ZI wdM ev s below av r u') (F0 m 5 ls []) := by
    intro n
    induction n with
    | zero =>
      intro b1 b2 b3 b4 u H locs ls hw hl hf
      cases hf
    | succ n hk5 =>
      intro b1 b2 b3 b4 u H locs ls hw hl hf
      have hf : b_X10_chanceOf_L5 (f_X10_chanceOf_L5 n) b1 b2 b3 b4 u = some (r, u') := hf
      unfold b_X10_chanceOf_L5 at hf
      refine lv_iload hx hb dX10_chanceOf_5 (lv_at hl 4 rfl) ?_
      refine lv_bipush (v := (24 : Int32)) hx hb dX10_chanceOf_7 (by decide) ?_
      refine lv_icmp_ge (tgt := 45) hx hb dX10_chanceOf_9 (by decide) (fun z => ?_) (fun z => ?_)
      · have hf := it_pos z hf
        refine lv_iload_n hx hb dX10_chanceOf_45 rfl (lv_at hl 3 rfl) ?_
        exact retI hc hr hlk hw hf dX10_chanceOf_46
      · have hf := it_neg z hf
        refine lv_iload_n hx hb dX10_chanceOf_12 rfl (lv_at hl 3 rfl) ?_
        refine lv_aload_n hx hb dX10_chanceOf_13 rfl (lv_at hl 0 rfl) ?_
        refine lv_iload_n hx hb dX10_chanceOf_14 rfl (lv_at hl 1 rfl) ?_
        refine lv_iload_n hx hb dX10_chanceOf_15 rfl (lv_at hl 2 rfl) ?_
        refine lv_iload hx hb dX10_chanceOf_16 (lv_at hl 4 rfl) ?_
        obtain ⟨r3, u2, h1, hf⟩ := ob_some hf
        refine endL okM hw (runV_ok (As := [.int b1, .int b2, .int b4]) (rest := [.int b3]) okM hc hw (c_X10_likenessBy l ev b1 b2 b4 u h1 H.size) kv_X10_likenessBy ml_X10_377 (rvM0 ev u) hl.1 rfl rfl (Nat.le_of_ble_eq_true rfl) (rm_le (by decide) (by decide)) dX10_chanceOf_18) (fun H locs hw => ?_)
        refine lv_aload_n hx hb dX10_chanceOf_21 rfl (lv_at hl 0 rfl) ?_
        refine lv_iload_n hx hb dX10_chanceOf_22 rfl (lv_at hl 1 rfl) ?_
        refine lv_iload_n hx hb dX10_chanceOf_23 rfl (lv_at hl 2 rfl) ?_
        refine lv_iconst (v := (0 : Int32)) hx hb dX10_chanceOf_24 (by decide) ?_
        obtain ⟨r6, u5, h4, hf⟩ := ob_some hf
        refine endL okM hw (runV_ok (As := [.int b1, .int b2, .int (0 : Int32)]) (rest := [.long r3, .int b3]) okM hc hw (c_X10_likenessBy l ev b1 b2 (0 : Int32) u2 h4 H.size) kv_X10_likenessBy ml_X10_377 (rvM0 ev u2) hl.1 rfl rfl (Nat.le_of_ble_eq_true rfl) (rm_le (by decide) (by decide)) dX10_chanceOf_25) (fun H locs hw => ?_)
        refine W.lcmp hx hb dX10_chanceOf_28 ?_
        refine lv_if_gt (tgt := 36) hx hb dX10_chanceOf_29 (by decide) (fun z => ?_) (fun z => ?_)
        · have hf := it_pos z hf
          refine lv_iconst (v := (0 : Int32)) hx hb dX10_chanceOf_36 (by decide) ?_
          exact wL37 (f_X10_chanceOf_L5 n) hk5 b1 b2 b4 (0 : Int32) b3 u5 H locs ls hw (lv_sub hl [0, 1, 2, 4] rfl) hf
        · have hf := it_neg z hf
          refine lv_iconst (v := (1 : Int32)) hx hb dX10_chanceOf_32 (by decide) ?_
          refine lv_goto (tgt := 37) hx hb dX10_chanceOf_33 (by decide) ?_
          exact wL37 (f_X10_chanceOf_L5 n) hk5 b1 b2 b4 (1 : Int32) b3 u5 H locs ls hw (lv_sub hl [0, 1, 2, 4] rfl) hf
  unfold f_X10_chanceOf at hf
  refine lv_iconst (v := (0 : Int32)) hx hb dX10_chanceOf_0 (by decide) ?_
  refine lv_istore_n (lv' := [(3, .int (0 : Int32)), (0, .ref (ev.2.1 0)), (1, .int a1), (2, .int a2)]) hx hb dX10_chanceOf_1 rfl hl (by decide) rfl (fun ls hl => ?_)
  refine lv_iconst (v := (0 : Int32)) hx hb dX10_chanceOf_2 (by decide) ?_
  refine lv_istore (lv' := [(4, .int (0 : Int32)), (3, .int (0 : Int32)), (0, .ref (ev.2.1 0)), (1, .int a1), (2, .int a2)]) hx hb dX10_chanceOf_3 hl (by decide) rfl (fun ls hl => ?_)
  exact wL5 FU a1 a2 (0 : Int32) (0 : Int32) u H locs ls hw (lv_sub hl [2, 3, 4, 1, 0] rfl) hf
def f_X10_wrongTwo (a1 : Int32) (a2 : Int32) (a3 : Int32) (u : SS) : Option (Int32 × SS) :=
  ob (f_X10_isLot a1 u) fun r3 u2 => if r3 = 0 then (some ((-1 : Int32), u2)) else (ob (f_X10_isBidder a2 u2) fun r6 u5 => if r6 = 0 then (some ((-1 : Int32), u5)) else (ob (f_X10_isBidder a3 u5) fun r9 u8 => if r9 = 0 then (some ((-1 : Int32), u8)) else (if a2 = a3 then (some ((-1 : Int32), u8)) else (oi (((8 : Int32) * a1) + a2) 48 (if (gA u8 1 (((8 : Int32) * a1) + a2).toNatClampNeg) = 0 then (some ((-5 : Int32), u8)) else (oi (((8 : Int32) * a1) + a3) 48 (if (gA u8 1 (((8 : Int32) * a1) + a3).toNatClampNeg) = 0 then (some ((-5 : Int32), u8)) else (some ((0 : Int32), u8)))))))))
set_option maxHeartbeats 4000000 in
set_option maxRecDepth 100000 in
theorem c_X10_wrongTwo (l : Launch) (ev : EV) (a1 : Int32) (a2 : Int32) (a3 : Int32) (u : SS) {r : Int32} {u' : SS} (hf : f_X10_wrongTwo a1 a2 a3 u = some (r, u')) : MI wdM l yX10_wrongTwo cX10_wrongTwo 4 (some .int) 2 ev [.ref (ev.2.1 0), .int a1, .int a2, .int a3] u r u' := by
  refine bodyI (by decide +kernel) rfl (Nat.le_of_ble_eq_true rfl) ?_
  intro p e s m below meth cd ls H locs hc hr hlk hw hl
  generalize hav : (List.toArray [.ref (ev.2.1 0), .int a1, .int a2, .int a3] : Array Value) = av at hc ⊢
  obtain ⟨hx, hb, hml, hown, hts, hK, hZ⟩ := id hc
  have hl : lv_has ls 4 [(0, .ref (ev.2.1 0)), (1, .int a1), (2, .int a2), (3, .int a3)] := hl
  unfold f_X10_wrongTwo at hf
  refine lv_aload_n hx hb dX10_wrongTwo_0 rfl (lv_at hl 0 rfl) ?_
  refine lv_iload_n hx hb dX10_wrongTwo_1 rfl (lv_at hl 1 rfl) ?_
  obtain ⟨r3, u2, h1, hf⟩ := ob_some hf
  refine endI okM hw (runV_ok (As := [.int a1]) (rest := []) okM hc hw (c_X10_isLot l ev a1 u h1 H.size) kv_X10_isLot ml_X10_170 (rvM0 ev u) hl.1 rfl rfl (Nat.le_of_ble_eq_true rfl) (rm_le (by decide) (by decide)) dX10_wrongTwo_2) (fun H locs hw => ?_)
  refine lv_if_eq (tgt := 27) hx hb dX10_wrongTwo_5 (by decide) (fun z => ?_) (fun z => ?_)
  · have hf := it_pos z hf
    refine lv_iconst (v := (-1 : Int32)) hx hb dX10_wrongTwo_27 (by decide) ?_
    exact retI hc hr hlk hw hf dX10_wrongTwo_28
  · have hf := it_neg z hf
    refine lv_iload_n hx hb dX10_wrongTwo_8 rfl (lv_at hl 2 rfl) ?_
    obtain ⟨r6, u5, h4, hf⟩ := ob_some hf
    refine endI okM hw (runS_ok (As := [.int a2]) (rest := []) okM hc hw (c_X10_isBidder l ev a2 u2 h4 H.size) ks_X10_isBidder ml_X10_166 hl.1 rfl rfl (Nat.le_of_ble_eq_true rfl) (rm_le (by decide) (by decide)) dX10_wrongTwo_9) (fun H locs hw => ?_)
    refine lv_if_eq (tgt := 27) hx hb dX10_wrongTwo_12 (by decide) (fun z => ?_) (fun z => ?_)
    · have hf := it_pos z hf
      refine lv_iconst (v := (-1 : Int32)) hx hb dX10_wrongTwo_27 (by decide) ?_
      exact retI hc hr hlk hw hf dX10_wrongTwo_28
    · have hf := it_neg z hf
      refine lv_iload_n hx hb dX10_wrongTwo_15 rfl (lv_at hl 3 rfl) ?_
      obtain ⟨r9, u8, h7, hf⟩ := ob_some hf
      refine endI okM hw (runS_ok (As := [.int a3]) (rest := []) okM hc hw (c_X10_isBidder l ev a3 u5 h7 H.size) ks_X10_isBidder ml_X10_166 hl.1 rfl rfl (Nat.le_of_ble_eq_true rfl) (rm_le (by decide) (by decide)) dX10_wrongTwo_16) (fun H locs hw => ?_)
      refine lv_if_eq (tgt := 27) hx hb dX10_wrongTwo_19 (by decide) (fun z => ?_) (fun z => ?_)
      · have hf := it_pos z hf
        refine lv_iconst (v := (-1 : Int32)) hx hb dX10_wrongTwo_27 (by decide) ?_
        exact retI hc hr hlk hw hf dX10_wrongTwo_28
      · have hf := it_neg z hf
        refine lv_iload_n hx hb dX10_wrongTwo_22 rfl (lv_at hl 2 rfl) ?_
        refine lv_iload_n hx hb dX10_wrongTwo_23 rfl (lv_at hl 3 rfl) ?_
        refine lv_icmp_ne (tgt := 29) hx hb dX10_wrongTwo_24 (by decide) (fun z => ?_) (fun z => ?_)
        · have hf := it_neg z hf
          refine lv_aload_n hx hb dX10_wrongTwo_29 rfl (lv_at hl 0 rfl) ?_
          refine gM0_4 hc hw fl_X10_20 dX10_wrongTwo_30 ?_
          refine lv_bipush (v := (8 : Int32)) hx hb dX10_wrongTwo_33 (by decide) ?_
          refine lv_iload_n hx hb dX10_wrongTwo_35 rfl (lv_at hl 1 rfl) ?_
          refine lv_imul hx hb dX10_wrongTwo_36 ?_
          refine lv_iload_n hx hb dX10_wrongTwo_37 rfl (lv_at hl 2 rfl) ?_
          refine lv_iadd hx hb dX10_wrongTwo_38 ?_
          obtain ⟨z, hf⟩ := oi_some hf
          refine aM2 hc hw z dX10_wrongTwo_39 ?_
          refine lv_if_eq (tgt := 61) hx hb dX10_wrongTwo_40 (by decide) (fun z => ?_) (fun z => ?_)
          · have hf := it_pos z hf
            refine lv_bipush (v := (-5 : Int32)) hx hb dX10_wrongTwo_61 (by decide) ?_
            exact retI hc hr hlk hw hf dX10_wrongTwo_63
          · have hf := it_neg z hf
            refine lv_aload_n hx hb dX10_wrongTwo_43 rfl (lv_at hl 0 rfl) ?_
            refine gM0_4 hc hw fl_X10_20 dX10_wrongTwo_44 ?_
            refine lv_bipush (v := (8 : Int32)) hx hb dX10_wrongTwo_47 (by decide) ?_
            refine lv_iload_n hx hb dX10_wrongTwo_49 rfl (lv_at hl 1 rfl) ?_
            refine lv_imul hx hb dX10_wrongTwo_50 ?_
            refine lv_iload_n hx hb dX10_wrongTwo_51 rfl (lv_at hl 3 rfl) ?_
            refine lv_iadd hx hb dX10_wrongTwo_52 ?_
            obtain ⟨z, hf⟩ := oi_some hf
            refine aM2 hc hw z dX10_wrongTwo_53 ?_
            refine lv_if_eq (tgt := 61) hx hb dX10_wrongTwo_54 (by decide) (fun z => ?_) (fun z => ?_)
            · have hf := it_pos z hf
              refine lv_bipush (v := (-5 : Int32)) hx hb dX10_wrongTwo_61 (by decide) ?_
              exact retI hc hr hlk hw hf dX10_wrongTwo_63
            · have hf := it_neg z hf
              refine lv_iconst (v := (0 : Int32)) hx hb dX10_wrongTwo_57 (by decide) ?_
              refine lv_goto (tgt := 63) hx hb dX10_wrongTwo_58 (by decide) ?_
              exact retI hc hr hlk hw hf dX10_wrongTwo_63
        · have hf := it_pos z hf
          refine lv_iconst (v := (-1 : Int32)) hx hb dX10_wrongTwo_27 (by decide) ?_
          exact retI hc hr hlk hw hf dX10_wrongTwo_28
def f_X10_likeness (a1 : Int32) (a2 : Int32) (a3 : Int32) (u : SS) : Option (Int64 × SS) :=
  ob (f_X10_wrongTwo a1 a2 a3 u) fun r3 u2 => if 0 ≤ r3 then (ob (f_X10_likenessBy (((8 : Int32) * a1) + a2) (((8 : Int32) * a1) + a3) (0 : Int32) u2) fun r6 u5 => some (r6, u5)) else (ob (f_X10_refuseFar r3 u2) fun r9 u8 => some (r9, u8))
set_option maxHeartbeats 4000000 in
set_option maxRecDepth 100000 in
theorem c_X10_likeness (l : Launch) (ev : EV) (a1 : Int32) (a2 : Int32) (a3 : Int32) (u : SS) {r : Int64} {u' : SS} (hf : f_X10_likeness a1 a2 a3 u = some (r, u')) : ML wdM l yX10_likeness cX10_likeness 5 (some .long) 3 ev [.ref (ev.2.1 0), .int a1, .int a2, .int a3] u r u' := by
  refine bodyL (by decide +kernel) rfl (Nat.le_of_ble_eq_true rfl) ?_
  intro p e s m below meth cd ls H locs hc hr hlk hw hl
  generalize hav : (List.toArray [.ref (ev.2.1 0), .int a1, .int a2, .int a3] : Array Value) = av at hc ⊢
  obtain ⟨hx, hb, hml, hown, hts, hK, hZ⟩ := id hc
  have hl : lv_has ls 5 [(0, .ref (ev.2.1 0)), (1, .int a1), (2, .int a2), (3, .int a3)] := hl
  unfold f_X10_likeness at hf
  refine lv_aload_n hx hb dX10_likeness_0 rfl (lv_at hl 0 rfl) ?_
  refine lv_iload_n hx hb dX10_likeness_1 rfl (lv_at hl 1 rfl) ?_
  refine lv_iload_n hx hb dX10_likeness_2 rfl (lv_at hl 2 rfl) ?_
  refine lv_iload_n hx hb dX10_likeness_3 rfl (lv_at hl 3 rfl) ?_
  obtain ⟨r3, u2, h1, hf⟩ := ob_some hf
  refine endI okM hw (runV_ok (As := [.int a1, .int a2, .int a3]) (rest := []) okM hc hw (c_X10_wrongTwo l ev a1 a2 a3 u h1 H.size) kv_X10_wrongTwo ml_X10_381 (rvM0 ev u) hl.1 rfl rfl (Nat.le_of_ble_eq_true rfl) (rm_le (by decide) (by decide)) dX10_likeness_4) (fun H locs hw => ?_)
  refine lv_istore (lv' := [(4, .int r3), (0, .ref (ev.2.1 0)), (1, .int a1), (2, .int a2), (3, .int a3)]) hx hb dX10_likeness_7 hl (by decide) rfl (fun ls hl => ?_)
  refine lv_iload hx hb dX10_likeness_9 (lv_at hl 0 rfl) ?_
  refine lv_if_ge (tgt := 23) hx hb dX10_likeness_11 (by decide) (fun z => ?_) (fun z => ?_)
  · have hf := it_pos z hf
    refine lv_aload_n hx hb dX10_likeness_23 rfl (lv_at hl 1 rfl) ?_
    refine lv_bipush (v := (8 : Int32)) hx hb dX10_likeness_24 (by decide) ?_
    refine lv_iload_n hx hb dX10_likeness_26 rfl (lv_at hl 2 rfl) ?_
    refine lv_imul hx hb dX10_likeness_27 ?_
    refine lv_iload_n hx hb dX10_likeness_28 rfl (lv_at hl 3 rfl) ?_
    refine lv_iadd hx hb dX10_likeness_29 ?_
    refine lv_bipush (v := (8 : Int32)) hx hb dX10_likeness_30 (by decide) ?_
    refine lv_iload_n hx hb dX10_likeness_32 rfl (lv_at hl 2 rfl) ?_
    refine lv_imul hx hb dX10_likeness_33 ?_
    refine lv_iload_n hx hb dX10_likeness_34 rfl (lv_at hl 4 rfl) ?_
    refine lv_iadd hx hb dX10_likeness_35 ?_
    refine lv_iconst (v := (0 : Int32)) hx hb dX10_likeness_36 (by decide) ?_
    obtain ⟨r6, u5, h4, hf⟩ := ob_some hf
    refine endL okM hw (runV_ok (As := [.int (((8 : Int32) * a1) + a2), .int (((8 : Int32) * a1) + a3), .int (0 : Int32)]) (rest := []) okM hc hw (c_X10_likenessBy l ev (((8 : Int32) * a1) + a2) (((8 : Int32) * a1) + a3) (0 : Int32) u2 h4 H.size) kv_X10_likenessBy ml_X10_377 (rvM0 ev u2) hl.1 rfl rfl (Nat.le_of_ble_eq_true rfl) (rm_le (by decide) (by decide)) dX10_likeness_37) (fun H locs hw => ?_)
    exact retL hc hr hlk hw hf dX10_likeness_40
  · have hf := it_neg z hf
    refine lv_aload_n hx hb dX10_likeness_14 rfl (lv_at hl 1 rfl) ?_
    refine lv_iload hx hb dX10_likeness_15 (lv_at hl 0 rfl) ?_
    obtain ⟨r9, u8, h7, hf⟩ := ob_some hf
    refine endL okM hw (runV_ok (As := [.int r3]) (rest := []) okM hc hw (c_X10_refuseFar l ev r3 u2 h7 H.size) kv_X10_refuseFar ml_X10_308 (rvM0 ev u2) hl.1 rfl rfl (Nat.le_of_ble_eq_true rfl) (rm_le (by decide) (by decide)) dX10_likeness_17) (fun H locs hw => ?_)
    refine lv_goto (tgt := 40) hx hb dX10_likeness_20 (by decide) ?_
    exact retL hc hr hlk hw hf dX10_likeness_40
def f_X10_chance (a1 : Int32) (a2 : Int32) (a3 : Int32) (u : SS) : Option (Int32 × SS) :=
  ob (f_X10_wrongTwo a1 a2 a3 u) fun r3 u2 => if 0 ≤ r3 then (ob (f_X10_chanceOf (((8 : Int32) * a1) + a2) (((8 : Int32) * a1) + a3) u2) fun r6 u5 => some (r6, u5)) else (ob (f_X10_refuse r3 u2) fun r9 u8 => some (r9, u8))
set_option maxHeartbeats 4000000 in
set_option maxRecDepth 100000 in
theorem c_X10_chance (l : Launch) (ev : EV) (a1 : Int32) (a2 : Int32) (a3 : Int32) (u : SS) {r : Int32} {u' : SS} (hf : f_X10_chance a1 a2 a3 u = some (r, u')) : MI wdM l yX10_chance cX10_chance 5 (some .int) 3 ev [.ref (ev.2.1 0), .int a1, .int a2, .int a3] u r u' := by
  refine bodyI (by decide +kernel) rfl (Nat.le_of_ble_eq_true rfl) ?_
  intro p e s m below meth cd ls H locs hc hr hlk hw hl
  generalize hav : (List.toArray [.ref (ev.2.1 0), .int a1, .int a2, .int a3] : Array Value) = av at hc ⊢
  obtain ⟨hx, hb, hml, hown, hts, hK, hZ⟩ := id hc
  have hl : lv_has ls 5 [(0, .ref (ev.2.1 0)), (1, .int a1), (2, .int a2), (3, .int a3)] := hl
  unfold f_X10_chance at hf
  refine lv_aload_n hx hb dX10_chance_0 rfl (lv_at hl 0 rfl) ?_
  refine lv_iload_n hx hb dX10_chance_1 rfl (lv_at hl 1 rfl) ?_
  refine lv_iload_n hx hb dX10_chance_2 rfl (lv_at hl 2 rfl) ?_
  refine lv_iload_n hx hb dX10_chance_3 rfl (lv_at hl 3 rfl) ?_
  obtain ⟨r3, u2, h1, hf⟩ := ob_some hf
  refine endI okM hw (runV_ok (As := [.int a1, .int a2, .int a3]) (rest := []) okM hc hw (c_X10_wrongTwo l ev a1 a2 a3 u h1 H.size) kv_X10_wrongTwo ml_X10_381 (rvM0 ev u) hl.1 rfl rfl (Nat.le_of_ble_eq_true rfl) (rm_le (by decide) (by decide)) dX10_chance_4) (fun H locs hw => ?_)
  refine lv_istore (lv' := [(4, .int r3), (0, .ref (ev.2.1 0)), (1, .int a1), (2, .int a2), (3, .int a3)]) hx hb dX10_chance_7 hl (by decide) rfl (fun ls hl => ?_)
  refine lv_iload hx hb dX10_chance_9 (lv_at hl 0 rfl) ?_
  refine lv_if_ge (tgt := 23) hx hb dX10_chance_11 (by decide) (fun z => ?_) (fun z => ?_)
  · have hf := it_pos z hf
    refine lv_aload_n hx hb dX10_chance_23 rfl (lv_at hl 1 rfl) ?_
    refine lv_bipush (v := (8 : Int32)) hx hb dX10_chance_24 (by decide) ?_
    refine lv_iload_n hx hb dX10_chance_26 rfl (lv_at hl 2 rfl) ?_
    refine lv_imul hx hb dX10_chance_27 ?_
    refine lv_iload_n hx hb dX10_chance_28 rfl (lv_at hl 3 rfl) ?_
    refine lv_iadd hx hb dX10_chance_29 ?_
    refine lv_bipush (v := (8 : Int32)) hx hb dX10_chance_30 (by decide) ?_
    refine lv_iload_n hx hb dX10_chance_32 rfl (lv_at hl 2 rfl) ?_
    refine lv_imul hx hb dX10_chance_33 ?_
    refine lv_iload_n hx hb dX10_chance_34 rfl (lv_at hl 4 rfl) ?_
    refine lv_iadd hx hb dX10_chance_35 ?_
    obtain ⟨r6, u5, h4, hf⟩ := ob_some hf
    refine endI okM hw (runV_ok (As := [.int (((8 : Int32) * a1) + a2), .int (((8 : Int32) * a1) + a3)]) (rest := []) okM hc hw (c_X10_chanceOf l ev (((8 : Int32) * a1) + a2) (((8 : Int32) * a1) + a3) u2 h4 H.size) kv_X10_chanceOf ml_X10_385 (rvM0 ev u2) hl.1 rfl rfl (Nat.le_of_ble_eq_true rfl) (rm_le (by decide) (by decide)) dX10_chance_36) (fun H locs hw => ?_)
    exact retI hc hr hlk hw hf dX10_chance_39
  · have hf := it_neg z hf
    refine lv_aload_n hx hb dX10_chance_14 rfl (lv_at hl 1 rfl) ?_
    refine lv_iload hx hb dX10_chance_15 (lv_at hl 0 rfl) ?_
    obtain ⟨r9, u8, h7, hf⟩ := ob_some hf
    refine endI okM hw (runV_ok (As := [.int r3]) (rest := []) okM hc hw (c_X10_refuse l ev r3 u2 h7 H.size) kv_X10_refuse ml_X10_151 (rvM0 ev u2) hl.1 rfl rfl (Nat.le_of_ble_eq_true rfl) (rm_le (by decide) (by decide)) dX10_chance_17) (fun H locs hw => ?_)
    refine lv_goto (tgt := 39) hx hb dX10_chance_20 (by decide) ?_
    exact retI hc hr hlk hw hf dX10_chance_39
def f_X10_areJoined (a1 : Int32) (a2 : Int32) (u : SS) : Option (Int32 × SS) :=
  ob (f_X10_likenessBy a1 a2 (0 : Int32) u) fun r3 u2 => if (lg_cmp r3 (0 : Int64)) = 0 then (some ((1 : Int32), u2)) else (ob (f_X10_chanceOf a1 a2 u2) fun r6 u5 => if r6 = (1 : Int32) then (ob (f_X10_itemsOf a1 u5) fun r9 u8 => ob (f_X10_itemsOf a2 u8) fun r12 u11 => if 0 < (lg_cmp ((50 : Int64) * r3) ((r9.toInt64) * (r12.toInt64))) then (some ((0 : Int32), u11)) else (some ((1 : Int32), u11))) else (some ((0 : Int32), u5)))
set_option maxHeartbeats 4000000 in
set_option maxRecDepth 100000 in
theorem c_X10_areJoined (l : Launch) (ev : EV) (a1 : Int32) (a2 : Int32) (u : SS) {r : Int32} {u' : SS} (hf : f_X10_areJoined a1 a2 u = some (r, u')) : MI wdM l yX10_areJoined cX10_areJoined 5 (some .boolean) 3 ev [.ref (ev.2.1 0), .int a1, .int a2] u r u' := by
  refine bodyI (by decide +kernel) rfl (Nat.le_of_ble_eq_true rfl) ?_
  intro p e s m below meth cd ls H locs hc hr hlk hw hl
  generalize hav : (List.toArray [.ref (ev.2.1 0), .int a1, .int a2] : Array Value) = av at hc ⊢
  obtain ⟨hx, hb, hml, hown, hts, hK, hZ⟩ := id hc
  have hl : lv_has ls 5 [(0, .ref (ev.2.1 0)), (1, .int a1), (2, .int a2)] := hl
  unfold f_X10_areJoined at hf
  refine lv_aload_n hx hb dX10_areJoined_0 rfl (lv_at hl 0 rfl) ?_
  refine lv_iload_n hx hb dX10_areJoined_1 rfl (lv_at hl 1 rfl) ?_
  refine lv_iload_n hx hb dX10_areJoined_2 rfl (lv_at hl 2 rfl) ?_
  refine lv_iconst (v := (0 : Int32)) hx hb dX10_areJoined_3 (by decide) ?_
  obtain ⟨r3, u2, h1, hf⟩ := ob_some hf
  refine endL okM hw (runV_ok (As := [.int a1, .int a2, .int (0 : Int32)]) (rest := []) okM hc hw (c_X10_likenessBy l ev a1 a2 (0 : Int32) u h1 H.size) kv_X10_likenessBy ml_X10_377 (rvM0 ev u) hl.1 rfl rfl (Nat.le_of_ble_eq_true rfl) (rm_le (by decide) (by decide)) dX10_areJoined_4) (fun H locs hw => ?_)
  refine lv_lstore_n (lv' := [(3, .long r3), (0, .ref (ev.2.1 0)), (1, .int a1), (2, .int a2)]) hx hb dX10_areJoined_7 rfl hl (by decide) rfl (fun ls hl => ?_)
  refine lv_lload_n hx hb dX10_areJoined_8 rfl (lv_at hl 0 rfl) ?_
  refine lv_lconst (v := (0 : Int64)) hx hb dX10_areJoined_9 (by decide) ?_
  refine W.lcmp hx hb dX10_areJoined_10 ?_
  refine lv_if_eq (tgt := 46) hx hb dX10_areJoined_11 (by decide) (fun z => ?_) (fun z => ?_)
  · have hf := it_pos z hf
    refine lv_iconst (v := (1 : Int32)) hx hb dX10_areJoined_46 (by decide) ?_
    refine lv_goto (tgt := 51) hx hb dX10_areJoined_47 (by decide) ?_
    exact retZ hc hr hlk hw nz1 hf dX10_areJoined_51
  · have hf := it_neg z hf
    refine lv_aload_n hx hb dX10_areJoined_14 rfl (lv_at hl 1 rfl) ?_
    refine lv_iload_n hx hb dX10_areJoined_15 rfl (lv_at hl 2 rfl) ?_
    refine lv_iload_n hx hb dX10_areJoined_16 rfl (lv_at hl 3 rfl) ?_
    obtain ⟨r6, u5, h4, hf⟩ := ob_some hf
    refine endI okM hw (runV_ok (As := [.int a1, .int a2]) (rest := []) okM hc hw (c_X10_chanceOf l ev a1 a2 u2 h4 H.size) kv_X10_chanceOf ml_X10_385 (rvM0 ev u2) hl.1 rfl rfl (Nat.le_of_ble_eq_true rfl) (rm_le (by decide) (by decide)) dX10_areJoined_17) (fun H locs hw => ?_)
    refine lv_iconst (v := (1 : Int32)) hx hb dX10_areJoined_20 (by decide) ?_
    refine lv_icmp_ne (tgt := 50) hx hb dX10_areJoined_21 (by decide) (fun z => ?_) (fun z => ?_)
    · have hf := it_neg z hf
      refine lv_iconst (v := (0 : Int32)) hx hb dX10_areJoined_50 (by decide) ?_
      exact retZ hc hr hlk hw nz0 hf dX10_areJoined_51
    · have hf := it_pos z hf
      refine lv_ldc2 (v := (50 : Int64)) hx hb hown (hts _ ct_X10_388) dX10_areJoined_24 ?_
      refine lv_lload_n hx hb dX10_areJoined_27 rfl (lv_at hl 0 rfl) ?_
      refine lv_lmul hx hb dX10_areJoined_28 ?_
      refine lv_aload_n hx hb dX10_areJoined_29 rfl (lv_at hl 1 rfl) ?_
      refine lv_iload_n hx hb dX10_areJoined_30 rfl (lv_at hl 2 rfl) ?_
      obtain ⟨r9, u8, h7, hf⟩ := ob_some hf
      refine endI okM hw (runV_ok (As := [.int a1]) (rest := [.long ((50 : Int64) * r3)]) okM hc hw (c_X10_itemsOf l ev a1 u5 h7 H.size) kv_X10_itemsOf ml_X10_184 (rvM0 ev u5) hl.1 rfl rfl (Nat.le_of_ble_eq_true rfl) (rm_le (by decide) (by decide)) dX10_areJoined_31) (fun H locs hw => ?_)
      refine lv_i2l (v := r9.toInt64) hx hb dX10_areJoined_34 rfl ?_
      refine lv_aload_n hx hb dX10_areJoined_35 rfl (lv_at hl 1 rfl) ?_
      refine lv_iload_n hx hb dX10_areJoined_36 rfl (lv_at hl 3 rfl) ?_
      obtain ⟨r12, u11, h10, hf⟩ := ob_some hf
      refine endI okM hw (runV_ok (As := [.int a2]) (rest := [.long (r9.toInt64), .long ((50 : Int64) * r3)]) okM hc hw (c_X10_itemsOf l ev a2 u8 h10 H.size) kv_X10_itemsOf ml_X10_184 (rvM0 ev u8) hl.1 rfl rfl (Nat.le_of_ble_eq_true rfl) (rm_le (by decide) (by decide)) dX10_areJoined_37) (fun H locs hw => ?_)
      refine lv_i2l (v := r12.toInt64) hx hb dX10_areJoined_40 rfl ?_
      refine lv_lmul hx hb dX10_areJoined_41 ?_
      refine W.lcmp hx hb dX10_areJoined_42 ?_
      refine lv_if_gt (tgt := 50) hx hb dX10_areJoined_43 (by decide) (fun z => ?_) (fun z => ?_)
      · have hf := it_pos z hf
        refine lv_iconst (v := (0 : Int32)) hx hb dX10_areJoined_50 (by decide) ?_
        exact retZ hc hr hlk hw nz0 hf dX10_areJoined_51
      · have hf := it_neg z hf
        refine lv_iconst (v := (1 : Int32)) hx hb dX10_areJoined_46 (by decide) ?_
        refine lv_goto (tgt := 51) hx hb dX10_areJoined_47 (by decide) ?_
        exact retZ hc hr hlk hw nz1 hf dX10_areJoined_51
