def f_X9_note_L16 (u : SS) : Option (Int32 × SS) :=
  ob (f_X9_refuse (-1 : Int32) u) fun r6 u5 => some (r6, u5)
def f_X9_note (a1 : Int32) (a2 : Int32) (a3 : Int32) (a4 : Int32) (u : SS) : Option (Int32 × SS) :=
  ob (f_X9_noScorer a1 u) fun r3 u2 => if r3 = 0 then (ob (f_X9_noBid a2 a3 u2) fun r9 u8 => if r9 = 0 then (ob (f_X9_cell a2 a3 u8) fun r12 u11 => ob (f_X1_standsAt r12 u11) fun r15 u14 => if r15 = 0 then (ob (f_X9_refuse (-5 : Int32) u14) fun r33 u32 => some (r33, u32)) else (ob (f_X1_isOpen u14) fun r18 u17 => if r18 = 0 then (ob (f_X9_inRange a4 (0 : Int32) (100 : Int32) u17) fun r21 u20 => if r21 = 0 then (ob (f_X5_put a1 r12 a4 u20) fun r24 u23 => some (r24, u23)) else (ob (f_X9_refuse r21 u20) fun r27 u26 => some (r27, u26))) else (ob (f_X9_refuse (-3 : Int32) u17) fun r30 u29 => some (r30, u29)))) else (f_X9_note_L16 u8)) else (f_X9_note_L16 u2)
set_option maxHeartbeats 4000000 in
set_option maxRecDepth 100000 in
theorem c_X9_note (l : Launch) (ev : EV) (a1 : Int32) (a2 : Int32) (a3 : Int32) (a4 : Int32) (u : SS) {r : Int32} {u' : SS} (hf : f_X9_note a1 a2 a3 a4 u = some (r, u')) : MI wdB l yX9_note cX9_note 7 (some .int) 3 ev [.ref (ev.2.1 0), .int a1, .int a2, .int a3, .int a4] u r u' := by
  refine bodyI (by decide +kernel) rfl (Nat.le_of_ble_eq_true rfl) ?_
  intro p e s m below meth cd ls H locs hc hr hlk hw hl
  generalize hav : (List.toArray [.ref (ev.2.1 0), .int a1, .int a2, .int a3, .int a4] : Array Value) = av at hc ⊢
  obtain ⟨hx, hb, hml, hown, hts, hK, hZ⟩ := id hc
  have hl : lv_has ls 7 [(0, .ref (ev.2.1 0)), (1, .int a1), (2, .int a2), (3, .int a3), (4, .int a4)] := hl
  have wL16 : ∀ (u : SS) (H : Heap) (locs : List Loc) (ls : Array Slot), VW wdB ev s u H locs → lv_has ls 7 [(0, .ref (ev.2.1 0))] → f_X9_note_L16  u = some (r, u') → W p l e (rmk 3) s m av below meth cd H locs 0 0 (ZI wdB ev s below av r u') (F0 m 16 ls []) := by
    intro  u H locs ls hw hl hf
    unfold f_X9_note_L16 at hf
    refine lv_aload_n hx hb dX9_note_16 rfl (lv_at hl 0 rfl) ?_
    refine lv_iconst (v := (-1 : Int32)) hx hb dX9_note_17 (by decide) ?_
    obtain ⟨r6, u5, h4, hf⟩ := ob_some hf
    refine endI okB hw (runV_ok (As := [.int (-1 : Int32)]) (rest := []) okB hc hw (c_X9_refuse l ev (-1 : Int32) u h4 H.size) kv_X9_refuse ml_X9_62 (rvB0 ev u) hl.1 rfl rfl (Nat.le_of_ble_eq_true rfl) (rm_le (by decide) (by decide)) dX9_note_18) (fun H locs hw => ?_)
    exact retI hc hr hlk hw hf dX9_note_21
  unfold f_X9_note at hf
  refine lv_iload_n hx hb dX9_note_0 rfl (lv_at hl 1 rfl) ?_
  obtain ⟨r3, u2, h1, hf⟩ := ob_some hf
  refine endI okB hw (runS_ok (As := [.int a1]) (rest := []) okB hc hw (c_X9_noScorer l ev a1 u h1 H.size) ks_X9_noScorer ml_X9_134 hl.1 rfl rfl (Nat.le_of_ble_eq_true rfl) (rm_le (by decide) (by decide)) dX9_note_1) (fun H locs hw => ?_)
  refine lv_if_ne (tgt := 16) hx hb dX9_note_4 (by decide) (fun z => ?_) (fun z => ?_)
  · have hf := it_neg z hf
    exact wL16 u2 H locs ls hw (lv_sub hl [0] rfl) hf
  · have hf := it_pos z hf
    refine lv_aload_n hx hb dX9_note_7 rfl (lv_at hl 0 rfl) ?_
    refine lv_iload_n hx hb dX9_note_8 rfl (lv_at hl 2 rfl) ?_
    refine lv_iload_n hx hb dX9_note_9 rfl (lv_at hl 3 rfl) ?_
    obtain ⟨r9, u8, h7, hf⟩ := ob_some hf
    refine endI okB hw (runV_ok (As := [.int a2, .int a3]) (rest := []) okB hc hw (c_X9_noBid l ev a2 a3 u2 h7 H.size) kv_X9_noBid ml_X9_93 (rvB0 ev u2) hl.1 rfl rfl (Nat.le_of_ble_eq_true rfl) (rm_le (by decide) (by decide)) dX9_note_10) (fun H locs hw => ?_)
    refine lv_if_eq (tgt := 22) hx hb dX9_note_13 (by decide) (fun z => ?_) (fun z => ?_)
    · have hf := it_pos z hf
      refine lv_iload_n hx hb dX9_note_22 rfl (lv_at hl 2 rfl) ?_
      refine lv_iload_n hx hb dX9_note_23 rfl (lv_at hl 3 rfl) ?_
      obtain ⟨r12, u11, h10, hf⟩ := ob_some hf
      refine endI okB hw (runS_ok (As := [.int a2, .int a3]) (rest := []) okB hc hw (c_X9_cell l ev a2 a3 u8 h10 H.size) ks_X9_cell ml_X9_110 hl.1 rfl rfl (Nat.le_of_ble_eq_true rfl) (rm_le (by decide) (by decide)) dX9_note_24) (fun H locs hw => ?_)
      refine lv_istore (lv' := [(5, .int r12), (0, .ref (ev.2.1 0)), (1, .int a1), (2, .int a2), (3, .int a3), (4, .int a4)]) hx hb dX9_note_27 hl (by decide) rfl (fun ls hl => ?_)
      refine lv_aload_n hx hb dX9_note_29 rfl (lv_at hl 1 rfl) ?_
      refine gB0_0 hc hw fl_X9_12 dX9_note_30 ?_
      refine lv_iload hx hb dX9_note_33 (lv_at hl 0 rfl) ?_
      obtain ⟨r15, u14, h13, hf⟩ := ob_some hf
      refine endI okB hw (runV_ok (As := [.int r12]) (rest := []) okB hc hw (c_X1_standsAt l ev r12 u11 h13 H.size) kv_X1_standsAt ml_X9_138 (rvB1 ev u11) hl.1 rfl rfl (Nat.le_of_ble_eq_true rfl) (rm_le (by decide) (by decide)) dX9_note_35) (fun H locs hw => ?_)
      refine lv_if_ne (tgt := 48) hx hb dX9_note_38 (by decide) (fun z => ?_) (fun z => ?_)
      · have hf := it_neg z hf
        refine lv_aload_n hx hb dX9_note_48 rfl (lv_at hl 1 rfl) ?_
        refine gB0_0 hc hw fl_X9_12 dX9_note_49 ?_
        obtain ⟨r18, u17, h16, hf⟩ := ob_some hf
        refine endI okB hw (runV_ok (As := []) (rest := []) okB hc hw (c_X1_isOpen l ev u14 h16 H.size) kv_X1_isOpen ml_X9_71 (rvB1 ev u14) hl.1 rfl rfl (Nat.le_of_ble_eq_true rfl) (rm_le (by decide) (by decide)) dX9_note_52) (fun H locs hw => ?_)
        refine lv_if_eq (tgt := 65) hx hb dX9_note_55 (by decide) (fun z => ?_) (fun z => ?_)
        · have hf := it_pos z hf
          refine lv_iload hx hb dX9_note_65 (lv_at hl 5 rfl) ?_
          refine lv_iconst (v := (0 : Int32)) hx hb dX9_note_67 (by decide) ?_
          refine lv_bipush (v := (100 : Int32)) hx hb dX9_note_68 (by decide) ?_
          obtain ⟨r21, u20, h19, hf⟩ := ob_some hf
          refine endI okB hw (runS_ok (As := [.int a4, .int (0 : Int32), .int (100 : Int32)]) (rest := []) okB hc hw (c_X9_inRange l ev a4 (0 : Int32) (100 : Int32) u17 h19 H.size) ks_X9_inRange ml_X9_76 hl.1 rfl rfl (Nat.le_of_ble_eq_true rfl) (rm_le (by decide) (by decide)) dX9_note_70) (fun H locs hw => ?_)
          refine lv_istore (lv' := [(6, .int r21), (5, .int r12), (0, .ref (ev.2.1 0)), (1, .int a1), (2, .int a2), (3, .int a3), (4, .int a4)]) hx hb dX9_note_73 hl (by decide) rfl (fun ls hl => ?_)
          refine lv_iload hx hb dX9_note_75 (lv_at hl 0 rfl) ?_
          refine lv_if_eq (tgt := 87) hx hb dX9_note_77 (by decide) (fun z => ?_) (fun z => ?_)
          · have hf := it_pos z hf
            refine lv_aload_n hx hb dX9_note_87 rfl (lv_at hl 2 rfl) ?_
            refine gB0_1 hc hw fl_X9_19 dX9_note_88 ?_
            refine lv_iload_n hx hb dX9_note_91 rfl (lv_at hl 3 rfl) ?_
            refine lv_iload hx hb dX9_note_92 (lv_at hl 1 rfl) ?_
            refine lv_iload hx hb dX9_note_94 (lv_at hl 6 rfl) ?_
            obtain ⟨r24, u23, h22, hf⟩ := ob_some hf
            refine endI okB hw (runV_ok (As := [.int a1, .int r12, .int a4]) (rest := []) okB hc hw (c_X5_put l ev a1 r12 a4 u20 h22 H.size) kv_X5_put ml_X9_141 (rvB2 ev u20) hl.1 rfl rfl (Nat.le_of_ble_eq_true rfl) (rm_le (by decide) (by decide)) dX9_note_96) (fun H locs hw => ?_)
            exact retI hc hr hlk hw hf dX9_note_99
          · have hf := it_neg z hf
            refine lv_aload_n hx hb dX9_note_80 rfl (lv_at hl 2 rfl) ?_
            refine lv_iload hx hb dX9_note_81 (lv_at hl 0 rfl) ?_
            obtain ⟨r27, u26, h25, hf⟩ := ob_some hf
            refine endI okB hw (runV_ok (As := [.int r21]) (rest := []) okB hc hw (c_X9_refuse l ev r21 u20 h25 H.size) kv_X9_refuse ml_X9_62 (rvB0 ev u20) hl.1 rfl rfl (Nat.le_of_ble_eq_true rfl) (rm_le (by decide) (by decide)) dX9_note_83) (fun H locs hw => ?_)
            exact retI hc hr hlk hw hf dX9_note_86
        · have hf := it_neg z hf
          refine lv_aload_n hx hb dX9_note_58 rfl (lv_at hl 1 rfl) ?_
          refine lv_bipush (v := (-3 : Int32)) hx hb dX9_note_59 (by decide) ?_
          obtain ⟨r30, u29, h28, hf⟩ := ob_some hf
          refine endI okB hw (runV_ok (As := [.int (-3 : Int32)]) (rest := []) okB hc hw (c_X9_refuse l ev (-3 : Int32) u17 h28 H.size) kv_X9_refuse ml_X9_62 (rvB0 ev u17) hl.1 rfl rfl (Nat.le_of_ble_eq_true rfl) (rm_le (by decide) (by decide)) dX9_note_61) (fun H locs hw => ?_)
          exact retI hc hr hlk hw hf dX9_note_64
      · have hf := it_pos z hf
        refine lv_aload_n hx hb dX9_note_41 rfl (lv_at hl 1 rfl) ?_
        refine lv_bipush (v := (-5 : Int32)) hx hb dX9_note_42 (by decide) ?_
        obtain ⟨r33, u32, h31, hf⟩ := ob_some hf
        refine endI okB hw (runV_ok (As := [.int (-5 : Int32)]) (rest := []) okB hc hw (c_X9_refuse l ev (-5 : Int32) u14 h31 H.size) kv_X9_refuse ml_X9_62 (rvB0 ev u14) hl.1 rfl rfl (Nat.le_of_ble_eq_true rfl) (rm_le (by decide) (by decide)) dX9_note_44) (fun H locs hw => ?_)
        exact retI hc hr hlk hw hf dX9_note_47
    · have hf := it_neg z hf
      exact wL16 u8 H locs ls hw (lv_sub hl [0] rfl) hf
def f_X5_putBar (a1 : Int32) (a2 : Int32) (a3 : Int32) (u : SS) : Option (Int32 × SS) :=
  lt ((a1 * (8 : Int32)) + a2) fun x1 => oi x1 48 (lt (gA u 11 x1.toNatClampNeg) fun x2 => oi x1 48 (lt (tZ u 11 x1 a3) fun u3 => if x2 = a3 then (some ((0 : Int32), u3)) else (some ((1 : Int32), u3))))
set_option maxHeartbeats 4000000 in
set_option maxRecDepth 100000 in
theorem c_X5_putBar (l : Launch) (ev : EV) (a1 : Int32) (a2 : Int32) (a3 : Int32) (u : SS) {r : Int32} {u' : SS} (hf : f_X5_putBar a1 a2 a3 u = some (r, u')) : MI wdB l yX5_putBar cX5_putBar 6 (some .boolean) 0 ev [.ref (ev.2.1 2), .int a1, .int a2, .int a3] u r u' := by
  refine bodyI (by decide +kernel) rfl (Nat.le_of_ble_eq_true rfl) ?_
  intro p e s m below meth cd ls H locs hc hr hlk hw hl
  generalize hav : (List.toArray [.ref (ev.2.1 2), .int a1, .int a2, .int a3] : Array Value) = av at hc ⊢
  obtain ⟨hx, hb, hml, hown, hts, hK, hZ⟩ := id hc
  have hl : lv_has ls 6 [(0, .ref (ev.2.1 2)), (1, .int a1), (2, .int a2), (3, .int a3)] := hl
  unfold f_X5_putBar at hf
  refine lv_iload_n hx hb dX5_putBar_0 rfl (lv_at hl 1 rfl) ?_
  refine lv_bipush (v := (8 : Int32)) hx hb dX5_putBar_1 (by decide) ?_
  refine lv_imul hx hb dX5_putBar_3 ?_
  refine lv_iload_n hx hb dX5_putBar_4 rfl (lv_at hl 2 rfl) ?_
  refine lv_iadd hx hb dX5_putBar_5 ?_
  obtain ⟨x1, ex1, hf⟩ := lt_some hf
  refine tope ex1 ?_
  refine lv_istore (lv' := [(4, .int x1), (0, .ref (ev.2.1 2)), (1, .int a1), (2, .int a2), (3, .int a3)]) hx hb dX5_putBar_6 hl (by decide) rfl (fun ls hl => ?_)
  refine lv_aload_n hx hb dX5_putBar_8 rfl (lv_at hl 1 rfl) ?_
  refine gB2_1 hc hw fl_X5_15 dX5_putBar_9 ?_
  refine lv_iload hx hb dX5_putBar_12 (lv_at hl 0 rfl) ?_
  obtain ⟨z, hf⟩ := oi_some hf
  refine aB20 hc hw z dX5_putBar_14 ?_
  obtain ⟨x2, ex2, hf⟩ := lt_some hf
  refine tope ex2 ?_
  refine lv_istore (lv' := [(5, .int x2), (4, .int x1), (0, .ref (ev.2.1 2)), (1, .int a1), (2, .int a2), (3, .int a3)]) hx hb dX5_putBar_15 hl (by decide) rfl (fun ls hl => ?_)
  refine lv_aload_n hx hb dX5_putBar_17 rfl (lv_at hl 2 rfl) ?_
  refine gB2_1 hc hw fl_X5_15 dX5_putBar_18 ?_
  refine lv_iload hx hb dX5_putBar_21 (lv_at hl 1 rfl) ?_
  refine lv_iload_n hx hb dX5_putBar_23 rfl (lv_at hl 5 rfl) ?_
  obtain ⟨z, hf⟩ := oi_some hf
  refine tB20 hc hw z dX5_putBar_24 (fun H locs hw => ?_)
  obtain ⟨u3, eu3, hf⟩ := lt_some hf
  have hw := VW.nm eu3 hw
  refine lv_iload hx hb dX5_putBar_25 (lv_at hl 0 rfl) ?_
  refine lv_iload_n hx hb dX5_putBar_27 rfl (lv_at hl 5 rfl) ?_
  refine lv_icmp_eq (tgt := 35) hx hb dX5_putBar_28 (by decide) (fun z => ?_) (fun z => ?_)
  · have hf := it_pos z hf
    refine lv_iconst (v := (0 : Int32)) hx hb dX5_putBar_35 (by decide) ?_
    exact retZ hc hr hlk hw nz0 hf dX5_putBar_36
  · have hf := it_neg z hf
    refine lv_iconst (v := (1 : Int32)) hx hb dX5_putBar_31 (by decide) ?_
    refine lv_goto (tgt := 36) hx hb dX5_putBar_32 (by decide) ?_
    exact retZ hc hr hlk hw nz1 hf dX5_putBar_36
def f_X9_bar_L14 (u : SS) : Option (Int32 × SS) :=
  ob (f_X9_refuse (-1 : Int32) u) fun r6 u5 => some (r6, u5)
def f_X9_bar (a1 : Int32) (a2 : Int32) (a3 : Int32) (u : SS) : Option (Int32 × SS) :=
  ob (f_X9_noScorer a1 u) fun r3 u2 => if r3 = 0 then (ob (f_X9_noBidder a2 u2) fun r9 u8 => if r9 = 0 then (ob (f_X5_putBar a1 a2 a3 u8) fun r12 u11 => if r12 = 0 then (some ((0 : Int32), u11)) else (some ((1 : Int32), u11))) else (f_X9_bar_L14 u8)) else (f_X9_bar_L14 u2)
set_option maxHeartbeats 4000000 in
set_option maxRecDepth 100000 in
theorem c_X9_bar (l : Launch) (ev : EV) (a1 : Int32) (a2 : Int32) (a3 : Int32) (u : SS) {r : Int32} {u' : SS} (hf : f_X9_bar a1 a2 a3 u = some (r, u')) : MI wdB l yX9_bar cX9_bar 4 (some .int) 1 ev [.ref (ev.2.1 0), .int a1, .int a2, .int a3] u r u' := by
  refine bodyI (by decide +kernel) rfl (Nat.le_of_ble_eq_true rfl) ?_
  intro p e s m below meth cd ls H locs hc hr hlk hw hl
  generalize hav : (List.toArray [.ref (ev.2.1 0), .int a1, .int a2, .int a3] : Array Value) = av at hc ⊢
  obtain ⟨hx, hb, hml, hown, hts, hK, hZ⟩ := id hc
  have hl : lv_has ls 4 [(0, .ref (ev.2.1 0)), (1, .int a1), (2, .int a2), (3, .int a3)] := hl
  have wL14 : ∀ (u : SS) (H : Heap) (locs : List Loc) (ls : Array Slot), VW wdB ev s u H locs → lv_has ls 4 [(0, .ref (ev.2.1 0))] → f_X9_bar_L14  u = some (r, u') → W p l e (rmk 1) s m av below meth cd H locs 0 0 (ZI wdB ev s below av r u') (F0 m 14 ls []) := by
    intro  u H locs ls hw hl hf
    unfold f_X9_bar_L14 at hf
    refine lv_aload_n hx hb dX9_bar_14 rfl (lv_at hl 0 rfl) ?_
    refine lv_iconst (v := (-1 : Int32)) hx hb dX9_bar_15 (by decide) ?_
    obtain ⟨r6, u5, h4, hf⟩ := ob_some hf
    refine endI okB hw (runV_ok (As := [.int (-1 : Int32)]) (rest := []) okB hc hw (c_X9_refuse l ev (-1 : Int32) u h4 H.size) kv_X9_refuse ml_X9_62 (rvB0 ev u) hl.1 rfl rfl (Nat.le_of_ble_eq_true rfl) (rm_le (by decide) (by decide)) dX9_bar_16) (fun H locs hw => ?_)
    exact retI hc hr hlk hw hf dX9_bar_19
  unfold f_X9_bar at hf
  refine lv_iload_n hx hb dX9_bar_0 rfl (lv_at hl 1 rfl) ?_
  obtain ⟨r3, u2, h1, hf⟩ := ob_some hf
  refine endI okB hw (runS_ok (As := [.int a1]) (rest := []) okB hc hw (c_X9_noScorer l ev a1 u h1 H.size) ks_X9_noScorer ml_X9_134 hl.1 rfl rfl (Nat.le_of_ble_eq_true rfl) (rm_le (by decide) (by decide)) dX9_bar_1) (fun H locs hw => ?_)
  refine lv_if_ne (tgt := 14) hx hb dX9_bar_4 (by decide) (fun z => ?_) (fun z => ?_)
  · have hf := it_neg z hf
    exact wL14 u2 H locs ls hw (lv_sub hl [0] rfl) hf
  · have hf := it_pos z hf
    refine lv_iload_n hx hb dX9_bar_7 rfl (lv_at hl 2 rfl) ?_
    obtain ⟨r9, u8, h7, hf⟩ := ob_some hf
    refine endI okB hw (runS_ok (As := [.int a2]) (rest := []) okB hc hw (c_X9_noBidder l ev a2 u2 h7 H.size) ks_X9_noBidder ml_X9_144 hl.1 rfl rfl (Nat.le_of_ble_eq_true rfl) (rm_le (by decide) (by decide)) dX9_bar_8) (fun H locs hw => ?_)
    refine lv_if_eq (tgt := 20) hx hb dX9_bar_11 (by decide) (fun z => ?_) (fun z => ?_)
    · have hf := it_pos z hf
      refine lv_aload_n hx hb dX9_bar_20 rfl (lv_at hl 0 rfl) ?_
      refine gB0_1 hc hw fl_X9_19 dX9_bar_21 ?_
      refine lv_iload_n hx hb dX9_bar_24 rfl (lv_at hl 1 rfl) ?_
      refine lv_iload_n hx hb dX9_bar_25 rfl (lv_at hl 2 rfl) ?_
      refine lv_iload_n hx hb dX9_bar_26 rfl (lv_at hl 3 rfl) ?_
      obtain ⟨r12, u11, h10, hf⟩ := ob_some hf
      refine endI okB hw (runV_ok (As := [.int a1, .int a2, .int a3]) (rest := []) okB hc hw (c_X5_putBar l ev a1 a2 a3 u8 h10 H.size) kv_X5_putBar ml_X9_147 (rvB2 ev u8) hl.1 rfl rfl (Nat.le_of_ble_eq_true rfl) (rm_le (by decide) (by decide)) dX9_bar_27) (fun H locs hw => ?_)
      refine lv_if_eq (tgt := 37) hx hb dX9_bar_30 (by decide) (fun z => ?_) (fun z => ?_)
      · have hf := it_pos z hf
        refine lv_iconst (v := (0 : Int32)) hx hb dX9_bar_37 (by decide) ?_
        exact retI hc hr hlk hw hf dX9_bar_38
      · have hf := it_neg z hf
        refine lv_iconst (v := (1 : Int32)) hx hb dX9_bar_33 (by decide) ?_
        refine lv_goto (tgt := 38) hx hb dX9_bar_34 (by decide) ?_
        exact retI hc hr hlk hw hf dX9_bar_38
    · have hf := it_neg z hf
      exact wL14 u8 H locs ls hw (lv_sub hl [0] rfl) hf
def f_X9_noPart (a0 : Int32) (u : SS) : Option (Int32 × SS) :=
  if a0 < 0 then (some ((1 : Int32), u)) else (if a0 ≤ (1 : Int32) then (some ((0 : Int32), u)) else (some ((1 : Int32), u)))
set_option maxHeartbeats 4000000 in
set_option maxRecDepth 100000 in
theorem c_X9_noPart (l : Launch) (ev : EV) (a0 : Int32) (u : SS) {r : Int32} {u' : SS} (hf : f_X9_noPart a0 u = some (r, u')) : MI wdB l yX9_noPart cX9_noPart 1 (some .boolean) 0 ev [.int a0] u r u' := by
  refine bodyI (by decide +kernel) rfl (Nat.le_of_ble_eq_true rfl) ?_
  intro p e s m below meth cd ls H locs hc hr hlk hw hl
  generalize hav : (List.toArray [.int a0] : Array Value) = av at hc ⊢
  obtain ⟨hx, hb, hml, hown, hts, hK, hZ⟩ := id hc
  have hl : lv_has ls 1 [(0, .int a0)] := hl
  unfold f_X9_noPart at hf
  refine lv_iload_n hx hb dX9_noPart_0 rfl (lv_at hl 0 rfl) ?_
  refine lv_if_lt (tgt := 9) hx hb dX9_noPart_1 (by decide) (fun z => ?_) (fun z => ?_)
  · have hf := it_pos z hf
    refine lv_iconst (v := (1 : Int32)) hx hb dX9_noPart_9 (by decide) ?_
    refine lv_goto (tgt := 14) hx hb dX9_noPart_10 (by decide) ?_
    exact retZ hc hr hlk hw nz1 hf dX9_noPart_14
  · have hf := it_neg z hf
    refine lv_iload_n hx hb dX9_noPart_4 rfl (lv_at hl 0 rfl) ?_
    refine lv_iconst (v := (1 : Int32)) hx hb dX9_noPart_5 (by decide) ?_
    refine lv_icmp_le (tgt := 13) hx hb dX9_noPart_6 (by decide) (fun z => ?_) (fun z => ?_)
    · have hf := it_pos z hf
      refine lv_iconst (v := (0 : Int32)) hx hb dX9_noPart_13 (by decide) ?_
      exact retZ hc hr hlk hw nz0 hf dX9_noPart_14
    · have hf := it_neg z hf
      refine lv_iconst (v := (1 : Int32)) hx hb dX9_noPart_9 (by decide) ?_
      refine lv_goto (tgt := 14) hx hb dX9_noPart_10 (by decide) ?_
      exact retZ hc hr hlk hw nz1 hf dX9_noPart_14
def f_X5_findSilent_25_L62 (k2 : Int32 → SS → Option SS) (b2 : Int32) (u : SS) : Option SS :=
  lt (b2 + (1 : Int32)) fun x2 => k2 x2 u
def f_X5_findSilent_25_L56 (k17 : Int32 → Int32 → SS → Option SS) (b2 : Int32) (b3 : Int32) (u : SS) : Option SS :=
  lt (b3 + (1 : Int32)) fun x3 => k17 b2 x3 u
def b_X5_findSilent_25_L17 (k2 : Int32 → SS → Option SS) (k17 : Int32 → Int32 → SS → Option SS) (b2 : Int32) (b3 : Int32) (u : SS) : Option SS :=
  if (8 : Int32) ≤ b3 then (f_X5_findSilent_25_L62 k2 b2 u) else (if (8 : Int32) ≤ b3 then (f_X5_findSilent_25_L62 k2 b2 u) else (oi b3 8 (if (gA u 16 b3.toNatClampNeg) = 0 then (f_X5_findSilent_25_L56 k17 b2 b3 u) else (oi ((b2 * (8 : Int32)) + b3) 48 (if (gA u 11 ((b2 * (8 : Int32)) + b3).toNatClampNeg) = 0 then (f_X5_findSilent_25_L56 k17 b2 b3 u) else (oi b2 6 (lt (tZ u 12 b2 (1 : Int32)) fun u4 => f_X5_findSilent_25_L56 k17 b2 b3 u4)))))))
def f_X5_findSilent_25_L17 (k2 : Int32 → SS → Option SS) : Nat → Int32 → Int32 → SS → Option SS
  | 0 => fun _ _ _ => none
  | n + 1 => b_X5_findSilent_25_L17 k2 (f_X5_findSilent_25_L17 k2 n)
def b_X5_findSilent_25_L2 (k2 : Int32 → SS → Option SS) (b2 : Int32) (u : SS) : Option SS :=
  if (6 : Int32) ≤ b2 then (some u) else (oi b2 6 (lt (tZ u 12 b2 (0 : Int32)) fun u1 => f_X5_findSilent_25_L17 k2 FU b2 (0 : Int32) u1))
def f_X5_findSilent_25_L2 : Nat → Int32 → SS → Option SS
  | 0 => fun _ _ => none
  | n + 1 => b_X5_findSilent_25_L2 (f_X5_findSilent_25_L2 n)
def f_X5_findSilent_25 (u : SS) : Option SS :=
  f_X5_findSilent_25_L2 FU (0 : Int32) u
set_option maxHeartbeats 4000000 in
set_option maxRecDepth 100000 in
theorem c_X5_findSilent_25 (l : Launch) (ev : EV) (u : SS) {u' : SS} (hf : f_X5_findSilent_25  u = some u') : MV wdB l yX5_findSilent cX5_findSilent 4 none 0 ev [.ref (ev.2.1 2), .ref (ev.2.1 25)] u u' := by
  refine bodyV (by decide +kernel) rfl (Nat.le_of_ble_eq_true rfl) ?_
  intro p e s m below meth cd ls H locs hc hr hlk hw hl
  generalize hav : (List.toArray [.ref (ev.2.1 2), .ref (ev.2.1 25)] : Array Value) = av at hc ⊢
  obtain ⟨hx, hb, hml, hown, hts, hK, hZ⟩ := id hc
  have hl : lv_has ls 4 [(0, .ref (ev.2.1 2)), (1, .ref (ev.2.1 25))] := hl
  have wL62 : ∀ (k2 : Int32 → SS → Option SS) (hk2 : ∀ (b2 : Int32) (u : SS) (H : Heap) (locs : List Loc) (ls : Array Slot), VW wdB ev s u H locs → lv_has ls 4 [(0, .ref (ev.2.1 2)), (1, .ref (ev.2.1 25)), (2, .int b2)] → k2 b2 u = some u' → W p l e (rmk 0) s m av below meth cd H locs 0 0 (ZV wdB ev s below av u') (F0 m 2 ls [])) (b2 : Int32) (u : SS) (H : Heap) (locs : List Loc) (ls : Array Slot), VW wdB ev s u H locs → lv_has ls 4 [(0, .ref (ev.2.1 2)), (1, .ref (ev.2.1 25)), (2, .int b2)] → f_X5_findSilent_25_L62 k2 b2 u = some u' → W p l e (rmk 0) s m av below meth cd H locs 0 0 (ZV wdB ev s below av u') (F0 m 62 ls []) := by
    intro k2 hk2 b2 u H locs ls hw hl hf
    unfold f_X5_findSilent_25_L62 at hf
    obtain ⟨x2, ex2, hf⟩ := lt_some hf
    refine lv_iinc (v := x2) (lv' := [(2, .int x2), (0, .ref (ev.2.1 2)), (1, .ref (ev.2.1 25))]) hx hb dX5_findSilent_62 hl (k := 2) rfl (by rw [ex2]; rfl) (by decide) rfl (fun ls hl => ?_)
    refine lv_goto (tgt := 2) hx hb dX5_findSilent_65 (by decide) ?_
    exact hk2 x2 u H locs ls hw (lv_sub hl [1, 2, 0] rfl) hf
  have wL56 : ∀ (k17 : Int32 → Int32 → SS → Option SS) (hk17 : ∀ (b2 : Int32) (b3 : Int32) (u : SS) (H : Heap) (locs : List Loc) (ls : Array Slot), VW wdB ev s u H locs → lv_has ls 4 [(0, .ref (ev.2.1 2)), (1, .ref (ev.2.1 25)), (2, .int b2), (3, .int b3)] → k17 b2 b3 u = some u' → W p l e (rmk 0) s m av below meth cd H locs 0 0 (ZV wdB ev s below av u') (F0 m 17 ls [])) (b2 : Int32) (b3 : Int32) (u : SS) (H : Heap) (locs : List Loc) (ls : Array Slot), VW wdB ev s u H locs → lv_has ls 4 [(0, .ref (ev.2.1 2)), (1, .ref (ev.2.1 25)), (2, .int b2), (3, .int b3)] → f_X5_findSilent_25_L56 k17 b2 b3 u = some u' → W p l e (rmk 0) s m av below meth cd H locs 0 0 (ZV wdB ev s below av u') (F0 m 56 ls []) := by
    intro k17 hk17 b2 b3 u H locs ls hw hl hf
    unfold f_X5_findSilent_25_L56 at hf
    obtain ⟨x3, ex3, hf⟩ := lt_some hf
    refine lv_iinc (v := x3) (lv' := [(3, .int x3), (0, .ref (ev.2.1 2)), (1, .ref (ev.2.1 25)), (2, .int b2)]) hx hb dX5_findSilent_56 hl (k := 3) rfl (by rw [ex3]; rfl) (by decide) rfl (fun ls hl => ?_)
    refine lv_goto (tgt := 17) hx hb dX5_findSilent_59 (by decide) ?_
    exact hk17 b2 x3 u H locs ls hw (lv_sub hl [1, 2, 3, 0] rfl) hf
  have wL17 : ∀ (k2 : Int32 → SS → Option SS) (hk2 : ∀ (b2 : Int32) (u : SS) (H : Heap) (locs : List Loc) (ls : Array Slot), VW wdB ev s u H locs → lv_has ls 4 [(0, .ref (ev.2.1 2)), (1, .ref (ev.2.1 25)), (2, .int b2)] → k2 b2 u = some u' → W p l e (rmk 0) s m av below meth cd H locs 0 0 (ZV wdB ev s below av u') (F0 m 2 ls [])) (n : Nat) (b2 : Int32) (b3 : Int32) (u : SS) (H : Heap) (locs : List Loc) (ls : Array Slot), VW wdB ev s u H locs → lv_has ls 4 [(0, .ref (ev.2.1 2)), (1, .ref (ev.2.1 25)), (2, .int b2), (3, .int b3)] → f_X5_findSilent_25_L17 k2 n b2 b3 u = some u' → W p l e (rmk 0) s m av below meth cd H locs 0 0 (ZV wdB ev s below av u') (F0 m 17 ls []) := by
    intro k2 hk2 n
    induction n with
    | zero =>
      intro b2 b3 u H locs ls hw hl hf
      cases hf
    | succ n hk17 =>
      intro b2 b3 u H locs ls hw hl hf
      have hf : b_X5_findSilent_25_L17 k2 (f_X5_findSilent_25_L17 k2 n) b2 b3 u = some u' := hf
      unfold b_X5_findSilent_25_L17 at hf
      refine lv_iload_n hx hb dX5_findSilent_17 rfl (lv_at hl 3 rfl) ?_
      refine lv_bipush (v := (8 : Int32)) hx hb dX5_findSilent_18 (by decide) ?_
      refine lv_icmp_ge (tgt := 62) hx hb dX5_findSilent_20 (by decide) (fun z => ?_) (fun z => ?_)
      · have hf := it_pos z hf
        exact wL62 k2 hk2 b2 u H locs ls hw (lv_sub hl [0, 1, 2] rfl) hf
      · have hf := it_neg z hf
        refine lv_iload_n hx hb dX5_findSilent_23 rfl (lv_at hl 3 rfl) ?_
        refine lv_aload_n hx hb dX5_findSilent_24 rfl (lv_at hl 1 rfl) ?_
        refine nB25 hc hw dX5_findSilent_25 ?_
        refine lv_icmp_ge (tgt := 62) hx hb dX5_findSilent_26 (by decide) (fun z => ?_) (fun z => ?_)
        · have hf := it_pos z hf
          exact wL62 k2 hk2 b2 u H locs ls hw (lv_sub hl [0, 1, 2] rfl) hf
        · have hf := it_neg z hf
          refine lv_aload_n hx hb dX5_findSilent_29 rfl (lv_at hl 1 rfl) ?_
          refine lv_iload_n hx hb dX5_findSilent_30 rfl (lv_at hl 3 rfl) ?_
          obtain ⟨z, hf⟩ := oi_some hf
          refine aB25 hc hw z dX5_findSilent_31 ?_
          refine lv_if_eq (tgt := 56) hx hb dX5_findSilent_32 (by decide) (fun z => ?_) (fun z => ?_)
          · have hf := it_pos z hf
            exact wL56 (f_X5_findSilent_25_L17 k2 n) hk17 b2 b3 u H locs ls hw (lv_sub hl [0, 1, 2, 3] rfl) hf
          · have hf := it_neg z hf
            refine lv_aload_n hx hb dX5_findSilent_35 rfl (lv_at hl 0 rfl) ?_
            refine gB2_1 hc hw fl_X5_15 dX5_findSilent_36 ?_
            refine lv_iload_n hx hb dX5_findSilent_39 rfl (lv_at hl 2 rfl) ?_
            refine lv_bipush (v := (8 : Int32)) hx hb dX5_findSilent_40 (by decide) ?_
            refine lv_imul hx hb dX5_findSilent_42 ?_
            refine lv_iload_n hx hb dX5_findSilent_43 rfl (lv_at hl 3 rfl) ?_
            refine lv_iadd hx hb dX5_findSilent_44 ?_
            obtain ⟨z, hf⟩ := oi_some hf
            refine aB20 hc hw z dX5_findSilent_45 ?_
            refine lv_if_eq (tgt := 56) hx hb dX5_findSilent_46 (by decide) (fun z => ?_) (fun z => ?_)
            · have hf := it_pos z hf
              exact wL56 (f_X5_findSilent_25_L17 k2 n) hk17 b2 b3 u H locs ls hw (lv_sub hl [0, 1, 2, 3] rfl) hf
            · have hf := it_neg z hf
              refine lv_aload_n hx hb dX5_findSilent_49 rfl (lv_at hl 0 rfl) ?_
              refine gB2_2 hc hw fl_X5_19 dX5_findSilent_50 ?_
              refine lv_iload_n hx hb dX5_findSilent_53 rfl (lv_at hl 2 rfl) ?_
              refine lv_iconst (v := (1 : Int32)) hx hb dX5_findSilent_54 (by decide) ?_
              obtain ⟨z, hf⟩ := oi_some hf
              refine tB21 hc hw z dX5_findSilent_55 (fun H locs hw => ?_)
              obtain ⟨u4, eu4, hf⟩ := lt_some hf
              have hw := VW.nm eu4 hw
              exact wL56 (f_X5_findSilent_25_L17 k2 n) hk17 b2 b3 u4 H locs ls hw (lv_sub hl [0, 1, 2, 3] rfl) hf
  have wL2 : ∀ (n : Nat) (b2 : Int32) (u : SS) (H : Heap) (locs : List Loc) (ls : Array Slot), VW wdB ev s u H locs → lv_has ls 4 [(0, .ref (ev.2.1 2)), (1, .ref (ev.2.1 25)), (2, .int b2)] → f_X5_findSilent_25_L2 n b2 u = some u' → W p l e (rmk 0) s m av below meth cd H locs 0 0 (ZV wdB ev s below av u') (F0 m 2 ls []) := by
    intro n
    induction n with
    | zero =>
      intro b2 u H locs ls hw hl hf
      cases hf
    | succ n hk2 =>
      intro b2 u H locs ls hw hl hf
      have hf : b_X5_findSilent_25_L2 (f_X5_findSilent_25_L2 n) b2 u = some u' := hf
      unfold b_X5_findSilent_25_L2 at hf
      refine lv_iload_n hx hb dX5_findSilent_2 rfl (lv_at hl 2 rfl) ?_
      refine lv_bipush (v := (6 : Int32)) hx hb dX5_findSilent_3 (by decide) ?_
      refine lv_icmp_ge (tgt := 68) hx hb dX5_findSilent_5 (by decide) (fun z => ?_) (fun z => ?_)
      · have hf := it_pos z hf
        exact retV hc hr hlk hw hf dX5_findSilent_68
      · have hf := it_neg z hf
        refine lv_aload_n hx hb dX5_findSilent_8 rfl (lv_at hl 0 rfl) ?_
        refine gB2_2 hc hw fl_X5_19 dX5_findSilent_9 ?_
        refine lv_iload_n hx hb dX5_findSilent_12 rfl (lv_at hl 2 rfl) ?_
        refine lv_iconst (v := (0 : Int32)) hx hb dX5_findSilent_13 (by decide) ?_
        obtain ⟨z, hf⟩ := oi_some hf
        refine tB21 hc hw z dX5_findSilent_14 (fun H locs hw => ?_)
        obtain ⟨u1, eu1, hf⟩ := lt_some hf
        have hw := VW.nm eu1 hw
        refine lv_iconst (v := (0 : Int32)) hx hb dX5_findSilent_15 (by decide) ?_
        refine lv_istore_n (lv' := [(3, .int (0 : Int32)), (0, .ref (ev.2.1 2)), (1, .ref (ev.2.1 25)), (2, .int b2)]) hx hb dX5_findSilent_16 rfl hl (by decide) rfl (fun ls hl => ?_)
        exact wL17 (f_X5_findSilent_25_L2 n) hk2 FU b2 (0 : Int32) u1 H locs ls hw (lv_sub hl [1, 2, 3, 0] rfl) hf
  unfold f_X5_findSilent_25 at hf
  refine lv_iconst (v := (0 : Int32)) hx hb dX5_findSilent_0 (by decide) ?_
  refine lv_istore_n (lv' := [(2, .int (0 : Int32)), (0, .ref (ev.2.1 2)), (1, .ref (ev.2.1 25))]) hx hb dX5_findSilent_1 rfl hl (by decide) rfl (fun ls hl => ?_)
  exact wL2 FU (0 : Int32) u H locs ls hw (lv_sub hl [1, 2, 0] rfl) hf
def b_X3_commonPart_L3 (k3 : Int64 → Int64 → Int32 → SS → Option (Int64 × SS)) (b0 : Int64) (b2 : Int64) (b4 : Int32) (u : SS) : Option (Int64 × SS) :=
  if (200 : Int32) ≤ b4 then (some (b0, u)) else (if (lg_cmp b2 (0 : Int64)) = 0 then (some (b0, u)) else (if b2 = 0 then none else lt (b0 - b0 / b2 * b2) fun x1 => lt (b4 + (1 : Int32)) fun x2 => k3 b2 x1 x2 u))
def f_X3_commonPart_L3 : Nat → Int64 → Int64 → Int32 → SS → Option (Int64 × SS)
  | 0 => fun _ _ _ _ => none
  | n + 1 => b_X3_commonPart_L3 (f_X3_commonPart_L3 n)
def f_X3_commonPart (a0 : Int64) (a2 : Int64) (u : SS) : Option (Int64 × SS) :=
  f_X3_commonPart_L3 FU a0 a2 (0 : Int32) u
set_option maxHeartbeats 4000000 in
set_option maxRecDepth 100000 in
theorem c_X3_commonPart (l : Launch) (ev : EV) (a0 : Int64) (a2 : Int64) (u : SS) {r : Int64} {u' : SS} (hf : f_X3_commonPart a0 a2 u = some (r, u')) : ML wdB l yX3_commonPart cX3_commonPart 7 (some .long) 0 ev [.long a0, .long a2] u r u' := by
  refine bodyL (by decide +kernel) rfl (Nat.le_of_ble_eq_true rfl) ?_
  intro p e s m below meth cd ls H locs hc hr hlk hw hl
  generalize hav : (List.toArray [.long a0, .long a2] : Array Value) = av at hc ⊢
  obtain ⟨hx, hb, hml, hown, hts, hK, hZ⟩ := id hc
  have hl : lv_has ls 7 [(0, .long a0), (2, .long a2)] := hl
  have wL3 : ∀ (n : Nat) (b0 : Int64) (b2 : Int64) (b4 : Int32) (u : SS) (H : Heap) (locs : List Loc) (ls : Array Slot), VW wdB ev s u H locs → lv_has ls 7 [(0, .long b0), (2, .long b2), (4, .int b4)] → f_X3_commonPart_L3 n b0 b2 b4 u = some (r, u') → W p l e (rmk 0) s m av below meth cd H locs 0 0 (ZL wdB ev s below av r u') (F0 m 3 ls []) := by
    intro n
    induction n with
    | zero =>
      intro b0 b2 b4 u H locs ls hw hl hf
      cases hf
    | succ n hk3 =>
      intro b0 b2 b4 u H locs ls hw hl hf
      have hf : b_X3_commonPart_L3 (f_X3_commonPart_L3 n) b0 b2 b4 u = some (r, u') := hf
      unfold b_X3_commonPart_L3 at hf
      refine lv_iload hx hb dX3_commonPart_3 (lv_at hl 2 rfl) ?_
      refine lv_sipush (v := (200 : Int32)) hx hb dX3_commonPart_5 (by decide) ?_
      refine lv_icmp_ge (tgt := 33) hx hb dX3_commonPart_8 (by decide) (fun z => ?_) (fun z => ?_)
      · have hf := it_pos z hf
        refine lv_lload_n hx hb dX3_commonPart_33 rfl (lv_at hl 0 rfl) ?_
        exact retL hc hr hlk hw hf dX3_commonPart_34
      · have hf := it_neg z hf
        refine lv_lload_n hx hb dX3_commonPart_11 rfl (lv_at hl 1 rfl) ?_
        refine lv_lconst (v := (0 : Int64)) hx hb dX3_commonPart_12 (by decide) ?_
        refine W.lcmp hx hb dX3_commonPart_13 ?_
        refine lv_if_eq (tgt := 33) hx hb dX3_commonPart_14 (by decide) (fun z => ?_) (fun z => ?_)
        · have hf := it_pos z hf
          refine lv_lload_n hx hb dX3_commonPart_33 rfl (lv_at hl 0 rfl) ?_
          exact retL hc hr hlk hw hf dX3_commonPart_34
        · have hf := it_neg z hf
          refine lv_lload_n hx hb dX3_commonPart_17 rfl (lv_at hl 0 rfl) ?_
          refine lv_lload_n hx hb dX3_commonPart_18 rfl (lv_at hl 1 rfl) ?_
          obtain ⟨z, hf⟩ := it_none hf
          refine lv_lrem hx hb dX3_commonPart_19 z ?_
          obtain ⟨x1, ex1, hf⟩ := lt_some hf
          refine topel ex1 ?_
          refine lv_lstore (lv' := [(5, .long x1), (0, .long b0), (2, .long b2), (4, .int b4)]) hx hb dX3_commonPart_20 hl (by decide) rfl (fun ls hl => ?_)
          refine lv_lload_n hx hb dX3_commonPart_22 rfl (lv_at hl 2 rfl) ?_
          refine lv_lstore_n (lv' := [(0, .long b2), (5, .long x1), (2, .long b2), (4, .int b4)]) hx hb dX3_commonPart_23 rfl hl (by decide) rfl (fun ls hl => ?_)
          refine lv_lload hx hb dX3_commonPart_24 (lv_at hl 1 rfl) ?_
          refine lv_lstore_n (lv' := [(2, .long x1), (0, .long b2), (5, .long x1), (4, .int b4)]) hx hb dX3_commonPart_26 rfl hl (by decide) rfl (fun ls hl => ?_)
          obtain ⟨x2, ex2, hf⟩ := lt_some hf
          refine lv_iinc (v := x2) (lv' := [(4, .int x2), (2, .long x1), (0, .long b2), (5, .long x1)]) hx hb dX3_commonPart_27 hl (k := 3) rfl (by rw [ex2]; rfl) (by decide) rfl (fun ls hl => ?_)
          refine lv_goto (tgt := 3) hx hb dX3_commonPart_30 (by decide) ?_
          exact hk3 b2 x1 x2 u H locs ls hw (lv_sub hl [2, 1, 0] rfl) hf
  unfold f_X3_commonPart at hf
  refine lv_iconst (v := (0 : Int32)) hx hb dX3_commonPart_0 (by decide) ?_
  refine lv_istore (lv' := [(4, .int (0 : Int32)), (0, .long a0), (2, .long a2)]) hx hb dX3_commonPart_1 hl (by decide) rfl (fun ls hl => ?_)
  exact wL3 FU a0 a2 (0 : Int32) u H locs ls hw (lv_sub hl [1, 2, 0] rfl) hf
def f_X3_put_L55 (b1 : Int64) (b3 : Int64) (b5 : Int64) (q0 : Int64) (u : SS) : Option SS :=
  if b5 = 0 then none else lt ((q0 * b1) / b5) fun x7 => if b5 = 0 then none else lt ((q0 * b3) / b5) fun x8 => if 0 < (lg_cmp (if 0 < x7 then x7 else -x7) (1000000000 : Int64)) then (some u) else (if 0 < (lg_cmp x8 (1000000000 : Int64)) then (some u) else (lt (sI u 25 (0 : Int32)) fun u9 => lt (sJ u9 6 x7) fun u10 => lt (sJ u10 7 x8) fun u11 => some u11))
def f_X3_put (a1 : Int64) (a3 : Int64) (u : SS) : Option SS :=
  lt (sI u 25 (1 : Int32)) fun u1 => lt (sJ u1 6 (0 : Int64)) fun u2 => lt (sJ u2 7 (1 : Int64)) fun u3 => ob (f_X3_commonPart (if 0 < a1 then a1 else -a1) (if 0 < a3 then a3 else -a3) u3) fun r6 u5 => if (lg_cmp a3 (0 : Int64)) = 0 then (some u5) else (if (lg_cmp r6 (0 : Int64)) = 0 then (some u5) else (if 0 ≤ (lg_cmp a3 (0 : Int64)) then (f_X3_put_L55 a1 a3 r6 (1 : Int64) u5) else (f_X3_put_L55 a1 a3 r6 (-1 : Int64) u5)))
set_option maxHeartbeats 4000000 in
set_option maxRecDepth 100000 in
theorem c_X3_put (l : Launch) (ev : EV) (a1 : Int64) (a3 : Int64) (u : SS) {u' : SS} (hf : f_X3_put a1 a3 u = some u') : MV wdB l yX3_put cX3_put 13 none 1 ev [.ref (ev.2.1 8), .long a1, .long a3] u u' := by
  refine bodyV (by decide +kernel) rfl (Nat.le_of_ble_eq_true rfl) ?_
  intro p e s m below meth cd ls H locs hc hr hlk hw hl
  generalize hav : (List.toArray [.ref (ev.2.1 8), .long a1, .long a3] : Array Value) = av at hc ⊢
  obtain ⟨hx, hb, hml, hown, hts, hK, hZ⟩ := id hc
  have hl : lv_has ls 13 [(0, .ref (ev.2.1 8)), (1, .long a1), (3, .long a3)] := hl
  have wL55 : ∀ (b1 : Int64) (b3 : Int64) (b5 : Int64) (q0 : Int64) (u : SS) (H : Heap) (locs : List Loc) (ls : Array Slot), VW wdB ev s u H locs → lv_has ls 13 [(0, .ref (ev.2.1 8)), (1, .long b1), (3, .long b3), (5, .long b5)] → f_X3_put_L55 b1 b3 b5 q0 u = some u' → W p l e (rmk 1) s m av below meth cd H locs 0 0 (ZV wdB ev s below av u') (F0 m 55 ls [.long q0]) := by
    intro b1 b3 b5 q0 u H locs ls hw hl hf
    unfold f_X3_put_L55 at hf
    refine lv_lstore (lv' := [(7, .long q0), (0, .ref (ev.2.1 8)), (1, .long b1), (3, .long b3), (5, .long b5)]) hx hb dX3_put_55 hl (by decide) rfl (fun ls hl => ?_)
    refine lv_lload hx hb dX3_put_57 (lv_at hl 0 rfl) ?_
    refine lv_lload_n hx hb dX3_put_59 rfl (lv_at hl 2 rfl) ?_
    refine lv_lmul hx hb dX3_put_60 ?_
    refine lv_lload hx hb dX3_put_61 (lv_at hl 4 rfl) ?_
    obtain ⟨z, hf⟩ := it_none hf
    refine lv_ldiv hx hb dX3_put_63 z ?_
    obtain ⟨x7, ex7, hf⟩ := lt_some hf
    refine topel ex7 ?_
    refine lv_lstore (lv' := [(9, .long x7), (7, .long q0), (0, .ref (ev.2.1 8)), (1, .long b1), (3, .long b3), (5, .long b5)]) hx hb dX3_put_64 hl (by decide) rfl (fun ls hl => ?_)
    refine lv_lload hx hb dX3_put_66 (lv_at hl 1 rfl) ?_
    refine lv_lload_n hx hb dX3_put_68 rfl (lv_at hl 4 rfl) ?_
    refine lv_lmul hx hb dX3_put_69 ?_
    refine lv_lload hx hb dX3_put_70 (lv_at hl 5 rfl) ?_
    obtain ⟨z, hf⟩ := it_none hf
    refine lv_ldiv hx hb dX3_put_72 z ?_
    obtain ⟨x8, ex8, hf⟩ := lt_some hf
    refine topel ex8 ?_
    refine lv_lstore (lv' := [(11, .long x8), (9, .long x7), (7, .long q0), (0, .ref (ev.2.1 8)), (1, .long b1), (3, .long b3), (5, .long b5)]) hx hb dX3_put_73 hl (by decide) rfl (fun ls hl => ?_)
    refine lv_lload hx hb dX3_put_75 (lv_at hl 1 rfl) ?_
    refine va_mabs_long hx hb (hml.trans hl.1.symm) hown (hts _ ml_X3_20) (hts _ va_mabs_long_st) (hts _ math_in) (hts _ va_mabs_long_cd) (by decide) (Nat.le_of_ble_eq_true rfl) (Nat.zero_le _) (Nat.zero_le _) dX3_put_77 ?_
    refine lv_ldc2 (v := (1000000000 : Int64)) hx hb hown (hts _ ct_X3_32) dX3_put_80 ?_
    refine W.lcmp hx hb dX3_put_83 ?_
    refine lv_if_gt (tgt := 113) hx hb dX3_put_84 (by decide) (fun z => ?_) (fun z => ?_)
    · have hf := it_pos z hf
      exact retV hc hr hlk hw hf dX3_put_113
    · have hf := it_neg z hf
      refine lv_lload hx hb dX3_put_87 (lv_at hl 0 rfl) ?_
      refine lv_ldc2 (v := (1000000000 : Int64)) hx hb hown (hts _ ct_X3_32) dX3_put_89 ?_
      refine W.lcmp hx hb dX3_put_92 ?_
      refine lv_if_gt (tgt := 113) hx hb dX3_put_93 (by decide) (fun z => ?_) (fun z => ?_)
      · have hf := it_pos z hf
        exact retV hc hr hlk hw hf dX3_put_113
      · have hf := it_neg z hf
        refine lv_aload_n hx hb dX3_put_96 rfl (lv_at hl 3 rfl) ?_
        refine lv_iconst (v := (0 : Int32)) hx hb dX3_put_97 (by decide) ?_
        refine pB8_2 hc hw fl_X3_13 nz0 fz0 dX3_put_98 (fun H locs hw => ?_)
        obtain ⟨u9, eu9, hf⟩ := lt_some hf
        have hw := VW.nm eu9 hw
        refine lv_aload_n hx hb dX3_put_101 rfl (lv_at hl 3 rfl) ?_
        refine lv_lload hx hb dX3_put_102 (lv_at hl 1 rfl) ?_
        refine pB8_0 hc hw fl_X3_17 dX3_put_104 (fun H locs hw => ?_)
        obtain ⟨u10, eu10, hf⟩ := lt_some hf
        have hw := VW.nm eu10 hw
        refine lv_aload_n hx hb dX3_put_107 rfl (lv_at hl 3 rfl) ?_
        refine lv_lload hx hb dX3_put_108 (lv_at hl 0 rfl) ?_
        refine pB8_1 hc hw fl_X3_7 dX3_put_110 (fun H locs hw => ?_)
        obtain ⟨u11, eu11, hf⟩ := lt_some hf
        have hw := VW.nm eu11 hw
        exact retV hc hr hlk hw hf dX3_put_113
  unfold f_X3_put at hf
  refine lv_aload_n hx hb dX3_put_0 rfl (lv_at hl 0 rfl) ?_
  refine lv_iconst (v := (1 : Int32)) hx hb dX3_put_1 (by decide) ?_
  refine pB8_2 hc hw fl_X3_13 nz1 fz1 dX3_put_2 (fun H locs hw => ?_)
  obtain ⟨u1, eu1, hf⟩ := lt_some hf
  have hw := VW.nm eu1 hw
  refine lv_aload_n hx hb dX3_put_5 rfl (lv_at hl 0 rfl) ?_
  refine lv_lconst (v := (0 : Int64)) hx hb dX3_put_6 (by decide) ?_
  refine pB8_0 hc hw fl_X3_17 dX3_put_7 (fun H locs hw => ?_)
  obtain ⟨u2, eu2, hf⟩ := lt_some hf
  have hw := VW.nm eu2 hw
  refine lv_aload_n hx hb dX3_put_10 rfl (lv_at hl 0 rfl) ?_
  refine lv_lconst (v := (1 : Int64)) hx hb dX3_put_11 (by decide) ?_
  refine pB8_1 hc hw fl_X3_7 dX3_put_12 (fun H locs hw => ?_)
  obtain ⟨u3, eu3, hf⟩ := lt_some hf
  have hw := VW.nm eu3 hw
  refine lv_lload_n hx hb dX3_put_15 rfl (lv_at hl 1 rfl) ?_
  refine va_mabs_long hx hb (hml.trans hl.1.symm) hown (hts _ ml_X3_20) (hts _ va_mabs_long_st) (hts _ math_in) (hts _ va_mabs_long_cd) (by decide) (Nat.le_of_ble_eq_true rfl) (Nat.zero_le _) (Nat.zero_le _) dX3_put_16 ?_
  refine lv_lload_n hx hb dX3_put_19 rfl (lv_at hl 2 rfl) ?_
  refine va_mabs_long hx hb (hml.trans hl.1.symm) hown (hts _ ml_X3_20) (hts _ va_mabs_long_st) (hts _ math_in) (hts _ va_mabs_long_cd) (by decide) (Nat.le_of_ble_eq_true rfl) (Nat.zero_le _) (Nat.zero_le _) dX3_put_20 ?_
  obtain ⟨r6, u5, h4, hf⟩ := ob_some hf
  refine endL okB hw (runS_ok (As := [.long (if 0 < a1 then a1 else -a1), .long (if 0 < a3 then a3 else -a3)]) (rest := []) okB hc hw (c_X3_commonPart l ev (if 0 < a1 then a1 else -a1) (if 0 < a3 then a3 else -a3) u3 h4 H.size) ks_X3_commonPart ml_X3_26 hl.1 rfl rfl (Nat.le_of_ble_eq_true rfl) (rm_le (by decide) (by decide)) dX3_put_23) (fun H locs hw => ?_)
  refine lv_lstore (lv' := [(5, .long r6), (0, .ref (ev.2.1 8)), (1, .long a1), (3, .long a3)]) hx hb dX3_put_26 hl (by decide) rfl (fun ls hl => ?_)
  refine lv_lload_n hx hb dX3_put_28 rfl (lv_at hl 3 rfl) ?_
  refine lv_lconst (v := (0 : Int64)) hx hb dX3_put_29 (by decide) ?_
  refine W.lcmp hx hb dX3_put_30 ?_
  refine lv_if_eq (tgt := 41) hx hb dX3_put_31 (by decide) (fun z => ?_) (fun z => ?_)
  · have hf := it_pos z hf
    exact retV hc hr hlk hw hf dX3_put_41
  · have hf := it_neg z hf
    refine lv_lload hx hb dX3_put_34 (lv_at hl 0 rfl) ?_
    refine lv_lconst (v := (0 : Int64)) hx hb dX3_put_36 (by decide) ?_
    refine W.lcmp hx hb dX3_put_37 ?_
    refine lv_if_ne (tgt := 42) hx hb dX3_put_38 (by decide) (fun z => ?_) (fun z => ?_)
    · have hf := it_neg z hf
      refine lv_lload_n hx hb dX3_put_42 rfl (lv_at hl 3 rfl) ?_
      refine lv_lconst (v := (0 : Int64)) hx hb dX3_put_43 (by decide) ?_
      refine W.lcmp hx hb dX3_put_44 ?_
      refine lv_if_ge (tgt := 54) hx hb dX3_put_45 (by decide) (fun z => ?_) (fun z => ?_)
      · have hf := it_pos z hf
        refine lv_lconst (v := (1 : Int64)) hx hb dX3_put_54 (by decide) ?_
        exact wL55 a1 a3 r6 (1 : Int64) u5 H locs ls hw (lv_sub hl [1, 2, 3, 0] rfl) hf
      · have hf := it_neg z hf
        refine lv_ldc2 (v := (-1 : Int64)) hx hb hown (hts _ ct_X3_30) dX3_put_48 ?_
        refine lv_goto (tgt := 55) hx hb dX3_put_51 (by decide) ?_
        exact wL55 a1 a3 r6 (-1 : Int64) u5 H locs ls hw (lv_sub hl [1, 2, 3, 0] rfl) hf
    · have hf := it_pos z hf
      exact retV hc hr hlk hw hf dX3_put_41
def f_X7_sumUp_L148 (k31 : Int64 → Int32 → SS → Option SS) (b1 : Int64) (b3 : Int32) (u : SS) : Option SS :=
  lt (b3 + (1 : Int32)) fun x10 => k31 b1 x10 u
def b_X7_sumUp_L31 (k31 : Int64 → Int32 → SS → Option SS) (b1 : Int64) (b3 : Int32) (u : SS) : Option SS :=
  if (8 : Int32) ≤ b3 then (ov (f_X3_put b1 ((if (1 : Int32) < (gI u 12) then (gI u 12) else (1 : Int32)).toInt64) u) fun u7 => lt (sJ u7 2 (gJ u7 6)) fun u8 => lt (sJ u8 3 (gJ u8 7)) fun u9 => some u9) else (oi b3 8 (if (gA u 16 b3.toNatClampNeg) = 0 then (f_X7_sumUp_L148 k31 b1 b3 u) else (oi b3 8 (lt (sJ u 0 (if ((gA u 17 b3.toNatClampNeg).toInt64) < (gJ u 0) then ((gA u 17 b3.toNatClampNeg).toInt64) else (gJ u 0))) fun u11 => oi b3 8 (lt (sJ u11 1 (if ((gA u11 17 b3.toNatClampNeg).toInt64) < (gJ u11 1) then (gJ u11 1) else ((gA u11 17 b3.toNatClampNeg).toInt64))) fun u12 => oi b3 8 (lt (b1 + ((gA u12 17 b3.toNatClampNeg).toInt64)) fun x13 => lt (sI u12 12 ((gI u12 12) + (1 : Int32))) fun u14 => oi b3 8 (oi b3 8 (if (lg_cmp ((gL u14 0 b3.toNatClampNeg) * (gJ u14 5)) ((gJ u14 4) * (gL u14 1 b3.toNatClampNeg))) ≤ 0 then (f_X7_sumUp_L148 k31 x13 b3 u14) else (oi b3 8 (lt (sJ u14 4 (gL u14 0 b3.toNatClampNeg)) fun u15 => oi b3 8 (lt (sJ u15 5 (gL u15 1 b3.toNatClampNeg)) fun u16 => f_X7_sumUp_L148 k31 x13 b3 u16)))))))))))
def f_X7_sumUp_L31 : Nat → Int64 → Int32 → SS → Option SS
  | 0 => fun _ _ _ => none
  | n + 1 => b_X7_sumUp_L31 (f_X7_sumUp_L31 n)
def f_X7_sumUp (u : SS) : Option SS :=
  lt (sJ u 0 (9223372036854775807 : Int64)) fun u1 => lt (sJ u1 1 (0 : Int64)) fun u2 => lt (sI u2 12 (0 : Int32)) fun u3 => lt (sJ u3 4 (0 : Int64)) fun u4 => lt (sJ u4 5 (1 : Int64)) fun u5 => f_X7_sumUp_L31 FU (0 : Int64) (0 : Int32) u5
set_option maxHeartbeats 4000000 in
set_option maxRecDepth 100000 in
theorem c_X7_sumUp (l : Launch) (ev : EV) (u : SS) {u' : SS} (hf : f_X7_sumUp  u = some u') : MV wdB l yX7_sumUp cX7_sumUp 4 none 2 ev [.ref (ev.2.1 4)] u u' := by
  refine bodyV (by decide +kernel) rfl (Nat.le_of_ble_eq_true rfl) ?_
  intro p e s m below meth cd ls H locs hc hr hlk hw hl
  generalize hav : (List.toArray [.ref (ev.2.1 4)] : Array Value) = av at hc ⊢
  obtain ⟨hx, hb, hml, hown, hts, hK, hZ⟩ := id hc
  have hl : lv_has ls 4 [(0, .ref (ev.2.1 4))] := hl
  have wL148 : ∀ (k31 : Int64 → Int32 → SS → Option SS) (hk31 : ∀ (b1 : Int64) (b3 : Int32) (u : SS) (H : Heap) (locs : List Loc) (ls : Array Slot), VW wdB ev s u H locs → lv_has ls 4 [(0, .ref (ev.2.1 4)), (1, .long b1), (3, .int b3)] → k31 b1 b3 u = some u' → W p l e (rmk 2) s m av below meth cd H locs 0 0 (ZV wdB ev s below av u') (F0 m 31 ls [])) (b1 : Int64) (b3 : Int32) (u : SS) (H : Heap) (locs : List Loc) (ls : Array Slot), VW wdB ev s u H locs → lv_has ls 4 [(0, .ref (ev.2.1 4)), (1, .long b1), (3, .int b3)] → f_X7_sumUp_L148 k31 b1 b3 u = some u' → W p l e (rmk 2) s m av below meth cd H locs 0 0 (ZV wdB ev s below av u') (F0 m 148 ls []) := by
    intro k31 hk31 b1 b3 u H locs ls hw hl hf
    unfold f_X7_sumUp_L148 at hf
    obtain ⟨x10, ex10, hf⟩ := lt_some hf
    refine lv_iinc (v := x10) (lv' := [(3, .int x10), (0, .ref (ev.2.1 4)), (1, .long b1)]) hx hb dX7_sumUp_148 hl (k := 2) rfl (by rw [ex10]; rfl) (by decide) rfl (fun ls hl => ?_)
    refine lv_goto (tgt := 31) hx hb dX7_sumUp_151 (by decide) ?_
    exact hk31 b1 x10 u H locs ls hw (lv_sub hl [1, 2, 0] rfl) hf
  have wL31 : ∀ (n : Nat) (b1 : Int64) (b3 : Int32) (u : SS) (H : Heap) (locs : List Loc) (ls : Array Slot), VW wdB ev s u H locs → lv_has ls 4 [(0, .ref (ev.2.1 4)), (1, .long b1), (3, .int b3)] → f_X7_sumUp_L31 n b1 b3 u = some u' → W p l e (rmk 2) s m av below meth cd H locs 0 0 (ZV wdB ev s below av u') (F0 m 31 ls []) := by
    intro n
    induction n with
    | zero =>
      intro b1 b3 u H locs ls hw hl hf
      cases hf
    | succ n hk31 =>
      intro b1 b3 u H locs ls hw hl hf
      have hf : b_X7_sumUp_L31 (f_X7_sumUp_L31 n) b1 b3 u = some u' := hf
      unfold b_X7_sumUp_L31 at hf
      refine lv_iload_n hx hb dX7_sumUp_31 rfl (lv_at hl 2 rfl) ?_
      refine lv_bipush (v := (8 : Int32)) hx hb dX7_sumUp_32 (by decide) ?_
      refine lv_icmp_ge (tgt := 154) hx hb dX7_sumUp_34 (by decide) (fun z => ?_) (fun z => ?_)
      · have hf := it_pos z hf
        refine lv_aload_n hx hb dX7_sumUp_154 rfl (lv_at hl 0 rfl) ?_
        refine gB4_0 hc hw fl_X7_12 dX7_sumUp_155 ?_
        refine lv_lload_n hx hb dX7_sumUp_158 rfl (lv_at hl 1 rfl) ?_
        refine lv_iconst (v := (1 : Int32)) hx hb dX7_sumUp_159 (by decide) ?_
        refine lv_aload_n hx hb dX7_sumUp_160 rfl (lv_at hl 0 rfl) ?_
        refine gB4_17 hc hw fl_X7_98 dX7_sumUp_161 ?_
        refine va_mmax hx hb (hml.trans hl.1.symm) hown (hts _ ml_X7_117) (hts _ va_mmax_st) (hts _ math_in) (hts _ va_mmax_cd) (by decide) (Nat.le_of_ble_eq_true rfl) (Nat.zero_le _) (Nat.zero_le _) dX7_sumUp_164 ?_
        refine lv_i2l (v := (if (1 : Int32) < (gI u 12) then (gI u 12) else (1 : Int32)).toInt64) hx hb dX7_sumUp_167 rfl ?_
        obtain ⟨u7, h6, hf⟩ := ov_some hf
        refine endV okB hw (runV_ok (As := [.long b1, .long ((if (1 : Int32) < (gI u 12) then (gI u 12) else (1 : Int32)).toInt64)]) (rest := []) okB hc hw (c_X3_put l ev b1 ((if (1 : Int32) < (gI u 12) then (gI u 12) else (1 : Int32)).toInt64) u h6 H.size) kv_X3_put ml_X7_119 (rvB8 ev u) hl.1 rfl rfl (Nat.le_of_ble_eq_true rfl) (rm_le (by decide) (by decide)) dX7_sumUp_168) (fun H locs hw => ?_)
        refine lv_aload_n hx hb dX7_sumUp_171 rfl (lv_at hl 0 rfl) ?_
        refine lv_aload_n hx hb dX7_sumUp_172 rfl (lv_at hl 0 rfl) ?_
        refine gB4_0 hc hw fl_X7_12 dX7_sumUp_173 ?_
        refine gB8_0 hc hw fl_X7_78 dX7_sumUp_176 ?_
        refine pB4_15 hc hw fl_X7_123 dX7_sumUp_179 (fun H locs hw => ?_)
        obtain ⟨u8, eu8, hf⟩ := lt_some hf
        have hw := VW.nm eu8 hw
        refine lv_aload_n hx hb dX7_sumUp_182 rfl (lv_at hl 0 rfl) ?_
        refine lv_aload_n hx hb dX7_sumUp_183 rfl (lv_at hl 0 rfl) ?_
        refine gB4_0 hc hw fl_X7_12 dX7_sumUp_184 ?_
        refine gB8_1 hc hw fl_X7_82 dX7_sumUp_187 ?_
        refine pB4_16 hc hw fl_X7_126 dX7_sumUp_190 (fun H locs hw => ?_)
        obtain ⟨u9, eu9, hf⟩ := lt_some hf
        have hw := VW.nm eu9 hw
        exact retV hc hr hlk hw hf dX7_sumUp_193
      · have hf := it_neg z hf
        refine lv_aload_n hx hb dX7_sumUp_37 rfl (lv_at hl 0 rfl) ?_
        refine gB4_1 hc hw fl_X7_18 dX7_sumUp_38 ?_
        refine lv_iload_n hx hb dX7_sumUp_41 rfl (lv_at hl 2 rfl) ?_
        obtain ⟨z, hf⟩ := oi_some hf
        refine aB25 hc hw z dX7_sumUp_42 ?_
        refine lv_if_eq (tgt := 148) hx hb dX7_sumUp_43 (by decide) (fun z => ?_) (fun z => ?_)
        · have hf := it_pos z hf
          exact wL148 (f_X7_sumUp_L31 n) hk31 b1 b3 u H locs ls hw (lv_sub hl [0, 1, 2] rfl) hf
        · have hf := it_neg z hf
          refine lv_aload_n hx hb dX7_sumUp_46 rfl (lv_at hl 0 rfl) ?_
          refine lv_aload_n hx hb dX7_sumUp_47 rfl (lv_at hl 0 rfl) ?_
          refine gB4_13 hc hw fl_X7_92 dX7_sumUp_48 ?_
          refine lv_aload_n hx hb dX7_sumUp_51 rfl (lv_at hl 0 rfl) ?_
          refine gB4_2 hc hw fl_X7_22 dX7_sumUp_52 ?_
          refine lv_iload_n hx hb dX7_sumUp_55 rfl (lv_at hl 2 rfl) ?_
          obtain ⟨z, hf⟩ := oi_some hf
          refine aB26 hc hw z dX7_sumUp_56 ?_
          refine lv_i2l (v := (gA u 17 b3.toNatClampNeg).toInt64) hx hb dX7_sumUp_57 rfl ?_
          refine va_mmin_long hx hb (hml.trans hl.1.symm) hown (hts _ ml_X7_108) (hts _ va_mmin_long_st) (hts _ math_in) (hts _ va_mmin_long_cd) (by decide) (Nat.le_of_ble_eq_true rfl) (Nat.zero_le _) (Nat.zero_le _) dX7_sumUp_58 ?_
          refine pB4_13 hc hw fl_X7_92 dX7_sumUp_61 (fun H locs hw => ?_)
          obtain ⟨u11, eu11, hf⟩ := lt_some hf
          have hw := VW.nm eu11 hw
          refine lv_aload_n hx hb dX7_sumUp_64 rfl (lv_at hl 0 rfl) ?_
          refine lv_aload_n hx hb dX7_sumUp_65 rfl (lv_at hl 0 rfl) ?_
          refine gB4_14 hc hw fl_X7_95 dX7_sumUp_66 ?_
          refine lv_aload_n hx hb dX7_sumUp_69 rfl (lv_at hl 0 rfl) ?_
          refine gB4_2 hc hw fl_X7_22 dX7_sumUp_70 ?_
          refine lv_iload_n hx hb dX7_sumUp_73 rfl (lv_at hl 2 rfl) ?_
          obtain ⟨z, hf⟩ := oi_some hf
          refine aB26 hc hw z dX7_sumUp_74 ?_
          refine lv_i2l (v := (gA u11 17 b3.toNatClampNeg).toInt64) hx hb dX7_sumUp_75 rfl ?_
          refine va_mmax_long hx hb (hml.trans hl.1.symm) hown (hts _ ml_X7_114) (hts _ va_mmax_long_st) (hts _ math_in) (hts _ va_mmax_long_cd) (by decide) (Nat.le_of_ble_eq_true rfl) (Nat.zero_le _) (Nat.zero_le _) dX7_sumUp_76 ?_
          refine pB4_14 hc hw fl_X7_95 dX7_sumUp_79 (fun H locs hw => ?_)
          obtain ⟨u12, eu12, hf⟩ := lt_some hf
          have hw := VW.nm eu12 hw
          refine lv_lload_n hx hb dX7_sumUp_82 rfl (lv_at hl 1 rfl) ?_
          refine lv_aload_n hx hb dX7_sumUp_83 rfl (lv_at hl 0 rfl) ?_
          refine gB4_2 hc hw fl_X7_22 dX7_sumUp_84 ?_
          refine lv_iload_n hx hb dX7_sumUp_87 rfl (lv_at hl 2 rfl) ?_
          obtain ⟨z, hf⟩ := oi_some hf
          refine aB26 hc hw z dX7_sumUp_88 ?_
          refine lv_i2l (v := (gA u12 17 b3.toNatClampNeg).toInt64) hx hb dX7_sumUp_89 rfl ?_
          refine lv_ladd hx hb dX7_sumUp_90 ?_
          obtain ⟨x13, ex13, hf⟩ := lt_some hf
          refine topel ex13 ?_
          refine lv_lstore_n (lv' := [(1, .long x13), (0, .ref (ev.2.1 4)), (3, .int b3)]) hx hb dX7_sumUp_91 rfl hl (by decide) rfl (fun ls hl => ?_)
          refine lv_aload_n hx hb dX7_sumUp_92 rfl (lv_at hl 1 rfl) ?_
          refine lv_dup hx hb dX7_sumUp_93 rfl ?_
          refine gB4_17 hc hw fl_X7_98 dX7_sumUp_94 ?_
          refine lv_iconst (v := (1 : Int32)) hx hb dX7_sumUp_97 (by decide) ?_
          refine lv_iadd hx hb dX7_sumUp_98 ?_
          refine pB4_17 hc hw fl_X7_98 dX7_sumUp_99 (fun H locs hw => ?_)
          obtain ⟨u14, eu14, hf⟩ := lt_some hf
          have hw := VW.nm eu14 hw
          refine lv_aload_n hx hb dX7_sumUp_102 rfl (lv_at hl 1 rfl) ?_
          refine gB4_3 hc hw fl_X7_26 dX7_sumUp_103 ?_
          refine lv_iload_n hx hb dX7_sumUp_106 rfl (lv_at hl 2 rfl) ?_
          obtain ⟨z, hf⟩ := oi_some hf
          refine aB27 hc hw z dX7_sumUp_107 ?_
          refine lv_aload_n hx hb dX7_sumUp_108 rfl (lv_at hl 1 rfl) ?_
          refine gB4_19 hc hw fl_X7_105 dX7_sumUp_109 ?_
          refine lv_lmul hx hb dX7_sumUp_112 ?_
          refine lv_aload_n hx hb dX7_sumUp_113 rfl (lv_at hl 1 rfl) ?_
          refine gB4_18 hc hw fl_X7_102 dX7_sumUp_114 ?_
          refine lv_aload_n hx hb dX7_sumUp_117 rfl (lv_at hl 1 rfl) ?_
          refine gB4_4 hc hw fl_X7_30 dX7_sumUp_118 ?_
          refine lv_iload_n hx hb dX7_sumUp_121 rfl (lv_at hl 2 rfl) ?_
          obtain ⟨z, hf⟩ := oi_some hf
          refine aB28 hc hw z dX7_sumUp_122 ?_
          refine lv_lmul hx hb dX7_sumUp_123 ?_
          refine W.lcmp hx hb dX7_sumUp_124 ?_
          refine lv_if_le (tgt := 148) hx hb dX7_sumUp_125 (by decide) (fun z => ?_) (fun z => ?_)
          · have hf := it_pos z hf
            exact wL148 (f_X7_sumUp_L31 n) hk31 x13 b3 u14 H locs ls hw (lv_sub hl [1, 0, 2] rfl) hf
          · have hf := it_neg z hf
            refine lv_aload_n hx hb dX7_sumUp_128 rfl (lv_at hl 1 rfl) ?_
            refine lv_aload_n hx hb dX7_sumUp_129 rfl (lv_at hl 1 rfl) ?_
            refine gB4_3 hc hw fl_X7_26 dX7_sumUp_130 ?_
            refine lv_iload_n hx hb dX7_sumUp_133 rfl (lv_at hl 2 rfl) ?_
            obtain ⟨z, hf⟩ := oi_some hf
            refine aB27 hc hw z dX7_sumUp_134 ?_
            refine pB4_18 hc hw fl_X7_102 dX7_sumUp_135 (fun H locs hw => ?_)
            obtain ⟨u15, eu15, hf⟩ := lt_some hf
            have hw := VW.nm eu15 hw
            refine lv_aload_n hx hb dX7_sumUp_138 rfl (lv_at hl 1 rfl) ?_
            refine lv_aload_n hx hb dX7_sumUp_139 rfl (lv_at hl 1 rfl) ?_
            refine gB4_4 hc hw fl_X7_30 dX7_sumUp_140 ?_
            refine lv_iload_n hx hb dX7_sumUp_143 rfl (lv_at hl 2 rfl) ?_
            obtain ⟨z, hf⟩ := oi_some hf
            refine aB28 hc hw z dX7_sumUp_144 ?_
            refine pB4_19 hc hw fl_X7_105 dX7_sumUp_145 (fun H locs hw => ?_)
            obtain ⟨u16, eu16, hf⟩ := lt_some hf
            have hw := VW.nm eu16 hw
            exact wL148 (f_X7_sumUp_L31 n) hk31 x13 b3 u16 H locs ls hw (lv_sub hl [1, 0, 2] rfl) hf
  unfold f_X7_sumUp at hf
  refine lv_lconst (v := (0 : Int64)) hx hb dX7_sumUp_0 (by decide) ?_
  refine lv_lstore_n (lv' := [(1, .long (0 : Int64)), (0, .ref (ev.2.1 4))]) hx hb dX7_sumUp_1 rfl hl (by decide) rfl (fun ls hl => ?_)
  refine lv_aload_n hx hb dX7_sumUp_2 rfl (lv_at hl 1 rfl) ?_
  refine lv_ldc2 (v := (9223372036854775807 : Int64)) hx hb hown (hts _ ct_X7_90) dX7_sumUp_3 ?_
  refine pB4_13 hc hw fl_X7_92 dX7_sumUp_6 (fun H locs hw => ?_)
  obtain ⟨u1, eu1, hf⟩ := lt_some hf
  have hw := VW.nm eu1 hw
  refine lv_aload_n hx hb dX7_sumUp_9 rfl (lv_at hl 1 rfl) ?_
  refine lv_lconst (v := (0 : Int64)) hx hb dX7_sumUp_10 (by decide) ?_
  refine pB4_14 hc hw fl_X7_95 dX7_sumUp_11 (fun H locs hw => ?_)
  obtain ⟨u2, eu2, hf⟩ := lt_some hf
  have hw := VW.nm eu2 hw
  refine lv_aload_n hx hb dX7_sumUp_14 rfl (lv_at hl 1 rfl) ?_
  refine lv_iconst (v := (0 : Int32)) hx hb dX7_sumUp_15 (by decide) ?_
  refine pB4_17 hc hw fl_X7_98 dX7_sumUp_16 (fun H locs hw => ?_)
  obtain ⟨u3, eu3, hf⟩ := lt_some hf
  have hw := VW.nm eu3 hw
  refine lv_aload_n hx hb dX7_sumUp_19 rfl (lv_at hl 1 rfl) ?_
  refine lv_lconst (v := (0 : Int64)) hx hb dX7_sumUp_20 (by decide) ?_
  refine pB4_18 hc hw fl_X7_102 dX7_sumUp_21 (fun H locs hw => ?_)
  obtain ⟨u4, eu4, hf⟩ := lt_some hf
  have hw := VW.nm eu4 hw
  refine lv_aload_n hx hb dX7_sumUp_24 rfl (lv_at hl 1 rfl) ?_
  refine lv_lconst (v := (1 : Int64)) hx hb dX7_sumUp_25 (by decide) ?_
  refine pB4_19 hc hw fl_X7_105 dX7_sumUp_26 (fun H locs hw => ?_)
  obtain ⟨u5, eu5, hf⟩ := lt_some hf
  have hw := VW.nm eu5 hw
  refine lv_iconst (v := (0 : Int32)) hx hb dX7_sumUp_29 (by decide) ?_
  refine lv_istore_n (lv' := [(3, .int (0 : Int32)), (1, .long (0 : Int64)), (0, .ref (ev.2.1 4))]) hx hb dX7_sumUp_30 rfl hl (by decide) rfl (fun ls hl => ?_)
  exact wL31 FU (0 : Int64) (0 : Int32) u5 H locs ls hw (lv_sub hl [2, 1, 0] rfl) hf
def f_X5_weigh_L105 (b3 : Int32) (b4 : Int32) (u : SS) : Option SS :=
  ov (f_X3_put (b4.toInt64) ((if (1 : Int32) < b3 then b3 else (1 : Int32)).toInt64) u) fun u2 => some u2
def f_X5_weigh_L81 (k15 : Int32 → Int32 → Int32 → Int32 → Int32 → Int32 → SS → Option SS) (b1 : Int32) (b3 : Int32) (b4 : Int32) (b5 : Int32) (b6 : Int32) (b7 : Int32) (u : SS) : Option SS :=
  lt (b7 + (1 : Int32)) fun x6 => k15 b1 b3 b4 b5 b6 x6 u
def b_X5_weigh_L15 (k15 : Int32 → Int32 → Int32 → Int32 → Int32 → Int32 → SS → Option SS) (b1 : Int32) (b3 : Int32) (b4 : Int32) (b5 : Int32) (b6 : Int32) (b7 : Int32) (u : SS) : Option SS :=
  if (6 : Int32) ≤ b7 then (if b3 < (4 : Int32) then (f_X5_weigh_L105 b3 b4 u) else (lt (b3 + (-2 : Int32)) fun x3 => lt (b4 - (b5 + b6)) fun x4 => f_X5_weigh_L105 x3 x4 u)) else (oi ((b7 * (48 : Int32)) + b1) 288 (lt (gA u 10 ((b7 * (48 : Int32)) + b1).toNatClampNeg) fun x5 => if x5 = (-9 : Int32) then (f_X5_weigh_L81 k15 b1 b3 b4 b5 b6 b7 u) else (oi b7 6 (if (gA u 12 b7.toNatClampNeg) = 0 then (lt (b3 + (1 : Int32)) fun x7 => lt (b4 + x5) fun x8 => lt (if x5 < b5 then x5 else b5) fun x9 => lt (if b6 < x5 then x5 else b6) fun x10 => f_X5_weigh_L81 k15 b1 x7 x8 x9 x10 b7 u) else (f_X5_weigh_L81 k15 b1 b3 b4 b5 b6 b7 u)))))
def f_X5_weigh_L15 : Nat → Int32 → Int32 → Int32 → Int32 → Int32 → Int32 → SS → Option SS
  | 0 => fun _ _ _ _ _ _ _ => none
  | n + 1 => b_X5_weigh_L15 (f_X5_weigh_L15 n)
def f_X5_weigh (a1 : Int32) (u : SS) : Option SS :=
  f_X5_weigh_L15 FU a1 (0 : Int32) (0 : Int32) (100 : Int32) (0 : Int32) (0 : Int32) u
set_option maxHeartbeats 4000000 in
set_option maxRecDepth 100000 in
theorem c_X5_weigh (l : Launch) (ev : EV) (a1 : Int32) (u : SS) {u' : SS} (hf : f_X5_weigh a1 u = some u') : MV wdB l yX5_weigh cX5_weigh 9 none 2 ev [.ref (ev.2.1 2), .int a1, .ref (ev.2.1 8)] u u' := by
  refine bodyV (by decide +kernel) rfl (Nat.le_of_ble_eq_true rfl) ?_
  intro p e s m below meth cd ls H locs hc hr hlk hw hl
  generalize hav : (List.toArray [.ref (ev.2.1 2), .int a1, .ref (ev.2.1 8)] : Array Value) = av at hc ⊢
  obtain ⟨hx, hb, hml, hown, hts, hK, hZ⟩ := id hc
  have hl : lv_has ls 9 [(0, .ref (ev.2.1 2)), (1, .int a1), (2, .ref (ev.2.1 8))] := hl
  have wL105 : ∀ (b3 : Int32) (b4 : Int32) (u : SS) (H : Heap) (locs : List Loc) (ls : Array Slot), VW wdB ev s u H locs → lv_has ls 9 [(2, .ref (ev.2.1 8)), (3, .int b3), (4, .int b4)] → f_X5_weigh_L105 b3 b4 u = some u' → W p l e (rmk 2) s m av below meth cd H locs 0 0 (ZV wdB ev s below av u') (F0 m 105 ls []) := by
    intro b3 b4 u H locs ls hw hl hf
    unfold f_X5_weigh_L105 at hf
    refine lv_aload_n hx hb dX5_weigh_105 rfl (lv_at hl 0 rfl) ?_
    refine lv_iload hx hb dX5_weigh_106 (lv_at hl 2 rfl) ?_
    refine lv_i2l (v := b4.toInt64) hx hb dX5_weigh_108 rfl ?_
    refine lv_iconst (v := (1 : Int32)) hx hb dX5_weigh_109 (by decide) ?_
    refine lv_iload_n hx hb dX5_weigh_110 rfl (lv_at hl 1 rfl) ?_
    refine va_mmax hx hb (hml.trans hl.1.symm) hown (hts _ ml_X5_34) (hts _ va_mmax_st) (hts _ math_in) (hts _ va_mmax_cd) (by decide) (Nat.le_of_ble_eq_true rfl) (Nat.zero_le _) (Nat.zero_le _) dX5_weigh_111 ?_
    refine lv_i2l (v := (if (1 : Int32) < b3 then b3 else (1 : Int32)).toInt64) hx hb dX5_weigh_114 rfl ?_
    obtain ⟨u2, h1, hf⟩ := ov_some hf
    refine endV okB hw (runV_ok (As := [.long (b4.toInt64), .long ((if (1 : Int32) < b3 then b3 else (1 : Int32)).toInt64)]) (rest := []) okB hc hw (c_X3_put l ev (b4.toInt64) ((if (1 : Int32) < b3 then b3 else (1 : Int32)).toInt64) u h1 H.size) kv_X3_put ml_X5_37 (rvB8 ev u) hl.1 rfl rfl (Nat.le_of_ble_eq_true rfl) (rm_le (by decide) (by decide)) dX5_weigh_115) (fun H locs hw => ?_)
    exact retV hc hr hlk hw hf dX5_weigh_118
  have wL81 : ∀ (k15 : Int32 → Int32 → Int32 → Int32 → Int32 → Int32 → SS → Option SS) (hk15 : ∀ (b1 : Int32) (b3 : Int32) (b4 : Int32) (b5 : Int32) (b6 : Int32) (b7 : Int32) (u : SS) (H : Heap) (locs : List Loc) (ls : Array Slot), VW wdB ev s u H locs → lv_has ls 9 [(0, .ref (ev.2.1 2)), (1, .int b1), (2, .ref (ev.2.1 8)), (3, .int b3), (4, .int b4), (5, .int b5), (6, .int b6), (7, .int b7)] → k15 b1 b3 b4 b5 b6 b7 u = some u' → W p l e (rmk 2) s m av below meth cd H locs 0 0 (ZV wdB ev s below av u') (F0 m 15 ls [])) (b1 : Int32) (b3 : Int32) (b4 : Int32) (b5 : Int32) (b6 : Int32) (b7 : Int32) (u : SS) (H : Heap) (locs : List Loc) (ls : Array Slot), VW wdB ev s u H locs → lv_has ls 9 [(0, .ref (ev.2.1 2)), (1, .int b1), (2, .ref (ev.2.1 8)), (3, .int b3), (4, .int b4), (5, .int b5), (6, .int b6), (7, .int b7)] → f_X5_weigh_L81 k15 b1 b3 b4 b5 b6 b7 u = some u' → W p l e (rmk 2) s m av below meth cd H locs 0 0 (ZV wdB ev s below av u') (F0 m 81 ls []) := by
    intro k15 hk15 b1 b3 b4 b5 b6 b7 u H locs ls hw hl hf
    unfold f_X5_weigh_L81 at hf
    obtain ⟨x6, ex6, hf⟩ := lt_some hf
    refine lv_iinc (v := x6) (lv' := [(7, .int x6), (0, .ref (ev.2.1 2)), (1, .int b1), (2, .ref (ev.2.1 8)), (3, .int b3), (4, .int b4), (5, .int b5), (6, .int b6)]) hx hb dX5_weigh_81 hl (k := 7) rfl (by rw [ex6]; rfl) (by decide) rfl (fun ls hl => ?_)
    refine lv_goto (tgt := 15) hx hb dX5_weigh_84 (by decide) ?_
    exact hk15 b1 b3 b4 b5 b6 x6 u H locs ls hw (lv_sub hl [1, 2, 3, 4, 5, 6, 7, 0] rfl) hf
  have wL15 : ∀ (n : Nat) (b1 : Int32) (b3 : Int32) (b4 : Int32) (b5 : Int32) (b6 : Int32) (b7 : Int32) (u : SS) (H : Heap) (locs : List Loc) (ls : Array Slot), VW wdB ev s u H locs → lv_has ls 9 [(0, .ref (ev.2.1 2)), (1, .int b1), (2, .ref (ev.2.1 8)), (3, .int b3), (4, .int b4), (5, .int b5), (6, .int b6), (7, .int b7)] → f_X5_weigh_L15 n b1 b3 b4 b5 b6 b7 u = some u' → W p l e (rmk 2) s m av below meth cd H locs 0 0 (ZV wdB ev s below av u') (F0 m 15 ls []) := by
    intro n
    induction n with
    | zero =>
      intro b1 b3 b4 b5 b6 b7 u H locs ls hw hl hf
      cases hf
    | succ n hk15 =>
      intro b1 b3 b4 b5 b6 b7 u H locs ls hw hl hf
      have hf : b_X5_weigh_L15 (f_X5_weigh_L15 n) b1 b3 b4 b5 b6 b7 u = some u' := hf
      unfold b_X5_weigh_L15 at hf
      refine lv_iload hx hb dX5_weigh_15 (lv_at hl 7 rfl) ?_
      refine lv_bipush (v := (6 : Int32)) hx hb dX5_weigh_17 (by decide) ?_
      refine lv_icmp_ge (tgt := 87) hx hb dX5_weigh_19 (by decide) (fun z => ?_) (fun z => ?_)
      · have hf := it_pos z hf
        refine lv_iload_n hx hb dX5_weigh_87 rfl (lv_at hl 3 rfl) ?_
        refine lv_iconst (v := (4 : Int32)) hx hb dX5_weigh_88 (by decide) ?_
        refine lv_icmp_lt (tgt := 105) hx hb dX5_weigh_89 (by decide) (fun z => ?_) (fun z => ?_)
        · have hf := it_pos z hf
          exact wL105 b3 b4 u H locs ls hw (lv_sub hl [2, 3, 4] rfl) hf
        · have hf := it_neg z hf
          obtain ⟨x3, ex3, hf⟩ := lt_some hf
          refine lv_iinc (v := x3) (lv' := [(3, .int x3), (0, .ref (ev.2.1 2)), (1, .int b1), (2, .ref (ev.2.1 8)), (4, .int b4), (5, .int b5), (6, .int b6), (7, .int b7)]) hx hb dX5_weigh_92 hl (k := 3) rfl (by rw [ex3]; rfl) (by decide) rfl (fun ls hl => ?_)
          refine lv_iload hx hb dX5_weigh_95 (lv_at hl 4 rfl) ?_
          refine lv_iload hx hb dX5_weigh_97 (lv_at hl 5 rfl) ?_
          refine lv_iload hx hb dX5_weigh_99 (lv_at hl 6 rfl) ?_
          refine lv_iadd hx hb dX5_weigh_101 ?_
          refine lv_isub hx hb dX5_weigh_102 ?_
          obtain ⟨x4, ex4, hf⟩ := lt_some hf
          refine tope ex4 ?_
          refine lv_istore (lv' := [(4, .int x4), (3, .int x3), (0, .ref (ev.2.1 2)), (1, .int b1), (2, .ref (ev.2.1 8)), (5, .int b5), (6, .int b6), (7, .int b7)]) hx hb dX5_weigh_103 hl (by decide) rfl (fun ls hl => ?_)
          exact wL105 x3 x4 u H locs ls hw (lv_sub hl [4, 1, 0] rfl) hf
      · have hf := it_neg z hf
        refine lv_aload_n hx hb dX5_weigh_22 rfl (lv_at hl 0 rfl) ?_
        refine gB2_0 hc hw fl_X5_9 dX5_weigh_23 ?_
        refine lv_iload hx hb dX5_weigh_26 (lv_at hl 7 rfl) ?_
        refine lv_bipush (v := (48 : Int32)) hx hb dX5_weigh_28 (by decide) ?_
        refine lv_imul hx hb dX5_weigh_30 ?_
        refine lv_iload_n hx hb dX5_weigh_31 rfl (lv_at hl 1 rfl) ?_
        refine lv_iadd hx hb dX5_weigh_32 ?_
        obtain ⟨z, hf⟩ := oi_some hf
        refine aB19 hc hw z dX5_weigh_33 ?_
        obtain ⟨x5, ex5, hf⟩ := lt_some hf
        refine tope ex5 ?_
        refine lv_istore (lv' := [(8, .int x5), (0, .ref (ev.2.1 2)), (1, .int b1), (2, .ref (ev.2.1 8)), (3, .int b3), (4, .int b4), (5, .int b5), (6, .int b6), (7, .int b7)]) hx hb dX5_weigh_34 hl (by decide) rfl (fun ls hl => ?_)
        refine lv_iload hx hb dX5_weigh_36 (lv_at hl 0 rfl) ?_
        refine lv_bipush (v := (-9 : Int32)) hx hb dX5_weigh_38 (by decide) ?_
        refine lv_icmp_eq (tgt := 81) hx hb dX5_weigh_40 (by decide) (fun z => ?_) (fun z => ?_)
        · have hf := it_pos z hf
          exact wL81 (f_X5_weigh_L15 n) hk15 b1 b3 b4 b5 b6 b7 u H locs ls hw (lv_sub hl [1, 2, 3, 4, 5, 6, 7, 8] rfl) hf
        · have hf := it_neg z hf
          refine lv_aload_n hx hb dX5_weigh_43 rfl (lv_at hl 1 rfl) ?_
          refine gB2_2 hc hw fl_X5_19 dX5_weigh_44 ?_
          refine lv_iload hx hb dX5_weigh_47 (lv_at hl 8 rfl) ?_
          obtain ⟨z, hf⟩ := oi_some hf
          refine aB21 hc hw z dX5_weigh_49 ?_
          refine lv_if_ne (tgt := 81) hx hb dX5_weigh_50 (by decide) (fun z => ?_) (fun z => ?_)
          · have hf := it_neg z hf
            exact wL81 (f_X5_weigh_L15 n) hk15 b1 b3 b4 b5 b6 b7 u H locs ls hw (lv_sub hl [1, 2, 3, 4, 5, 6, 7, 8] rfl) hf
          · have hf := it_pos z hf
            obtain ⟨x7, ex7, hf⟩ := lt_some hf
            refine lv_iinc (v := x7) (lv' := [(3, .int x7), (8, .int x5), (0, .ref (ev.2.1 2)), (1, .int b1), (2, .ref (ev.2.1 8)), (4, .int b4), (5, .int b5), (6, .int b6), (7, .int b7)]) hx hb dX5_weigh_53 hl (k := 4) rfl (by rw [ex7]; rfl) (by decide) rfl (fun ls hl => ?_)
            refine lv_iload hx hb dX5_weigh_56 (lv_at hl 5 rfl) ?_
            refine lv_iload hx hb dX5_weigh_58 (lv_at hl 1 rfl) ?_
            refine lv_iadd hx hb dX5_weigh_60 ?_
            obtain ⟨x8, ex8, hf⟩ := lt_some hf
            refine tope ex8 ?_
            refine lv_istore (lv' := [(4, .int x8), (3, .int x7), (8, .int x5), (0, .ref (ev.2.1 2)), (1, .int b1), (2, .ref (ev.2.1 8)), (5, .int b5), (6, .int b6), (7, .int b7)]) hx hb dX5_weigh_61 hl (by decide) rfl (fun ls hl => ?_)
            refine lv_iload hx hb dX5_weigh_63 (lv_at hl 6 rfl) ?_
            refine lv_iload hx hb dX5_weigh_65 (lv_at hl 2 rfl) ?_
            refine va_mmin hx hb (hml.trans hl.1.symm) hown (hts _ ml_X5_28) (hts _ va_mmin_st) (hts _ math_in) (hts _ va_mmin_cd) (by decide) (Nat.le_of_ble_eq_true rfl) (Nat.zero_le _) (Nat.zero_le _) dX5_weigh_67 ?_
            obtain ⟨x9, ex9, hf⟩ := lt_some hf
            refine tope ex9 ?_
            refine lv_istore (lv' := [(5, .int x9), (4, .int x8), (3, .int x7), (8, .int x5), (0, .ref (ev.2.1 2)), (1, .int b1), (2, .ref (ev.2.1 8)), (6, .int b6), (7, .int b7)]) hx hb dX5_weigh_70 hl (by decide) rfl (fun ls hl => ?_)
            refine lv_iload hx hb dX5_weigh_72 (lv_at hl 7 rfl) ?_
            refine lv_iload hx hb dX5_weigh_74 (lv_at hl 3 rfl) ?_
            refine va_mmax hx hb (hml.trans hl.1.symm) hown (hts _ ml_X5_34) (hts _ va_mmax_st) (hts _ math_in) (hts _ va_mmax_cd) (by decide) (Nat.le_of_ble_eq_true rfl) (Nat.zero_le _) (Nat.zero_le _) dX5_weigh_76 ?_
            obtain ⟨x10, ex10, hf⟩ := lt_some hf
            refine tope ex10 ?_
            refine lv_istore (lv' := [(6, .int x10), (5, .int x9), (4, .int x8), (3, .int x7), (8, .int x5), (0, .ref (ev.2.1 2)), (1, .int b1), (2, .ref (ev.2.1 8)), (7, .int b7)]) hx hb dX5_weigh_79 hl (by decide) rfl (fun ls hl => ?_)
            exact wL81 (f_X5_weigh_L15 n) hk15 b1 x7 x8 x9 x10 b7 u H locs ls hw (lv_sub hl [5, 6, 7, 3, 2, 1, 0, 8] rfl) hf
  unfold f_X5_weigh at hf
  refine lv_iconst (v := (0 : Int32)) hx hb dX5_weigh_0 (by decide) ?_
  refine lv_istore_n (lv' := [(3, .int (0 : Int32)), (0, .ref (ev.2.1 2)), (1, .int a1), (2, .ref (ev.2.1 8))]) hx hb dX5_weigh_1 rfl hl (by decide) rfl (fun ls hl => ?_)
  refine lv_iconst (v := (0 : Int32)) hx hb dX5_weigh_2 (by decide) ?_
  refine lv_istore (lv' := [(4, .int (0 : Int32)), (3, .int (0 : Int32)), (0, .ref (ev.2.1 2)), (1, .int a1), (2, .ref (ev.2.1 8))]) hx hb dX5_weigh_3 hl (by decide) rfl (fun ls hl => ?_)
  refine lv_bipush (v := (100 : Int32)) hx hb dX5_weigh_5 (by decide) ?_
  refine lv_istore (lv' := [(5, .int (100 : Int32)), (4, .int (0 : Int32)), (3, .int (0 : Int32)), (0, .ref (ev.2.1 2)), (1, .int a1), (2, .ref (ev.2.1 8))]) hx hb dX5_weigh_7 hl (by decide) rfl (fun ls hl => ?_)
  refine lv_iconst (v := (0 : Int32)) hx hb dX5_weigh_9 (by decide) ?_
  refine lv_istore (lv' := [(6, .int (0 : Int32)), (5, .int (100 : Int32)), (4, .int (0 : Int32)), (3, .int (0 : Int32)), (0, .ref (ev.2.1 2)), (1, .int a1), (2, .ref (ev.2.1 8))]) hx hb dX5_weigh_10 hl (by decide) rfl (fun ls hl => ?_)
  refine lv_iconst (v := (0 : Int32)) hx hb dX5_weigh_12 (by decide) ?_
  refine lv_istore (lv' := [(7, .int (0 : Int32)), (6, .int (0 : Int32)), (5, .int (100 : Int32)), (4, .int (0 : Int32)), (3, .int (0 : Int32)), (0, .ref (ev.2.1 2)), (1, .int a1), (2, .ref (ev.2.1 8))]) hx hb dX5_weigh_13 hl (by decide) rfl (fun ls hl => ?_)
  exact wL15 FU a1 (0 : Int32) (0 : Int32) (100 : Int32) (0 : Int32) (0 : Int32) u H locs ls hw (lv_sub hl [5, 6, 7, 4, 3, 2, 1, 0] rfl) hf
def b_X7_lay_L90 (k90 : Int32 → Int32 → SS → Option SS) (b3 : Int32) (b5 : Int32) (u : SS) : Option SS :=
  if (8 : Int32) ≤ b5 then (ov (f_X7_sumUp u) fun u4 => some u4) else (ob (f_X9_cell b5 b3 u) fun r7 u6 => ov (f_X5_weigh r7 u6) fun u9 => oi b5 8 (lt (tL u9 0 b5 (gJ u9 6)) fun u10 => oi b5 8 (lt (tL u10 1 b5 (gJ u10 7)) fun u11 => lt (b5 + (1 : Int32)) fun x12 => k90 b3 x12 u11)))
def f_X7_lay_L90 : Nat → Int32 → Int32 → SS → Option SS
  | 0 => fun _ _ _ => none
  | n + 1 => b_X7_lay_L90 (f_X7_lay_L90 n)
def f_X7_lay_L72 (k3 : Int32 → Int32 → Int32 → SS → Option SS) (b3 : Int32) (b4 : Int32) (b5 : Int32) (q0 : Int32) (q1 : Int32) (u : SS) : Option SS :=
  oi q1 8 (lt (tA u 17 q1 q0) fun u17 => lt (b5 + (1 : Int32)) fun x18 => k3 b3 b4 x18 u17)
def f_X7_lay_L45 (k3 : Int32 → Int32 → Int32 → SS → Option SS) (b3 : Int32) (b4 : Int32) (b5 : Int32) (b6 : Int32) (q0 : Int32) (q1 : Int32) (u : SS) : Option SS :=
  oi q1 8 (lt (tZ u 16 q1 q0) fun u16 => oi b6 48 (if (gA u16 3 b6.toNatClampNeg) = 0 then (f_X7_lay_L72 k3 b3 b4 b5 (0 : Int32) b5 u16) else (ob (f_X1_priceAt b6 u16) fun r21 u20 => f_X7_lay_L72 k3 b3 b4 b5 r21 b5 u20)))
def f_X7_lay_L44 (k3 : Int32 → Int32 → Int32 → SS → Option SS) (b3 : Int32) (b4 : Int32) (b5 : Int32) (b6 : Int32) (q0 : Int32) (u : SS) : Option SS :=
  f_X7_lay_L45 k3 b3 b4 b5 b6 (0 : Int32) q0 u
def b_X7_lay_L3 (k3 : Int32 → Int32 → Int32 → SS → Option SS) (b3 : Int32) (b4 : Int32) (b5 : Int32) (u : SS) : Option SS :=
  if (8 : Int32) ≤ b5 then (ov (f_X5_findSilent_25 u) fun u2 => f_X7_lay_L90 FU b3 (0 : Int32) u2) else (ob (f_X9_cell b5 b3 u) fun r15 u14 => if b5 = b4 then (f_X7_lay_L44 k3 b3 b4 b5 r15 b5 u14) else (ob (f_X1_standsAt r15 u14) fun r24 u23 => if r24 = 0 then (f_X7_lay_L44 k3 b3 b4 b5 r15 b5 u23) else (f_X7_lay_L45 k3 b3 b4 b5 r15 (1 : Int32) b5 u23)))
def f_X7_lay_L3 : Nat → Int32 → Int32 → Int32 → SS → Option SS
  | 0 => fun _ _ _ _ => none
  | n + 1 => b_X7_lay_L3 (f_X7_lay_L3 n)
def f_X7_lay (a3 : Int32) (a4 : Int32) (u : SS) : Option SS :=
  f_X7_lay_L3 FU a3 a4 (0 : Int32) u
set_option maxHeartbeats 4000000 in
set_option maxRecDepth 100000 in
theorem c_X7_lay (l : Launch) (ev : EV) (a3 : Int32) (a4 : Int32) (u : SS) {u' : SS} (hf : f_X7_lay a3 a4 u = some u') : MV wdB l yX7_lay cX7_lay 7 none 3 ev [.ref (ev.2.1 4), .ref (ev.2.1 1), .ref (ev.2.1 2), .int a3, .int a4] u u' := by
  refine bodyV (by decide +kernel) rfl (Nat.le_of_ble_eq_true rfl) ?_
  intro p e s m below meth cd ls H locs hc hr hlk hw hl
  generalize hav : (List.toArray [.ref (ev.2.1 4), .ref (ev.2.1 1), .ref (ev.2.1 2), .int a3, .int a4] : Array Value) = av at hc ⊢
  obtain ⟨hx, hb, hml, hown, hts, hK, hZ⟩ := id hc
  have hl : lv_has ls 7 [(0, .ref (ev.2.1 4)), (1, .ref (ev.2.1 1)), (2, .ref (ev.2.1 2)), (3, .int a3), (4, .int a4)] := hl
  have wL90 : ∀ (n : Nat) (b3 : Int32) (b5 : Int32) (u : SS) (H : Heap) (locs : List Loc) (ls : Array Slot), VW wdB ev s u H locs → lv_has ls 7 [(0, .ref (ev.2.1 4)), (2, .ref (ev.2.1 2)), (3, .int b3), (5, .int b5)] → f_X7_lay_L90 n b3 b5 u = some u' → W p l e (rmk 3) s m av below meth cd H locs 0 0 (ZV wdB ev s below av u') (F0 m 90 ls []) := by
    intro n
    induction n with
    | zero =>
      intro b3 b5 u H locs ls hw hl hf
      cases hf
    | succ n hk90 =>
      intro b3 b5 u H locs ls hw hl hf
      have hf : b_X7_lay_L90 (f_X7_lay_L90 n) b3 b5 u = some u' := hf
      unfold b_X7_lay_L90 at hf
      refine lv_iload hx hb dX7_lay_90 (lv_at hl 3 rfl) ?_
      refine lv_bipush (v := (8 : Int32)) hx hb dX7_lay_92 (by decide) ?_
      refine lv_icmp_ge (tgt := 145) hx hb dX7_lay_94 (by decide) (fun z => ?_) (fun z => ?_)
      · have hf := it_pos z hf
        refine lv_aload_n hx hb dX7_lay_145 rfl (lv_at hl 0 rfl) ?_
        obtain ⟨u4, h3, hf⟩ := ov_some hf
        refine endV okB hw (runV_ok (As := []) (rest := []) okB hc hw (c_X7_sumUp l ev u h3 H.size) kv_X7_sumUp ml_X7_85 (rvB4 ev u) hl.1 rfl rfl (Nat.le_of_ble_eq_true rfl) (rm_le (by decide) (by decide)) dX7_lay_146) (fun H locs hw => ?_)
        exact retV hc hr hlk hw hf dX7_lay_149
      · have hf := it_neg z hf
        refine lv_aload_n hx hb dX7_lay_97 rfl (lv_at hl 1 rfl) ?_
        refine lv_iload hx hb dX7_lay_98 (lv_at hl 3 rfl) ?_
        refine lv_iload_n hx hb dX7_lay_100 rfl (lv_at hl 2 rfl) ?_
        obtain ⟨r7, u6, h5, hf⟩ := ob_some hf
        refine endI okB hw (runN_ok (As := [.int b5, .int b3]) (rest := [.ref (ev.2.1 2)]) okB hc hw (c_X9_cell l ev b5 b3 u h5 H.size) ks_X9_cell (hZ.2.2 ("BidsJudged$Table", 51) (by decide)) hl.1 rfl rfl (Nat.le_of_ble_eq_true rfl) (rm_le (by decide) (by decide)) dX7_lay_101) (fun H locs hw => ?_)
        refine lv_aload_n hx hb dX7_lay_104 rfl (lv_at hl 0 rfl) ?_
        refine gB4_0 hc hw fl_X7_12 dX7_lay_105 ?_
        obtain ⟨u9, h8, hf⟩ := ov_some hf
        refine endV okB hw (runV_ok (As := [.int r7, .ref (ev.2.1 8)]) (rest := []) okB hc hw (c_X5_weigh l ev r7 u6 h8 H.size) kv_X5_weigh ml_X7_74 (rvB2 ev u6) hl.1 rfl rfl (Nat.le_of_ble_eq_true rfl) (rm_le (by decide) (by decide)) dX7_lay_108) (fun H locs hw => ?_)
        refine lv_aload_n hx hb dX7_lay_111 rfl (lv_at hl 0 rfl) ?_
        refine gB4_3 hc hw fl_X7_26 dX7_lay_112 ?_
        refine lv_iload hx hb dX7_lay_115 (lv_at hl 3 rfl) ?_
        refine lv_aload_n hx hb dX7_lay_117 rfl (lv_at hl 0 rfl) ?_
        refine gB4_0 hc hw fl_X7_12 dX7_lay_118 ?_
        refine gB8_0 hc hw fl_X7_78 dX7_lay_121 ?_
        obtain ⟨z, hf⟩ := oi_some hf
        refine tB27 hc hw z dX7_lay_124 (fun H locs hw => ?_)
        obtain ⟨u10, eu10, hf⟩ := lt_some hf
        have hw := VW.nm eu10 hw
        refine lv_aload_n hx hb dX7_lay_125 rfl (lv_at hl 0 rfl) ?_
        refine gB4_4 hc hw fl_X7_30 dX7_lay_126 ?_
        refine lv_iload hx hb dX7_lay_129 (lv_at hl 3 rfl) ?_
        refine lv_aload_n hx hb dX7_lay_131 rfl (lv_at hl 0 rfl) ?_
        refine gB4_0 hc hw fl_X7_12 dX7_lay_132 ?_
        refine gB8_1 hc hw fl_X7_82 dX7_lay_135 ?_
        obtain ⟨z, hf⟩ := oi_some hf
        refine tB28 hc hw z dX7_lay_138 (fun H locs hw => ?_)
        obtain ⟨u11, eu11, hf⟩ := lt_some hf
        have hw := VW.nm eu11 hw
        obtain ⟨x12, ex12, hf⟩ := lt_some hf
        refine lv_iinc (v := x12) (lv' := [(5, .int x12), (0, .ref (ev.2.1 4)), (2, .ref (ev.2.1 2)), (3, .int b3)]) hx hb dX7_lay_139 hl (k := 3) rfl (by rw [ex12]; rfl) (by decide) rfl (fun ls hl => ?_)
        refine lv_goto (tgt := 90) hx hb dX7_lay_142 (by decide) ?_
        exact hk90 b3 x12 u11 H locs ls hw (lv_sub hl [1, 2, 3, 0] rfl) hf
  have wL72 : ∀ (k3 : Int32 → Int32 → Int32 → SS → Option SS) (hk3 : ∀ (b3 : Int32) (b4 : Int32) (b5 : Int32) (u : SS) (H : Heap) (locs : List Loc) (ls : Array Slot), VW wdB ev s u H locs → lv_has ls 7 [(0, .ref (ev.2.1 4)), (1, .ref (ev.2.1 1)), (2, .ref (ev.2.1 2)), (3, .int b3), (4, .int b4), (5, .int b5)] → k3 b3 b4 b5 u = some u' → W p l e (rmk 3) s m av below meth cd H locs 0 0 (ZV wdB ev s below av u') (F0 m 3 ls [])) (b3 : Int32) (b4 : Int32) (b5 : Int32) (q0 : Int32) (q1 : Int32) (u : SS) (H : Heap) (locs : List Loc) (ls : Array Slot), VW wdB ev s u H locs → lv_has ls 7 [(0, .ref (ev.2.1 4)), (1, .ref (ev.2.1 1)), (2, .ref (ev.2.1 2)), (3, .int b3), (4, .int b4), (5, .int b5)] → f_X7_lay_L72 k3 b3 b4 b5 q0 q1 u = some u' → W p l e (rmk 3) s m av below meth cd H locs 0 0 (ZV wdB ev s below av u') (F0 m 72 ls [.int q0, .int q1, .ref (ev.2.1 26)]) := by
    intro k3 hk3 b3 b4 b5 q0 q1 u H locs ls hw hl hf
    unfold f_X7_lay_L72 at hf
    obtain ⟨z, hf⟩ := oi_some hf
    refine tB26 hc hw z dX7_lay_72 (fun H locs hw => ?_)
    obtain ⟨u17, eu17, hf⟩ := lt_some hf
    have hw := VW.nm eu17 hw
    obtain ⟨x18, ex18, hf⟩ := lt_some hf
    refine lv_iinc (v := x18) (lv' := [(5, .int x18), (0, .ref (ev.2.1 4)), (1, .ref (ev.2.1 1)), (2, .ref (ev.2.1 2)), (3, .int b3), (4, .int b4)]) hx hb dX7_lay_73 hl (k := 5) rfl (by rw [ex18]; rfl) (by decide) rfl (fun ls hl => ?_)
    refine lv_goto (tgt := 3) hx hb dX7_lay_76 (by decide) ?_
    exact hk3 b3 b4 x18 u17 H locs ls hw (lv_sub hl [1, 2, 3, 4, 5, 0] rfl) hf
  have wL45 : ∀ (k3 : Int32 → Int32 → Int32 → SS → Option SS) (hk3 : ∀ (b3 : Int32) (b4 : Int32) (b5 : Int32) (u : SS) (H : Heap) (locs : List Loc) (ls : Array Slot), VW wdB ev s u H locs → lv_has ls 7 [(0, .ref (ev.2.1 4)), (1, .ref (ev.2.1 1)), (2, .ref (ev.2.1 2)), (3, .int b3), (4, .int b4), (5, .int b5)] → k3 b3 b4 b5 u = some u' → W p l e (rmk 3) s m av below meth cd H locs 0 0 (ZV wdB ev s below av u') (F0 m 3 ls [])) (b3 : Int32) (b4 : Int32) (b5 : Int32) (b6 : Int32) (q0 : Int32) (q1 : Int32) (u : SS) (H : Heap) (locs : List Loc) (ls : Array Slot), VW wdB ev s u H locs → lv_has ls 7 [(0, .ref (ev.2.1 4)), (1, .ref (ev.2.1 1)), (2, .ref (ev.2.1 2)), (3, .int b3), (4, .int b4), (5, .int b5), (6, .int b6)] → f_X7_lay_L45 k3 b3 b4 b5 b6 q0 q1 u = some u' → W p l e (rmk 3) s m av below meth cd H locs 0 0 (ZV wdB ev s below av u') (F0 m 45 ls [.int q0, .int q1, .ref (ev.2.1 25)]) := by
    intro k3 hk3 b3 b4 b5 b6 q0 q1 u H locs ls hw hl hf
    unfold f_X7_lay_L45 at hf
    obtain ⟨z, hf⟩ := oi_some hf
    refine tB25 hc hw z dX7_lay_45 (fun H locs hw => ?_)
    obtain ⟨u16, eu16, hf⟩ := lt_some hf
    have hw := VW.nm eu16 hw
    refine lv_aload_n hx hb dX7_lay_46 rfl (lv_at hl 0 rfl) ?_
    refine gB4_2 hc hw fl_X7_22 dX7_lay_47 ?_
    refine lv_iload hx hb dX7_lay_50 (lv_at hl 5 rfl) ?_
    refine lv_aload_n hx hb dX7_lay_52 rfl (lv_at hl 1 rfl) ?_
    refine gB1_2 hc hw fl_X7_61 dX7_lay_53 ?_
    refine lv_iload hx hb dX7_lay_56 (lv_at hl 6 rfl) ?_
    obtain ⟨z, hf⟩ := oi_some hf
    refine aB12 hc hw z dX7_lay_58 ?_
    refine lv_if_eq (tgt := 71) hx hb dX7_lay_59 (by decide) (fun z => ?_) (fun z => ?_)
    · have hf := it_pos z hf
      refine lv_iconst (v := (0 : Int32)) hx hb dX7_lay_71 (by decide) ?_
      exact wL72 k3 hk3 b3 b4 b5 (0 : Int32) b5 u16 H locs ls hw (lv_sub hl [0, 1, 2, 3, 4, 5] rfl) hf
    · have hf := it_neg z hf
      refine lv_aload_n hx hb dX7_lay_62 rfl (lv_at hl 1 rfl) ?_
      refine lv_iload hx hb dX7_lay_63 (lv_at hl 6 rfl) ?_
      obtain ⟨r21, u20, h19, hf⟩ := ob_some hf
      refine endI okB hw (runV_ok (As := [.int b6]) (rest := [.int b5, .ref (ev.2.1 26)]) okB hc hw (c_X1_priceAt l ev b6 u16 h19 H.size) kv_X1_priceAt ml_X7_64 (rvB1 ev u16) hl.1 rfl rfl (Nat.le_of_ble_eq_true rfl) (rm_le (by decide) (by decide)) dX7_lay_65) (fun H locs hw => ?_)
      refine lv_goto (tgt := 72) hx hb dX7_lay_68 (by decide) ?_
      exact wL72 k3 hk3 b3 b4 b5 r21 b5 u20 H locs ls hw (lv_sub hl [0, 1, 2, 3, 4, 5] rfl) hf
  have wL44 : ∀ (k3 : Int32 → Int32 → Int32 → SS → Option SS) (hk3 : ∀ (b3 : Int32) (b4 : Int32) (b5 : Int32) (u : SS) (H : Heap) (locs : List Loc) (ls : Array Slot), VW wdB ev s u H locs → lv_has ls 7 [(0, .ref (ev.2.1 4)), (1, .ref (ev.2.1 1)), (2, .ref (ev.2.1 2)), (3, .int b3), (4, .int b4), (5, .int b5)] → k3 b3 b4 b5 u = some u' → W p l e (rmk 3) s m av below meth cd H locs 0 0 (ZV wdB ev s below av u') (F0 m 3 ls [])) (b3 : Int32) (b4 : Int32) (b5 : Int32) (b6 : Int32) (q0 : Int32) (u : SS) (H : Heap) (locs : List Loc) (ls : Array Slot), VW wdB ev s u H locs → lv_has ls 7 [(0, .ref (ev.2.1 4)), (1, .ref (ev.2.1 1)), (2, .ref (ev.2.1 2)), (3, .int b3), (4, .int b4), (5, .int b5), (6, .int b6)] → f_X7_lay_L44 k3 b3 b4 b5 b6 q0 u = some u' → W p l e (rmk 3) s m av below meth cd H locs 0 0 (ZV wdB ev s below av u') (F0 m 44 ls [.int q0, .ref (ev.2.1 25)]) := by
    intro k3 hk3 b3 b4 b5 b6 q0 u H locs ls hw hl hf
    unfold f_X7_lay_L44 at hf
    refine lv_iconst (v := (0 : Int32)) hx hb dX7_lay_44 (by decide) ?_
    exact wL45 k3 hk3 b3 b4 b5 b6 (0 : Int32) q0 u H locs ls hw (lv_sub hl [0, 1, 2, 3, 4, 5, 6] rfl) hf
  have wL3 : ∀ (n : Nat) (b3 : Int32) (b4 : Int32) (b5 : Int32) (u : SS) (H : Heap) (locs : List Loc) (ls : Array Slot), VW wdB ev s u H locs → lv_has ls 7 [(0, .ref (ev.2.1 4)), (1, .ref (ev.2.1 1)), (2, .ref (ev.2.1 2)), (3, .int b3), (4, .int b4), (5, .int b5)] → f_X7_lay_L3 n b3 b4 b5 u = some u' → W p l e (rmk 3) s m av below meth cd H locs 0 0 (ZV wdB ev s below av u') (F0 m 3 ls []) := by
    intro n
    induction n with
    | zero =>
      intro b3 b4 b5 u H locs ls hw hl hf
      cases hf
    | succ n hk3 =>
      intro b3 b4 b5 u H locs ls hw hl hf
      have hf : b_X7_lay_L3 (f_X7_lay_L3 n) b3 b4 b5 u = some u' := hf
      unfold b_X7_lay_L3 at hf
      refine lv_iload hx hb dX7_lay_3 (lv_at hl 5 rfl) ?_
      refine lv_bipush (v := (8 : Int32)) hx hb dX7_lay_5 (by decide) ?_
      refine lv_icmp_ge (tgt := 79) hx hb dX7_lay_7 (by decide) (fun z => ?_) (fun z => ?_)
      · have hf := it_pos z hf
        refine lv_aload_n hx hb dX7_lay_79 rfl (lv_at hl 2 rfl) ?_
        refine lv_aload_n hx hb dX7_lay_80 rfl (lv_at hl 0 rfl) ?_
        refine gB4_1 hc hw fl_X7_18 dX7_lay_81 ?_
        obtain ⟨u2, h1, hf⟩ := ov_some hf
        refine endV okB hw (runV_ok (As := [.ref (ev.2.1 25)]) (rest := []) okB hc hw (c_X5_findSilent_25 l ev u h1 H.size) kv_X5_findSilent ml_X7_68 (rvB2 ev u) hl.1 rfl rfl (Nat.le_of_ble_eq_true rfl) (rm_le (by decide) (by decide)) dX7_lay_84) (fun H locs hw => ?_)
        refine lv_iconst (v := (0 : Int32)) hx hb dX7_lay_87 (by decide) ?_
        refine lv_istore (lv' := [(5, .int (0 : Int32)), (0, .ref (ev.2.1 4)), (1, .ref (ev.2.1 1)), (2, .ref (ev.2.1 2)), (3, .int b3), (4, .int b4)]) hx hb dX7_lay_88 hl (by decide) rfl (fun ls hl => ?_)
        exact wL90 FU b3 (0 : Int32) u2 H locs ls hw (lv_sub hl [1, 3, 4, 0] rfl) hf
      · have hf := it_neg z hf
        refine lv_iload hx hb dX7_lay_10 (lv_at hl 5 rfl) ?_
        refine lv_iload_n hx hb dX7_lay_12 rfl (lv_at hl 3 rfl) ?_
        obtain ⟨r15, u14, h13, hf⟩ := ob_some hf
        refine endI okB hw (runN_ok (As := [.int b5, .int b3]) (rest := []) okB hc hw (c_X9_cell l ev b5 b3 u h13 H.size) ks_X9_cell (hZ.2.2 ("BidsJudged$Table", 51) (by decide)) hl.1 rfl rfl (Nat.le_of_ble_eq_true rfl) (rm_le (by decide) (by decide)) dX7_lay_13) (fun H locs hw => ?_)
        refine lv_istore (lv' := [(6, .int r15), (0, .ref (ev.2.1 4)), (1, .ref (ev.2.1 1)), (2, .ref (ev.2.1 2)), (3, .int b3), (4, .int b4), (5, .int b5)]) hx hb dX7_lay_16 hl (by decide) rfl (fun ls hl => ?_)
        refine lv_aload_n hx hb dX7_lay_18 rfl (lv_at hl 1 rfl) ?_
        refine gB4_1 hc hw fl_X7_18 dX7_lay_19 ?_
        refine lv_iload hx hb dX7_lay_22 (lv_at hl 6 rfl) ?_
        refine lv_iload hx hb dX7_lay_24 (lv_at hl 6 rfl) ?_
        refine lv_iload hx hb dX7_lay_26 (lv_at hl 5 rfl) ?_
        refine lv_icmp_eq (tgt := 44) hx hb dX7_lay_28 (by decide) (fun z => ?_) (fun z => ?_)
        · have hf := it_pos z hf
          exact wL44 (f_X7_lay_L3 n) hk3 b3 b4 b5 r15 b5 u14 H locs ls hw (lv_sub hl [1, 2, 3, 4, 5, 6, 0] rfl) hf
        · have hf := it_neg z hf
          refine lv_aload_n hx hb dX7_lay_31 rfl (lv_at hl 2 rfl) ?_
          refine lv_iload hx hb dX7_lay_32 (lv_at hl 0 rfl) ?_
          obtain ⟨r24, u23, h22, hf⟩ := ob_some hf
          refine endI okB hw (runV_ok (As := [.int r15]) (rest := [.int b5, .ref (ev.2.1 25)]) okB hc hw (c_X1_standsAt l ev r15 u14 h22 H.size) kv_X1_standsAt ml_X7_55 (rvB1 ev u14) hl.1 rfl rfl (Nat.le_of_ble_eq_true rfl) (rm_le (by decide) (by decide)) dX7_lay_34) (fun H locs hw => ?_)
          refine lv_if_eq (tgt := 44) hx hb dX7_lay_37 (by decide) (fun z => ?_) (fun z => ?_)
          · have hf := it_pos z hf
            exact wL44 (f_X7_lay_L3 n) hk3 b3 b4 b5 r15 b5 u23 H locs ls hw (lv_sub hl [1, 2, 3, 4, 5, 6, 0] rfl) hf
          · have hf := it_neg z hf
            refine lv_iconst (v := (1 : Int32)) hx hb dX7_lay_40 (by decide) ?_
            refine lv_goto (tgt := 45) hx hb dX7_lay_41 (by decide) ?_
            exact wL45 (f_X7_lay_L3 n) hk3 b3 b4 b5 r15 (1 : Int32) b5 u23 H locs ls hw (lv_sub hl [1, 2, 3, 4, 5, 6, 0] rfl) hf
  unfold f_X7_lay at hf
  refine lv_iconst (v := (0 : Int32)) hx hb dX7_lay_0 (by decide) ?_
  refine lv_istore (lv' := [(5, .int (0 : Int32)), (0, .ref (ev.2.1 4)), (1, .ref (ev.2.1 1)), (2, .ref (ev.2.1 2)), (3, .int a3), (4, .int a4)]) hx hb dX7_lay_1 hl (by decide) rfl (fun ls hl => ?_)
  exact wL3 FU a3 a4 (0 : Int32) u H locs ls hw (lv_sub hl [1, 2, 3, 4, 5, 0] rfl) hf
def f_X9_quality (a1 : Int32) (a2 : Int32) (a3 : Int32) (u : SS) : Option (Int32 × SS) :=
  ob (f_X9_noBid a1 a2 u) fun r3 u2 => if r3 = 0 then (ob (f_X9_noPart a3 u2) fun r6 u5 => if r6 = 0 then (ob (f_X9_cell a1 a2 u5) fun r9 u8 => oi r9 48 (if (gA u8 3 r9.toNatClampNeg) = 0 then (ob (f_X9_refuse (-5 : Int32) u8) fun r14 u13 => some (r14, u13)) else (ov (f_X7_lay a2 (-1 : Int32) u8) fun u11 => if a3 = 0 then (oi a1 8 (some ((gL u11 0 a1.toNatClampNeg).toInt32, u11))) else (oi a1 8 (some ((gL u11 1 a1.toNatClampNeg).toInt32, u11)))))) else (ob (f_X9_refuse (-2 : Int32) u5) fun r17 u16 => some (r17, u16))) else (ob (f_X9_refuse (-1 : Int32) u2) fun r20 u19 => some (r20, u19))
set_option maxHeartbeats 4000000 in
set_option maxRecDepth 100000 in
theorem c_X9_quality (l : Launch) (ev : EV) (a1 : Int32) (a2 : Int32) (a3 : Int32) (u : SS) {r : Int32} {u' : SS} (hf : f_X9_quality a1 a2 a3 u = some (r, u')) : MI wdB l yX9_quality cX9_quality 4 (some .int) 4 ev [.ref (ev.2.1 0), .int a1, .int a2, .int a3] u r u' := by
  refine bodyI (by decide +kernel) rfl (Nat.le_of_ble_eq_true rfl) ?_
  intro p e s m below meth cd ls H locs hc hr hlk hw hl
  generalize hav : (List.toArray [.ref (ev.2.1 0), .int a1, .int a2, .int a3] : Array Value) = av at hc ⊢
  obtain ⟨hx, hb, hml, hown, hts, hK, hZ⟩ := id hc
  have hl : lv_has ls 4 [(0, .ref (ev.2.1 0)), (1, .int a1), (2, .int a2), (3, .int a3)] := hl
  unfold f_X9_quality at hf
  refine lv_aload_n hx hb dX9_quality_0 rfl (lv_at hl 0 rfl) ?_
  refine lv_iload_n hx hb dX9_quality_1 rfl (lv_at hl 1 rfl) ?_
  refine lv_iload_n hx hb dX9_quality_2 rfl (lv_at hl 2 rfl) ?_
  obtain ⟨r3, u2, h1, hf⟩ := ob_some hf
  refine endI okB hw (runV_ok (As := [.int a1, .int a2]) (rest := []) okB hc hw (c_X9_noBid l ev a1 a2 u h1 H.size) kv_X9_noBid ml_X9_93 (rvB0 ev u) hl.1 rfl rfl (Nat.le_of_ble_eq_true rfl) (rm_le (by decide) (by decide)) dX9_quality_3) (fun H locs hw => ?_)
  refine lv_if_eq (tgt := 15) hx hb dX9_quality_6 (by decide) (fun z => ?_) (fun z => ?_)
  · have hf := it_pos z hf
    refine lv_iload_n hx hb dX9_quality_15 rfl (lv_at hl 3 rfl) ?_
    obtain ⟨r6, u5, h4, hf⟩ := ob_some hf
    refine endI okB hw (runS_ok (As := [.int a3]) (rest := []) okB hc hw (c_X9_noPart l ev a3 u2 h4 H.size) ks_X9_noPart ml_X9_151 hl.1 rfl rfl (Nat.le_of_ble_eq_true rfl) (rm_le (by decide) (by decide)) dX9_quality_16) (fun H locs hw => ?_)
    refine lv_if_eq (tgt := 29) hx hb dX9_quality_19 (by decide) (fun z => ?_) (fun z => ?_)
    · have hf := it_pos z hf
      refine lv_aload_n hx hb dX9_quality_29 rfl (lv_at hl 0 rfl) ?_
      refine gB0_0 hc hw fl_X9_12 dX9_quality_30 ?_
      refine gB1_2 hc hw fl_X9_113 dX9_quality_33 ?_
      refine lv_iload_n hx hb dX9_quality_36 rfl (lv_at hl 1 rfl) ?_
      refine lv_iload_n hx hb dX9_quality_37 rfl (lv_at hl 2 rfl) ?_
      obtain ⟨r9, u8, h7, hf⟩ := ob_some hf
      refine endI okB hw (runS_ok (As := [.int a1, .int a2]) (rest := [.ref (ev.2.1 12)]) okB hc hw (c_X9_cell l ev a1 a2 u5 h7 H.size) ks_X9_cell ml_X9_110 hl.1 rfl rfl (Nat.le_of_ble_eq_true rfl) (rm_le (by decide) (by decide)) dX9_quality_38) (fun H locs hw => ?_)
      obtain ⟨z, hf⟩ := oi_some hf
      refine aB12 hc hw z dX9_quality_41 ?_
      refine lv_if_ne (tgt := 52) hx hb dX9_quality_42 (by decide) (fun z => ?_) (fun z => ?_)
      · have hf := it_neg z hf
        refine lv_aload_n hx hb dX9_quality_52 rfl (lv_at hl 0 rfl) ?_
        refine gB0_3 hc hw fl_X9_33 dX9_quality_53 ?_
        refine lv_aload_n hx hb dX9_quality_56 rfl (lv_at hl 0 rfl) ?_
        refine gB0_0 hc hw fl_X9_12 dX9_quality_57 ?_
        refine lv_aload_n hx hb dX9_quality_60 rfl (lv_at hl 0 rfl) ?_
        refine gB0_1 hc hw fl_X9_19 dX9_quality_61 ?_
        refine lv_iload_n hx hb dX9_quality_64 rfl (lv_at hl 2 rfl) ?_
        refine lv_iconst (v := (-1 : Int32)) hx hb dX9_quality_65 (by decide) ?_
        obtain ⟨u11, h10, hf⟩ := ov_some hf
        refine endV okB hw (runV_ok (As := [.ref (ev.2.1 1), .ref (ev.2.1 2), .int a2, .int (-1 : Int32)]) (rest := []) okB hc hw (c_X7_lay l ev a2 (-1 : Int32) u8 h10 H.size) kv_X7_lay ml_X9_154 (rvB4 ev u8) hl.1 rfl rfl (Nat.le_of_ble_eq_true rfl) (rm_le (by decide) (by decide)) dX9_quality_66) (fun H locs hw => ?_)
        refine lv_iload_n hx hb dX9_quality_69 rfl (lv_at hl 3 rfl) ?_
        refine lv_if_ne (tgt := 85) hx hb dX9_quality_70 (by decide) (fun z => ?_) (fun z => ?_)
        · have hf := it_neg z hf
          refine lv_aload_n hx hb dX9_quality_85 rfl (lv_at hl 0 rfl) ?_
          refine gB0_3 hc hw fl_X9_33 dX9_quality_86 ?_
          refine gB4_4 hc hw fl_X9_162 dX9_quality_89 ?_
          refine lv_iload_n hx hb dX9_quality_92 rfl (lv_at hl 1 rfl) ?_
          obtain ⟨z, hf⟩ := oi_some hf
          refine aB28 hc hw z dX9_quality_93 ?_
          refine lv_l2i (v := (gL u11 1 a1.toNatClampNeg).toInt32) hx hb dX9_quality_94 rfl ?_
          exact retI hc hr hlk hw hf dX9_quality_95
        · have hf := it_pos z hf
          refine lv_aload_n hx hb dX9_quality_73 rfl (lv_at hl 0 rfl) ?_
          refine gB0_3 hc hw fl_X9_33 dX9_quality_74 ?_
          refine gB4_3 hc hw fl_X9_158 dX9_quality_77 ?_
          refine lv_iload_n hx hb dX9_quality_80 rfl (lv_at hl 1 rfl) ?_
          obtain ⟨z, hf⟩ := oi_some hf
          refine aB27 hc hw z dX9_quality_81 ?_
          refine lv_goto (tgt := 94) hx hb dX9_quality_82 (by decide) ?_
          refine lv_l2i (v := (gL u11 0 a1.toNatClampNeg).toInt32) hx hb dX9_quality_94 rfl ?_
          exact retI hc hr hlk hw hf dX9_quality_95
      · have hf := it_pos z hf
        refine lv_aload_n hx hb dX9_quality_45 rfl (lv_at hl 0 rfl) ?_
        refine lv_bipush (v := (-5 : Int32)) hx hb dX9_quality_46 (by decide) ?_
        obtain ⟨r14, u13, h12, hf⟩ := ob_some hf
        refine endI okB hw (runV_ok (As := [.int (-5 : Int32)]) (rest := []) okB hc hw (c_X9_refuse l ev (-5 : Int32) u8 h12 H.size) kv_X9_refuse ml_X9_62 (rvB0 ev u8) hl.1 rfl rfl (Nat.le_of_ble_eq_true rfl) (rm_le (by decide) (by decide)) dX9_quality_48) (fun H locs hw => ?_)
        exact retI hc hr hlk hw hf dX9_quality_51
    · have hf := it_neg z hf
      refine lv_aload_n hx hb dX9_quality_22 rfl (lv_at hl 0 rfl) ?_
      refine lv_bipush (v := (-2 : Int32)) hx hb dX9_quality_23 (by decide) ?_
      obtain ⟨r17, u16, h15, hf⟩ := ob_some hf
      refine endI okB hw (runV_ok (As := [.int (-2 : Int32)]) (rest := []) okB hc hw (c_X9_refuse l ev (-2 : Int32) u5 h15 H.size) kv_X9_refuse ml_X9_62 (rvB0 ev u5) hl.1 rfl rfl (Nat.le_of_ble_eq_true rfl) (rm_le (by decide) (by decide)) dX9_quality_25) (fun H locs hw => ?_)
      exact retI hc hr hlk hw hf dX9_quality_28
  · have hf := it_neg z hf
    refine lv_aload_n hx hb dX9_quality_9 rfl (lv_at hl 0 rfl) ?_
    refine lv_iconst (v := (-1 : Int32)) hx hb dX9_quality_10 (by decide) ?_
    obtain ⟨r20, u19, h18, hf⟩ := ob_some hf
    refine endI okB hw (runV_ok (As := [.int (-1 : Int32)]) (rest := []) okB hc hw (c_X9_refuse l ev (-1 : Int32) u2 h18 H.size) kv_X9_refuse ml_X9_62 (rvB0 ev u2) hl.1 rfl rfl (Nat.le_of_ble_eq_true rfl) (rm_le (by decide) (by decide)) dX9_quality_11) (fun H locs hw => ?_)
    exact retI hc hr hlk hw hf dX9_quality_14
def b_X2_take_L6 (k6 : Int32 → Int64 → Int32 → SS → Option (Int32 × SS)) (b1 : Int32) (b4 : Int64) (b6 : Int32) (u : SS) : Option (Int32 × SS) :=
  if b1 ≤ b6 then (some ((gI u 5), u)) else (if (80 : Int32) ≤ (gI u 5) then (some ((gI u 5), u)) else (oi (gI u 5) 80 (lt (tA u 14 (gI u 5) ((b4 &&& (255 : Int64)).toInt32)) fun u1 => lt ((b4.toUInt64 >>> ((8 : Int32).toInt64.toUInt64 &&& Int64.toUInt64 63)).toInt64) fun x2 => lt (sI u1 5 ((gI u1 5) + (1 : Int32))) fun u3 => lt (b6 + (1 : Int32)) fun x4 => k6 b1 x2 x4 u3)))
def f_X2_take_L6 : Nat → Int32 → Int64 → Int32 → SS → Option (Int32 × SS)
  | 0 => fun _ _ _ _ => none
  | n + 1 => b_X2_take_L6 (f_X2_take_L6 n)
def f_X2_take (a1 : Int32) (a2 : Int64) (u : SS) : Option (Int32 × SS) :=
  f_X2_take_L6 FU a1 a2 (0 : Int32) u
set_option maxHeartbeats 4000000 in
set_option maxRecDepth 100000 in
theorem c_X2_take (l : Launch) (ev : EV) (a1 : Int32) (a2 : Int64) (u : SS) {r : Int32} {u' : SS} (hf : f_X2_take a1 a2 u = some (r, u')) : MI wdB l yX2_take cX2_take 7 (some .int) 0 ev [.ref (ev.2.1 3), .int a1, .long a2] u r u' := by
  refine bodyI (by decide +kernel) rfl (Nat.le_of_ble_eq_true rfl) ?_
  intro p e s m below meth cd ls H locs hc hr hlk hw hl
  generalize hav : (List.toArray [.ref (ev.2.1 3), .int a1, .long a2] : Array Value) = av at hc ⊢
  obtain ⟨hx, hb, hml, hown, hts, hK, hZ⟩ := id hc
  have hl : lv_has ls 7 [(0, .ref (ev.2.1 3)), (1, .int a1), (2, .long a2)] := hl
  have wL6 : ∀ (n : Nat) (b1 : Int32) (b4 : Int64) (b6 : Int32) (u : SS) (H : Heap) (locs : List Loc) (ls : Array Slot), VW wdB ev s u H locs → lv_has ls 7 [(0, .ref (ev.2.1 3)), (1, .int b1), (4, .long b4), (6, .int b6)] → f_X2_take_L6 n b1 b4 b6 u = some (r, u') → W p l e (rmk 0) s m av below meth cd H locs 0 0 (ZI wdB ev s below av r u') (F0 m 6 ls []) := by
    intro n
    induction n with
    | zero =>
      intro b1 b4 b6 u H locs ls hw hl hf
      cases hf
    | succ n hk6 =>
      intro b1 b4 b6 u H locs ls hw hl hf
      have hf : b_X2_take_L6 (f_X2_take_L6 n) b1 b4 b6 u = some (r, u') := hf
      unfold b_X2_take_L6 at hf
      refine lv_iload hx hb dX2_take_6 (lv_at hl 3 rfl) ?_
      refine lv_iload_n hx hb dX2_take_8 rfl (lv_at hl 1 rfl) ?_
      refine lv_icmp_ge (tgt := 60) hx hb dX2_take_9 (by decide) (fun z => ?_) (fun z => ?_)
      · have hf := it_pos z hf
        refine lv_aload_n hx hb dX2_take_60 rfl (lv_at hl 0 rfl) ?_
        refine gB3_2 hc hw fl_X2_25 dX2_take_61 ?_
        exact retI hc hr hlk hw hf dX2_take_64
      · have hf := it_neg z hf
        refine lv_aload_n hx hb dX2_take_12 rfl (lv_at hl 0 rfl) ?_
        refine gB3_2 hc hw fl_X2_25 dX2_take_13 ?_
        refine lv_bipush (v := (80 : Int32)) hx hb dX2_take_16 (by decide) ?_
        refine lv_icmp_ge (tgt := 60) hx hb dX2_take_18 (by decide) (fun z => ?_) (fun z => ?_)
        · have hf := it_pos z hf
          refine lv_aload_n hx hb dX2_take_60 rfl (lv_at hl 0 rfl) ?_
          refine gB3_2 hc hw fl_X2_25 dX2_take_61 ?_
          exact retI hc hr hlk hw hf dX2_take_64
        · have hf := it_neg z hf
          refine lv_aload_n hx hb dX2_take_21 rfl (lv_at hl 0 rfl) ?_
          refine gB3_3 hc hw fl_X2_19 dX2_take_22 ?_
          refine lv_aload_n hx hb dX2_take_25 rfl (lv_at hl 0 rfl) ?_
          refine gB3_2 hc hw fl_X2_25 dX2_take_26 ?_
          refine lv_lload hx hb dX2_take_29 (lv_at hl 2 rfl) ?_
          refine lv_ldc2 (v := (255 : Int64)) hx hb hown (hts _ ct_X2_28) dX2_take_31 ?_
          refine lv_land hx hb dX2_take_34 ?_
          refine lv_l2i (v := (b4 &&& (255 : Int64)).toInt32) hx hb dX2_take_35 rfl ?_
          obtain ⟨z, hf⟩ := oi_some hf
          refine tB23 hc hw z dX2_take_36 (fun H locs hw => ?_)
          obtain ⟨u1, eu1, hf⟩ := lt_some hf
          have hw := VW.nm eu1 hw
          refine lv_lload hx hb dX2_take_37 (lv_at hl 2 rfl) ?_
          refine lv_bipush (v := (8 : Int32)) hx hb dX2_take_39 (by decide) ?_
          refine lv_lushr (v := (b4.toUInt64 >>> ((8 : Int32).toInt64.toUInt64 &&& Int64.toUInt64 63)).toInt64) hx hb dX2_take_41 rfl ?_
          obtain ⟨x2, ex2, hf⟩ := lt_some hf
          refine topel ex2 ?_
          refine lv_lstore (lv' := [(4, .long x2), (0, .ref (ev.2.1 3)), (1, .int b1), (6, .int b6)]) hx hb dX2_take_42 hl (by decide) rfl (fun ls hl => ?_)
          refine lv_aload_n hx hb dX2_take_44 rfl (lv_at hl 1 rfl) ?_
          refine lv_dup hx hb dX2_take_45 rfl ?_
          refine gB3_2 hc hw fl_X2_25 dX2_take_46 ?_
          refine lv_iconst (v := (1 : Int32)) hx hb dX2_take_49 (by decide) ?_
          refine lv_iadd hx hb dX2_take_50 ?_
          refine pB3_2 hc hw fl_X2_25 dX2_take_51 (fun H locs hw => ?_)
          obtain ⟨u3, eu3, hf⟩ := lt_some hf
          have hw := VW.nm eu3 hw
          obtain ⟨x4, ex4, hf⟩ := lt_some hf
          refine lv_iinc (v := x4) (lv' := [(6, .int x4), (4, .long x2), (0, .ref (ev.2.1 3)), (1, .int b1)]) hx hb dX2_take_54 hl (k := 3) rfl (by rw [ex4]; rfl) (by decide) rfl (fun ls hl => ?_)
          refine lv_goto (tgt := 6) hx hb dX2_take_57 (by decide) ?_
          exact hk6 b1 x2 x4 u3 H locs ls hw (lv_sub hl [2, 3, 1, 0] rfl) hf
  unfold f_X2_take at hf
  refine lv_lload_n hx hb dX2_take_0 rfl (lv_at hl 2 rfl) ?_
  refine lv_lstore (lv' := [(4, .long a2), (0, .ref (ev.2.1 3)), (1, .int a1), (2, .long a2)]) hx hb dX2_take_1 hl (by decide) rfl (fun ls hl => ?_)
  refine lv_iconst (v := (0 : Int32)) hx hb dX2_take_3 (by decide) ?_
  refine lv_istore (lv' := [(6, .int (0 : Int32)), (4, .long a2), (0, .ref (ev.2.1 3)), (1, .int a1), (2, .long a2)]) hx hb dX2_take_4 hl (by decide) rfl (fun ls hl => ?_)
  exact wL6 FU a1 a2 (0 : Int32) u H locs ls hw (lv_sub hl [2, 3, 1, 0] rfl) hf
def f_X9_feed (a1 : Int32) (a2 : Int64) (u : SS) : Option (Int32 × SS) :=
  ob (f_X9_inRange a1 (1 : Int32) (8 : Int32) u) fun r3 u2 => if r3 = 0 then (if a1 ≤ ((80 : Int32) - (gI u2 5)) then (ob (f_X2_take a1 a2 u2) fun r6 u5 => some (r6, u5)) else (ob (f_X9_refuse (-6 : Int32) u2) fun r9 u8 => some (r9, u8))) else (ob (f_X9_refuse r3 u2) fun r12 u11 => some (r12, u11))
set_option maxHeartbeats 4000000 in
set_option maxRecDepth 100000 in
theorem c_X9_feed (l : Launch) (ev : EV) (a1 : Int32) (a2 : Int64) (u : SS) {r : Int32} {u' : SS} (hf : f_X9_feed a1 a2 u = some (r, u')) : MI wdB l yX9_feed cX9_feed 5 (some .int) 1 ev [.ref (ev.2.1 0), .int a1, .long a2] u r u' := by
  refine bodyI (by decide +kernel) rfl (Nat.le_of_ble_eq_true rfl) ?_
  intro p e s m below meth cd ls H locs hc hr hlk hw hl
  generalize hav : (List.toArray [.ref (ev.2.1 0), .int a1, .long a2] : Array Value) = av at hc ⊢
  obtain ⟨hx, hb, hml, hown, hts, hK, hZ⟩ := id hc
  have hl : lv_has ls 5 [(0, .ref (ev.2.1 0)), (1, .int a1), (2, .long a2)] := hl
  unfold f_X9_feed at hf
  refine lv_iload_n hx hb dX9_feed_0 rfl (lv_at hl 1 rfl) ?_
  refine lv_iconst (v := (1 : Int32)) hx hb dX9_feed_1 (by decide) ?_
  refine lv_bipush (v := (8 : Int32)) hx hb dX9_feed_2 (by decide) ?_
  obtain ⟨r3, u2, h1, hf⟩ := ob_some hf
  refine endI okB hw (runS_ok (As := [.int a1, .int (1 : Int32), .int (8 : Int32)]) (rest := []) okB hc hw (c_X9_inRange l ev a1 (1 : Int32) (8 : Int32) u h1 H.size) ks_X9_inRange ml_X9_76 hl.1 rfl rfl (Nat.le_of_ble_eq_true rfl) (rm_le (by decide) (by decide)) dX9_feed_4) (fun H locs hw => ?_)
  refine lv_istore (lv' := [(4, .int r3), (0, .ref (ev.2.1 0)), (1, .int a1), (2, .long a2)]) hx hb dX9_feed_7 hl (by decide) rfl (fun ls hl => ?_)
  refine lv_iload hx hb dX9_feed_9 (lv_at hl 0 rfl) ?_
  refine lv_if_eq (tgt := 21) hx hb dX9_feed_11 (by decide) (fun z => ?_) (fun z => ?_)
  · have hf := it_pos z hf
    refine lv_iload_n hx hb dX9_feed_21 rfl (lv_at hl 2 rfl) ?_
    refine lv_bipush (v := (80 : Int32)) hx hb dX9_feed_22 (by decide) ?_
    refine lv_aload_n hx hb dX9_feed_24 rfl (lv_at hl 1 rfl) ?_
    refine gB0_2 hc hw fl_X9_26 dX9_feed_25 ?_
    refine gB3_2 hc hw fl_X9_165 dX9_feed_28 ?_
    refine lv_isub hx hb dX9_feed_31 ?_
    refine lv_icmp_le (tgt := 42) hx hb dX9_feed_32 (by decide) (fun z => ?_) (fun z => ?_)
    · have hf := it_pos z hf
      refine lv_aload_n hx hb dX9_feed_42 rfl (lv_at hl 1 rfl) ?_
      refine gB0_2 hc hw fl_X9_26 dX9_feed_43 ?_
      refine lv_iload_n hx hb dX9_feed_46 rfl (lv_at hl 2 rfl) ?_
      refine lv_lload_n hx hb dX9_feed_47 rfl (lv_at hl 3 rfl) ?_
      obtain ⟨r6, u5, h4, hf⟩ := ob_some hf
      refine endI okB hw (runV_ok (As := [.int a1, .long a2]) (rest := []) okB hc hw (c_X2_take l ev a1 a2 u2 h4 H.size) kv_X2_take ml_X9_168 (rvB3 ev u2) hl.1 rfl rfl (Nat.le_of_ble_eq_true rfl) (rm_le (by decide) (by decide)) dX9_feed_48) (fun H locs hw => ?_)
      exact retI hc hr hlk hw hf dX9_feed_51
    · have hf := it_neg z hf
      refine lv_aload_n hx hb dX9_feed_35 rfl (lv_at hl 1 rfl) ?_
      refine lv_bipush (v := (-6 : Int32)) hx hb dX9_feed_36 (by decide) ?_
      obtain ⟨r9, u8, h7, hf⟩ := ob_some hf
      refine endI okB hw (runV_ok (As := [.int (-6 : Int32)]) (rest := []) okB hc hw (c_X9_refuse l ev (-6 : Int32) u2 h7 H.size) kv_X9_refuse ml_X9_62 (rvB0 ev u2) hl.1 rfl rfl (Nat.le_of_ble_eq_true rfl) (rm_le (by decide) (by decide)) dX9_feed_38) (fun H locs hw => ?_)
      exact retI hc hr hlk hw hf dX9_feed_41
  · have hf := it_neg z hf
    refine lv_aload_n hx hb dX9_feed_14 rfl (lv_at hl 1 rfl) ?_
    refine lv_iload hx hb dX9_feed_15 (lv_at hl 0 rfl) ?_
    obtain ⟨r12, u11, h10, hf⟩ := ob_some hf
    refine endI okB hw (runV_ok (As := [.int r3]) (rest := []) okB hc hw (c_X9_refuse l ev r3 u2 h10 H.size) kv_X9_refuse ml_X9_62 (rvB0 ev u2) hl.1 rfl rfl (Nat.le_of_ble_eq_true rfl) (rm_le (by decide) (by decide)) dX9_feed_17) (fun H locs hw => ?_)
    exact retI hc hr hlk hw hf dX9_feed_20
def f_X2_peek (u : SS) : Option (Int32 × SS) :=
  if (gI u 5) ≤ (gI u 8) then (some ((-1 : Int32), u)) else (oi (gI u 8) 80 (some ((gA u 14 (gI u 8).toNatClampNeg), u)))
set_option maxHeartbeats 4000000 in
set_option maxRecDepth 100000 in
theorem c_X2_peek (l : Launch) (ev : EV) (u : SS) {r : Int32} {u' : SS} (hf : f_X2_peek  u = some (r, u')) : MI wdB l yX2_peek cX2_peek 1 (some .int) 0 ev [.ref (ev.2.1 3)] u r u' := by
  refine bodyI (by decide +kernel) rfl (Nat.le_of_ble_eq_true rfl) ?_
  intro p e s m below meth cd ls H locs hc hr hlk hw hl
  generalize hav : (List.toArray [.ref (ev.2.1 3)] : Array Value) = av at hc ⊢
  obtain ⟨hx, hb, hml, hown, hts, hK, hZ⟩ := id hc
  have hl : lv_has ls 1 [(0, .ref (ev.2.1 3))] := hl
  unfold f_X2_peek at hf
  refine lv_aload_n hx hb dX2_peek_0 rfl (lv_at hl 0 rfl) ?_
  refine gB3_7 hc hw fl_X2_36 dX2_peek_1 ?_
  refine lv_aload_n hx hb dX2_peek_4 rfl (lv_at hl 0 rfl) ?_
  refine gB3_2 hc hw fl_X2_25 dX2_peek_5 ?_
  refine lv_icmp_ge (tgt := 23) hx hb dX2_peek_8 (by decide) (fun z => ?_) (fun z => ?_)
  · have hf := it_pos z hf
    refine lv_iconst (v := (-1 : Int32)) hx hb dX2_peek_23 (by decide) ?_
    exact retI hc hr hlk hw hf dX2_peek_24
  · have hf := it_neg z hf
    refine lv_aload_n hx hb dX2_peek_11 rfl (lv_at hl 0 rfl) ?_
    refine gB3_3 hc hw fl_X2_19 dX2_peek_12 ?_
    refine lv_aload_n hx hb dX2_peek_15 rfl (lv_at hl 0 rfl) ?_
    refine gB3_7 hc hw fl_X2_36 dX2_peek_16 ?_
    obtain ⟨z, hf⟩ := oi_some hf
    refine aB23 hc hw z dX2_peek_19 ?_
    refine lv_goto (tgt := 24) hx hb dX2_peek_20 (by decide) ?_
    exact retI hc hr hlk hw hf dX2_peek_24
def f_X2_isDigit (a0 : Int32) (u : SS) : Option (Int32 × SS) :=
  if a0 < (48 : Int32) then (some ((0 : Int32), u)) else (if (57 : Int32) < a0 then (some ((0 : Int32), u)) else (some ((1 : Int32), u)))
set_option maxHeartbeats 4000000 in
set_option maxRecDepth 100000 in
theorem c_X2_isDigit (l : Launch) (ev : EV) (a0 : Int32) (u : SS) {r : Int32} {u' : SS} (hf : f_X2_isDigit a0 u = some (r, u')) : MI wdB l yX2_isDigit cX2_isDigit 1 (some .boolean) 0 ev [.int a0] u r u' := by
  refine bodyI (by decide +kernel) rfl (Nat.le_of_ble_eq_true rfl) ?_
  intro p e s m below meth cd ls H locs hc hr hlk hw hl
  generalize hav : (List.toArray [.int a0] : Array Value) = av at hc ⊢
  obtain ⟨hx, hb, hml, hown, hts, hK, hZ⟩ := id hc
  have hl : lv_has ls 1 [(0, .int a0)] := hl
  unfold f_X2_isDigit at hf
  refine lv_iload_n hx hb dX2_isDigit_0 rfl (lv_at hl 0 rfl) ?_
  refine lv_bipush (v := (48 : Int32)) hx hb dX2_isDigit_1 (by decide) ?_
  refine lv_icmp_lt (tgt := 16) hx hb dX2_isDigit_3 (by decide) (fun z => ?_) (fun z => ?_)
  · have hf := it_pos z hf
    refine lv_iconst (v := (0 : Int32)) hx hb dX2_isDigit_16 (by decide) ?_
    exact retZ hc hr hlk hw nz0 hf dX2_isDigit_17
  · have hf := it_neg z hf
    refine lv_iload_n hx hb dX2_isDigit_6 rfl (lv_at hl 0 rfl) ?_
    refine lv_bipush (v := (57 : Int32)) hx hb dX2_isDigit_7 (by decide) ?_
    refine lv_icmp_gt (tgt := 16) hx hb dX2_isDigit_9 (by decide) (fun z => ?_) (fun z => ?_)
    · have hf := it_pos z hf
      refine lv_iconst (v := (0 : Int32)) hx hb dX2_isDigit_16 (by decide) ?_
      exact retZ hc hr hlk hw nz0 hf dX2_isDigit_17
    · have hf := it_neg z hf
      refine lv_iconst (v := (1 : Int32)) hx hb dX2_isDigit_12 (by decide) ?_
      refine lv_goto (tgt := 17) hx hb dX2_isDigit_13 (by decide) ?_
      exact retZ hc hr hlk hw nz1 hf dX2_isDigit_17
