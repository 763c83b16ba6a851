def f_X6_leastJoined_L60 (b3 : Int32) (u : SS) : Option (Int32 × SS) :=
  ob (f_J6_numberOfTrailingZeros_0f7a4 b3 u) fun r4 u3 => some (r4, u3)
def b_X6_leastJoined_L10 (k10 : Int32 → Int32 → Int32 → Int32 → SS → Option (Int32 × SS)) (b1 : Int32) (b3 : Int32) (b4 : Int32) (b5 : Int32) (u : SS) : Option (Int32 × SS) :=
  if (8 : Int32) ≤ b5 then (f_X6_leastJoined_L60 b3 u) else (if b4 = b3 then (f_X6_leastJoined_L60 b3 u) else (ob (f_J6_numberOfTrailingZeros_0f7a4 (b3 &&& (b4 ^^^ (-1 : Int32))) u) fun r7 u6 => lt (b4 ||| ((1 : Int32) <<< (r7 &&& 31))) fun x8 => ob (f_X6_joinedWith b1 r7 b3 u6) fun r11 u10 => lt (b3 ||| r11) fun x12 => lt (b5 + (1 : Int32)) fun x13 => k10 b1 x12 x8 x13 u10))
def f_X6_leastJoined_L10 : Nat → Int32 → Int32 → Int32 → Int32 → SS → Option (Int32 × SS)
  | 0 => fun _ _ _ _ _ => none
  | n + 1 => b_X6_leastJoined_L10 (f_X6_leastJoined_L10 n)
def f_X6_leastJoined (a1 : Int32) (a2 : Int32) (u : SS) : Option (Int32 × SS) :=
  lt ((1 : Int32) <<< (a2 &&& 31)) fun x1 => f_X6_leastJoined_L10 FU a1 x1 (0 : Int32) (0 : Int32) u
set_option maxHeartbeats 4000000 in
set_option maxRecDepth 100000 in
theorem c_X6_leastJoined (l : Launch) (ev : EV) (a1 : Int32) (a2 : Int32) (u : SS) {r : Int32} {u' : SS} (hf : f_X6_leastJoined a1 a2 u = some (r, u')) : MI wdB l yX6_leastJoined cX6_leastJoined 7 (some .int) 6 ev [.ref (ev.2.1 1), .int a1, .int a2] u r u' := by
  refine bodyI (by decide +kernel) rfl (Nat.le_of_ble_eq_true rfl) ?_
  intro p e s m below meth cd ls H locs hc hr hlk hw hl
  generalize hav : (List.toArray [.ref (ev.2.1 1), .int a1, .int a2] : Array Value) = av at hc ⊢
  obtain ⟨hx, hb, hml, hown, hts, hK, hZ⟩ := id hc
  have hl : lv_has ls 7 [(0, .ref (ev.2.1 1)), (1, .int a1), (2, .int a2)] := hl
  have wL60 : ∀ (b3 : Int32) (u : SS) (H : Heap) (locs : List Loc) (ls : Array Slot), VW wdB ev s u H locs → lv_has ls 7 [(3, .int b3)] → f_X6_leastJoined_L60 b3 u = some (r, u') → W p l e (rmk 6) s m av below meth cd H locs 0 0 (ZI wdB ev s below av r u') (F0 m 60 ls []) := by
    intro b3 u H locs ls hw hl hf
    unfold f_X6_leastJoined_L60 at hf
    refine lv_iload_n hx hb dX6_leastJoined_60 rfl (lv_at hl 0 rfl) ?_
    obtain ⟨r4, u3, h2, hf⟩ := ob_some hf
    refine endI okB hw (runS_ok (As := [.int b3]) (rest := []) okB hc hw (c_J6_numberOfTrailingZeros_0f7a4 l ev b3 u h2 H.size) ks_J6_numberOfTrailingZeros_0f7a4 ml_X6_41 hl.1 rfl rfl (Nat.le_of_ble_eq_true rfl) (rm_le (by decide) (by decide)) dX6_leastJoined_61) (fun H locs hw => ?_)
    exact retI hc hr hlk hw hf dX6_leastJoined_64
  have wL10 : ∀ (n : Nat) (b1 : Int32) (b3 : Int32) (b4 : Int32) (b5 : Int32) (u : SS) (H : Heap) (locs : List Loc) (ls : Array Slot), VW wdB ev s u H locs → lv_has ls 7 [(0, .ref (ev.2.1 1)), (1, .int b1), (3, .int b3), (4, .int b4), (5, .int b5)] → f_X6_leastJoined_L10 n b1 b3 b4 b5 u = some (r, u') → W p l e (rmk 6) s m av below meth cd H locs 0 0 (ZI wdB ev s below av r u') (F0 m 10 ls []) := by
    intro n
    induction n with
    | zero =>
      intro b1 b3 b4 b5 u H locs ls hw hl hf
      cases hf
    | succ n hk10 =>
      intro b1 b3 b4 b5 u H locs ls hw hl hf
      have hf : b_X6_leastJoined_L10 (f_X6_leastJoined_L10 n) b1 b3 b4 b5 u = some (r, u') := hf
      unfold b_X6_leastJoined_L10 at hf
      refine lv_iload hx hb dX6_leastJoined_10 (lv_at hl 4 rfl) ?_
      refine lv_bipush (v := (8 : Int32)) hx hb dX6_leastJoined_12 (by decide) ?_
      refine lv_icmp_ge (tgt := 60) hx hb dX6_leastJoined_14 (by decide) (fun z => ?_) (fun z => ?_)
      · have hf := it_pos z hf
        exact wL60 b3 u H locs ls hw (lv_sub hl [2] rfl) hf
      · have hf := it_neg z hf
        refine lv_iload hx hb dX6_leastJoined_17 (lv_at hl 3 rfl) ?_
        refine lv_iload_n hx hb dX6_leastJoined_19 rfl (lv_at hl 2 rfl) ?_
        refine lv_icmp_eq (tgt := 60) hx hb dX6_leastJoined_20 (by decide) (fun z => ?_) (fun z => ?_)
        · have hf := it_pos z hf
          exact wL60 b3 u H locs ls hw (lv_sub hl [2] rfl) hf
        · have hf := it_neg z hf
          refine lv_iload_n hx hb dX6_leastJoined_23 rfl (lv_at hl 2 rfl) ?_
          refine lv_iload hx hb dX6_leastJoined_24 (lv_at hl 3 rfl) ?_
          refine lv_iconst (v := (-1 : Int32)) hx hb dX6_leastJoined_26 (by decide) ?_
          refine lv_ixor hx hb dX6_leastJoined_27 ?_
          refine lv_iand hx hb dX6_leastJoined_28 ?_
          obtain ⟨r7, u6, h5, hf⟩ := ob_some hf
          refine endI okB hw (runS_ok (As := [.int (b3 &&& (b4 ^^^ (-1 : Int32)))]) (rest := []) okB hc hw (c_J6_numberOfTrailingZeros_0f7a4 l ev (b3 &&& (b4 ^^^ (-1 : Int32))) u h5 H.size) ks_J6_numberOfTrailingZeros_0f7a4 ml_X6_41 hl.1 rfl rfl (Nat.le_of_ble_eq_true rfl) (rm_le (by decide) (by decide)) dX6_leastJoined_29) (fun H locs hw => ?_)
          refine lv_istore (lv' := [(6, .int r7), (0, .ref (ev.2.1 1)), (1, .int b1), (3, .int b3), (4, .int b4), (5, .int b5)]) hx hb dX6_leastJoined_32 hl (by decide) rfl (fun ls hl => ?_)
          refine lv_iload hx hb dX6_leastJoined_34 (lv_at hl 4 rfl) ?_
          refine lv_iconst (v := (1 : Int32)) hx hb dX6_leastJoined_36 (by decide) ?_
          refine lv_iload hx hb dX6_leastJoined_37 (lv_at hl 0 rfl) ?_
          refine lv_ishl hx hb dX6_leastJoined_39 ?_
          refine lv_ior hx hb dX6_leastJoined_40 ?_
          obtain ⟨x8, ex8, hf⟩ := lt_some hf
          refine tope ex8 ?_
          refine lv_istore (lv' := [(4, .int x8), (6, .int r7), (0, .ref (ev.2.1 1)), (1, .int b1), (3, .int b3), (5, .int b5)]) hx hb dX6_leastJoined_41 hl (by decide) rfl (fun ls hl => ?_)
          refine lv_iload_n hx hb dX6_leastJoined_43 rfl (lv_at hl 4 rfl) ?_
          refine lv_aload_n hx hb dX6_leastJoined_44 rfl (lv_at hl 2 rfl) ?_
          refine lv_iload_n hx hb dX6_leastJoined_45 rfl (lv_at hl 3 rfl) ?_
          refine lv_iload hx hb dX6_leastJoined_46 (lv_at hl 1 rfl) ?_
          refine lv_iload_n hx hb dX6_leastJoined_48 rfl (lv_at hl 4 rfl) ?_
          obtain ⟨r11, u10, h9, hf⟩ := ob_some hf
          refine endI okB hw (runS_ok (As := [.ref (ev.2.1 1), .int b1, .int r7, .int b3]) (rest := [.int b3]) okB hc hw (c_X6_joinedWith l ev b1 r7 b3 u6 h9 H.size) ks_X6_joinedWith ml_X6_46 hl.1 rfl rfl (Nat.le_of_ble_eq_true rfl) (rm_le (by decide) (by decide)) dX6_leastJoined_49) (fun H locs hw => ?_)
          refine lv_ior hx hb dX6_leastJoined_52 ?_
          obtain ⟨x12, ex12, hf⟩ := lt_some hf
          refine tope ex12 ?_
          refine lv_istore_n (lv' := [(3, .int x12), (4, .int x8), (6, .int r7), (0, .ref (ev.2.1 1)), (1, .int b1), (5, .int b5)]) hx hb dX6_leastJoined_53 rfl hl (by decide) rfl (fun ls hl => ?_)
          obtain ⟨x13, ex13, hf⟩ := lt_some hf
          refine lv_iinc (v := x13) (lv' := [(5, .int x13), (3, .int x12), (4, .int x8), (6, .int r7), (0, .ref (ev.2.1 1)), (1, .int b1)]) hx hb dX6_leastJoined_54 hl (k := 5) rfl (by rw [ex13]; rfl) (by decide) rfl (fun ls hl => ?_)
          refine lv_goto (tgt := 10) hx hb dX6_leastJoined_57 (by decide) ?_
          exact hk10 b1 x12 x8 x13 u10 H locs ls hw (lv_sub hl [4, 5, 1, 2, 0] rfl) hf
  unfold f_X6_leastJoined at hf
  refine lv_iconst (v := (1 : Int32)) hx hb dX6_leastJoined_0 (by decide) ?_
  refine lv_iload_n hx hb dX6_leastJoined_1 rfl (lv_at hl 2 rfl) ?_
  refine lv_ishl hx hb dX6_leastJoined_2 ?_
  obtain ⟨x1, ex1, hf⟩ := lt_some hf
  refine tope ex1 ?_
  refine lv_istore_n (lv' := [(3, .int x1), (0, .ref (ev.2.1 1)), (1, .int a1), (2, .int a2)]) hx hb dX6_leastJoined_3 rfl hl (by decide) rfl (fun ls hl => ?_)
  refine lv_iconst (v := (0 : Int32)) hx hb dX6_leastJoined_4 (by decide) ?_
  refine lv_istore (lv' := [(4, .int (0 : Int32)), (3, .int x1), (0, .ref (ev.2.1 1)), (1, .int a1), (2, .int a2)]) hx hb dX6_leastJoined_5 hl (by decide) rfl (fun ls hl => ?_)
  refine lv_iconst (v := (0 : Int32)) hx hb dX6_leastJoined_7 (by decide) ?_
  refine lv_istore (lv' := [(5, .int (0 : Int32)), (4, .int (0 : Int32)), (3, .int x1), (0, .ref (ev.2.1 1)), (1, .int a1), (2, .int a2)]) hx hb dX6_leastJoined_8 hl (by decide) rfl (fun ls hl => ?_)
  exact wL10 FU a1 x1 (0 : Int32) (0 : Int32) u H locs ls hw (lv_sub hl [3, 4, 2, 1, 0] rfl) hf
def f_X9_ring (a1 : Int32) (a2 : Int32) (u : SS) : Option (Int32 × SS) :=
  ob (f_X9_noBid a2 a1 u) fun r3 u2 => if r3 = 0 then (ob (f_X9_cell a2 a1 u2) fun r6 u5 => oi r6 48 (if (gA u5 3 r6.toNatClampNeg) = 0 then (ob (f_X9_refuse (-5 : Int32) u5) fun r12 u11 => some (r12, u11)) else (ob (f_X6_leastJoined a1 a2 u5) fun r9 u8 => some (r9, u8)))) else (ob (f_X9_refuse (-1 : Int32) u2) fun r15 u14 => some (r15, u14))
set_option maxHeartbeats 4000000 in
set_option maxRecDepth 100000 in
theorem c_X9_ring (l : Launch) (ev : EV) (a1 : Int32) (a2 : Int32) (u : SS) {r : Int32} {u' : SS} (hf : f_X9_ring a1 a2 u = some (r, u')) : MI wdB l yX9_ring cX9_ring 3 (some .int) 7 ev [.ref (ev.2.1 0), .int a1, .int a2] u r u' := by
  refine bodyI (by decide +kernel) rfl (Nat.le_of_ble_eq_true rfl) ?_
  intro p e s m below meth cd ls H locs hc hr hlk hw hl
  generalize hav : (List.toArray [.ref (ev.2.1 0), .int a1, .int a2] : Array Value) = av at hc ⊢
  obtain ⟨hx, hb, hml, hown, hts, hK, hZ⟩ := id hc
  have hl : lv_has ls 3 [(0, .ref (ev.2.1 0)), (1, .int a1), (2, .int a2)] := hl
  unfold f_X9_ring at hf
  refine lv_aload_n hx hb dX9_ring_0 rfl (lv_at hl 0 rfl) ?_
  refine lv_iload_n hx hb dX9_ring_1 rfl (lv_at hl 2 rfl) ?_
  refine lv_iload_n hx hb dX9_ring_2 rfl (lv_at hl 1 rfl) ?_
  obtain ⟨r3, u2, h1, hf⟩ := ob_some hf
  refine endI okB hw (runV_ok (As := [.int a2, .int a1]) (rest := []) okB hc hw (c_X9_noBid l ev a2 a1 u h1 H.size) kv_X9_noBid ml_X9_93 (rvB0 ev u) hl.1 rfl rfl (Nat.le_of_ble_eq_true rfl) (rm_le (by decide) (by decide)) dX9_ring_3) (fun H locs hw => ?_)
  refine lv_if_eq (tgt := 15) hx hb dX9_ring_6 (by decide) (fun z => ?_) (fun z => ?_)
  · have hf := it_pos z hf
    refine lv_aload_n hx hb dX9_ring_15 rfl (lv_at hl 0 rfl) ?_
    refine gB0_0 hc hw fl_X9_12 dX9_ring_16 ?_
    refine gB1_2 hc hw fl_X9_113 dX9_ring_19 ?_
    refine lv_iload_n hx hb dX9_ring_22 rfl (lv_at hl 2 rfl) ?_
    refine lv_iload_n hx hb dX9_ring_23 rfl (lv_at hl 1 rfl) ?_
    obtain ⟨r6, u5, h4, hf⟩ := ob_some hf
    refine endI okB hw (runS_ok (As := [.int a2, .int a1]) (rest := [.ref (ev.2.1 12)]) okB hc hw (c_X9_cell l ev a2 a1 u2 h4 H.size) ks_X9_cell ml_X9_110 hl.1 rfl rfl (Nat.le_of_ble_eq_true rfl) (rm_le (by decide) (by decide)) dX9_ring_24) (fun H locs hw => ?_)
    obtain ⟨z, hf⟩ := oi_some hf
    refine aB12 hc hw z dX9_ring_27 ?_
    refine lv_if_ne (tgt := 38) hx hb dX9_ring_28 (by decide) (fun z => ?_) (fun z => ?_)
    · have hf := it_neg z hf
      refine lv_aload_n hx hb dX9_ring_38 rfl (lv_at hl 0 rfl) ?_
      refine gB0_0 hc hw fl_X9_12 dX9_ring_39 ?_
      refine lv_iload_n hx hb dX9_ring_42 rfl (lv_at hl 1 rfl) ?_
      refine lv_iload_n hx hb dX9_ring_43 rfl (lv_at hl 2 rfl) ?_
      obtain ⟨r9, u8, h7, hf⟩ := ob_some hf
      refine endI okB hw (runS_ok (As := [.ref (ev.2.1 1), .int a1, .int a2]) (rest := []) okB hc hw (c_X6_leastJoined l ev a1 a2 u5 h7 H.size) ks_X6_leastJoined ml_X9_322 hl.1 rfl rfl (Nat.le_of_ble_eq_true rfl) (rm_le (by decide) (by decide)) dX9_ring_44) (fun H locs hw => ?_)
      exact retI hc hr hlk hw hf dX9_ring_47
    · have hf := it_pos z hf
      refine lv_aload_n hx hb dX9_ring_31 rfl (lv_at hl 0 rfl) ?_
      refine lv_bipush (v := (-5 : Int32)) hx hb dX9_ring_32 (by decide) ?_
      obtain ⟨r12, u11, h10, hf⟩ := ob_some hf
      refine endI okB hw (runV_ok (As := [.int (-5 : Int32)]) (rest := []) okB hc hw (c_X9_refuse l ev (-5 : Int32) u5 h10 H.size) kv_X9_refuse ml_X9_62 (rvB0 ev u5) hl.1 rfl rfl (Nat.le_of_ble_eq_true rfl) (rm_le (by decide) (by decide)) dX9_ring_34) (fun H locs hw => ?_)
      exact retI hc hr hlk hw hf dX9_ring_37
  · have hf := it_neg z hf
    refine lv_aload_n hx hb dX9_ring_9 rfl (lv_at hl 0 rfl) ?_
    refine lv_iconst (v := (-1 : Int32)) hx hb dX9_ring_10 (by decide) ?_
    obtain ⟨r15, u14, h13, hf⟩ := ob_some hf
    refine endI okB hw (runV_ok (As := [.int (-1 : Int32)]) (rest := []) okB hc hw (c_X9_refuse l ev (-1 : Int32) u2 h13 H.size) kv_X9_refuse ml_X9_62 (rvB0 ev u2) hl.1 rfl rfl (Nat.le_of_ble_eq_true rfl) (rm_le (by decide) (by decide)) dX9_ring_11) (fun H locs hw => ?_)
    exact retI hc hr hlk hw hf dX9_ring_14
def b_X4_placeOf_L2 (k2 : Int32 → Int32 → SS → Option (Int32 × SS)) (b1 : Int32) (b2 : Int32) (u : SS) : Option (Int32 × SS) :=
  if (gI u 21) ≤ b2 then (some ((-1 : Int32), u)) else (if (8 : Int32) ≤ b2 then (some ((-1 : Int32), u)) else (oi b2 8 (if (gA u 32 b2.toNatClampNeg) = b1 then (some (b2, u)) else (lt (b2 + (1 : Int32)) fun x1 => k2 b1 x1 u))))
def f_X4_placeOf_L2 : Nat → Int32 → Int32 → SS → Option (Int32 × SS)
  | 0 => fun _ _ _ => none
  | n + 1 => b_X4_placeOf_L2 (f_X4_placeOf_L2 n)
def f_X4_placeOf (a1 : Int32) (u : SS) : Option (Int32 × SS) :=
  f_X4_placeOf_L2 FU a1 (0 : Int32) u
set_option maxHeartbeats 4000000 in
set_option maxRecDepth 100000 in
theorem c_X4_placeOf (l : Launch) (ev : EV) (a1 : Int32) (u : SS) {r : Int32} {u' : SS} (hf : f_X4_placeOf a1 u = some (r, u')) : MI wdB l yX4_placeOf cX4_placeOf 3 (some .int) 0 ev [.ref (ev.2.1 7), .int a1] u r u' := by
  refine bodyI (by decide +kernel) rfl (Nat.le_of_ble_eq_true rfl) ?_
  intro p e s m below meth cd ls H locs hc hr hlk hw hl
  generalize hav : (List.toArray [.ref (ev.2.1 7), .int a1] : Array Value) = av at hc ⊢
  obtain ⟨hx, hb, hml, hown, hts, hK, hZ⟩ := id hc
  have hl : lv_has ls 3 [(0, .ref (ev.2.1 7)), (1, .int a1)] := hl
  have wL2 : ∀ (n : Nat) (b1 : Int32) (b2 : Int32) (u : SS) (H : Heap) (locs : List Loc) (ls : Array Slot), VW wdB ev s u H locs → lv_has ls 3 [(0, .ref (ev.2.1 7)), (1, .int b1), (2, .int b2)] → f_X4_placeOf_L2 n b1 b2 u = some (r, u') → W p l e (rmk 0) s m av below meth cd H locs 0 0 (ZI wdB ev s below av r u') (F0 m 2 ls []) := by
    intro n
    induction n with
    | zero =>
      intro b1 b2 u H locs ls hw hl hf
      cases hf
    | succ n hk2 =>
      intro b1 b2 u H locs ls hw hl hf
      have hf : b_X4_placeOf_L2 (f_X4_placeOf_L2 n) b1 b2 u = some (r, u') := hf
      unfold b_X4_placeOf_L2 at hf
      refine lv_iload_n hx hb dX4_placeOf_2 rfl (lv_at hl 2 rfl) ?_
      refine lv_aload_n hx hb dX4_placeOf_3 rfl (lv_at hl 0 rfl) ?_
      refine gB7_3 hc hw fl_X4_28 dX4_placeOf_4 ?_
      refine lv_icmp_ge (tgt := 34) hx hb dX4_placeOf_7 (by decide) (fun z => ?_) (fun z => ?_)
      · have hf := it_pos z hf
        refine lv_iconst (v := (-1 : Int32)) hx hb dX4_placeOf_34 (by decide) ?_
        exact retI hc hr hlk hw hf dX4_placeOf_35
      · have hf := it_neg z hf
        refine lv_iload_n hx hb dX4_placeOf_10 rfl (lv_at hl 2 rfl) ?_
        refine lv_bipush (v := (8 : Int32)) hx hb dX4_placeOf_11 (by decide) ?_
        refine lv_icmp_ge (tgt := 34) hx hb dX4_placeOf_13 (by decide) (fun z => ?_) (fun z => ?_)
        · have hf := it_pos z hf
          refine lv_iconst (v := (-1 : Int32)) hx hb dX4_placeOf_34 (by decide) ?_
          exact retI hc hr hlk hw hf dX4_placeOf_35
        · have hf := it_neg z hf
          refine lv_aload_n hx hb dX4_placeOf_16 rfl (lv_at hl 0 rfl) ?_
          refine gB7_2 hc hw fl_X4_19 dX4_placeOf_17 ?_
          refine lv_iload_n hx hb dX4_placeOf_20 rfl (lv_at hl 2 rfl) ?_
          obtain ⟨z, hf⟩ := oi_some hf
          refine aB50 hc hw z dX4_placeOf_21 ?_
          refine lv_iload_n hx hb dX4_placeOf_22 rfl (lv_at hl 1 rfl) ?_
          refine lv_icmp_ne (tgt := 28) hx hb dX4_placeOf_23 (by decide) (fun z => ?_) (fun z => ?_)
          · have hf := it_neg z hf
            obtain ⟨x1, ex1, hf⟩ := lt_some hf
            refine lv_iinc (v := x1) (lv' := [(2, .int x1), (0, .ref (ev.2.1 7)), (1, .int b1)]) hx hb dX4_placeOf_28 hl (k := 2) rfl (by rw [ex1]; rfl) (by decide) rfl (fun ls hl => ?_)
            refine lv_goto (tgt := 2) hx hb dX4_placeOf_31 (by decide) ?_
            exact hk2 b1 x1 u H locs ls hw (lv_sub hl [1, 2, 0] rfl) hf
          · have hf := it_pos z hf
            refine lv_iload_n hx hb dX4_placeOf_26 rfl (lv_at hl 2 rfl) ?_
            exact retI hc hr hlk hw hf dX4_placeOf_27
  unfold f_X4_placeOf at hf
  refine lv_iconst (v := (0 : Int32)) hx hb dX4_placeOf_0 (by decide) ?_
  refine lv_istore_n (lv' := [(2, .int (0 : Int32)), (0, .ref (ev.2.1 7)), (1, .int a1)]) hx hb dX4_placeOf_1 rfl hl (by decide) rfl (fun ls hl => ?_)
  exact wL2 FU a1 (0 : Int32) u H locs ls hw (lv_sub hl [1, 2, 0] rfl) hf
def f_X4_add (a1 : Int32) (a2 : Int32) (u : SS) : Option (Int32 × SS) :=
  if (8 : Int32) ≤ (gI u 21) then (some ((gI u 21), u)) else (oi (gI u 21) 8 (lt (tA u 32 (gI u 21) a1) fun u1 => oi (gI u1 21) 8 (lt (tA u1 31 (gI u1 21) a2) fun u2 => lt (sI u2 21 ((gI u2 21) + (1 : Int32))) fun u3 => some ((gI u3 21), u3))))
set_option maxHeartbeats 4000000 in
set_option maxRecDepth 100000 in
theorem c_X4_add (l : Launch) (ev : EV) (a1 : Int32) (a2 : Int32) (u : SS) {r : Int32} {u' : SS} (hf : f_X4_add a1 a2 u = some (r, u')) : MI wdB l yX4_add cX4_add 3 (some .int) 0 ev [.ref (ev.2.1 7), .int a1, .int a2] u r u' := by
  refine bodyI (by decide +kernel) rfl (Nat.le_of_ble_eq_true rfl) ?_
  intro p e s m below meth cd ls H locs hc hr hlk hw hl
  generalize hav : (List.toArray [.ref (ev.2.1 7), .int a1, .int a2] : Array Value) = av at hc ⊢
  obtain ⟨hx, hb, hml, hown, hts, hK, hZ⟩ := id hc
  have hl : lv_has ls 3 [(0, .ref (ev.2.1 7)), (1, .int a1), (2, .int a2)] := hl
  unfold f_X4_add at hf
  refine lv_aload_n hx hb dX4_add_0 rfl (lv_at hl 0 rfl) ?_
  refine gB7_3 hc hw fl_X4_28 dX4_add_1 ?_
  refine lv_bipush (v := (8 : Int32)) hx hb dX4_add_4 (by decide) ?_
  refine lv_icmp_ge (tgt := 39) hx hb dX4_add_6 (by decide) (fun z => ?_) (fun z => ?_)
  · have hf := it_pos z hf
    refine lv_aload_n hx hb dX4_add_39 rfl (lv_at hl 0 rfl) ?_
    refine gB7_3 hc hw fl_X4_28 dX4_add_40 ?_
    exact retI hc hr hlk hw hf dX4_add_43
  · have hf := it_neg z hf
    refine lv_aload_n hx hb dX4_add_9 rfl (lv_at hl 0 rfl) ?_
    refine gB7_2 hc hw fl_X4_19 dX4_add_10 ?_
    refine lv_aload_n hx hb dX4_add_13 rfl (lv_at hl 0 rfl) ?_
    refine gB7_3 hc hw fl_X4_28 dX4_add_14 ?_
    refine lv_iload_n hx hb dX4_add_17 rfl (lv_at hl 1 rfl) ?_
    obtain ⟨z, hf⟩ := oi_some hf
    refine tB50 hc hw z dX4_add_18 (fun H locs hw => ?_)
    obtain ⟨u1, eu1, hf⟩ := lt_some hf
    have hw := VW.nm eu1 hw
    refine lv_aload_n hx hb dX4_add_19 rfl (lv_at hl 0 rfl) ?_
    refine gB7_0 hc hw fl_X4_9 dX4_add_20 ?_
    refine lv_aload_n hx hb dX4_add_23 rfl (lv_at hl 0 rfl) ?_
    refine gB7_3 hc hw fl_X4_28 dX4_add_24 ?_
    refine lv_iload_n hx hb dX4_add_27 rfl (lv_at hl 2 rfl) ?_
    obtain ⟨z, hf⟩ := oi_some hf
    refine tB49 hc hw z dX4_add_28 (fun H locs hw => ?_)
    obtain ⟨u2, eu2, hf⟩ := lt_some hf
    have hw := VW.nm eu2 hw
    refine lv_aload_n hx hb dX4_add_29 rfl (lv_at hl 0 rfl) ?_
    refine lv_dup hx hb dX4_add_30 rfl ?_
    refine gB7_3 hc hw fl_X4_28 dX4_add_31 ?_
    refine lv_iconst (v := (1 : Int32)) hx hb dX4_add_34 (by decide) ?_
    refine lv_iadd hx hb dX4_add_35 ?_
    refine pB7_3 hc hw fl_X4_28 dX4_add_36 (fun H locs hw => ?_)
    obtain ⟨u3, eu3, hf⟩ := lt_some hf
    have hw := VW.nm eu3 hw
    refine lv_aload_n hx hb dX4_add_39 rfl (lv_at hl 0 rfl) ?_
    refine gB7_3 hc hw fl_X4_28 dX4_add_40 ?_
    exact retI hc hr hlk hw hf dX4_add_43
def f_X9_join (a1 : Int32) (a2 : Int32) (u : SS) : Option (Int32 × SS) :=
  ob (f_X9_noBidder a1 u) fun r3 u2 => if r3 = 0 then (ob (f_X4_placeOf a1 u2) fun r6 u5 => if r6 = (-1 : Int32) then (ob (f_X9_inRange a2 (1 : Int32) (999 : Int32) u5) fun r9 u8 => if r9 = 0 then (ob (f_X4_add a1 a2 u8) fun r12 u11 => some (r12, u11)) else (ob (f_X9_refuse r9 u8) fun r15 u14 => some (r15, u14))) else (ob (f_X9_refuse (-3 : Int32) u5) fun r18 u17 => some (r18, u17))) else (ob (f_X9_refuse (-1 : Int32) u2) fun r21 u20 => some (r21, u20))
set_option maxHeartbeats 4000000 in
set_option maxRecDepth 100000 in
theorem c_X9_join (l : Launch) (ev : EV) (a1 : Int32) (a2 : Int32) (u : SS) {r : Int32} {u' : SS} (hf : f_X9_join a1 a2 u = some (r, u')) : MI wdB l yX9_join cX9_join 4 (some .int) 1 ev [.ref (ev.2.1 0), .int a1, .int a2] u r u' := by
  refine bodyI (by decide +kernel) rfl (Nat.le_of_ble_eq_true rfl) ?_
  intro p e s m below meth cd ls H locs hc hr hlk hw hl
  generalize hav : (List.toArray [.ref (ev.2.1 0), .int a1, .int a2] : Array Value) = av at hc ⊢
  obtain ⟨hx, hb, hml, hown, hts, hK, hZ⟩ := id hc
  have hl : lv_has ls 4 [(0, .ref (ev.2.1 0)), (1, .int a1), (2, .int a2)] := hl
  unfold f_X9_join at hf
  refine lv_iload_n hx hb dX9_join_0 rfl (lv_at hl 1 rfl) ?_
  obtain ⟨r3, u2, h1, hf⟩ := ob_some hf
  refine endI okB hw (runS_ok (As := [.int a1]) (rest := []) okB hc hw (c_X9_noBidder l ev a1 u h1 H.size) ks_X9_noBidder ml_X9_144 hl.1 rfl rfl (Nat.le_of_ble_eq_true rfl) (rm_le (by decide) (by decide)) dX9_join_1) (fun H locs hw => ?_)
  refine lv_if_eq (tgt := 13) hx hb dX9_join_4 (by decide) (fun z => ?_) (fun z => ?_)
  · have hf := it_pos z hf
    refine lv_aload_n hx hb dX9_join_13 rfl (lv_at hl 0 rfl) ?_
    refine gB0_6 hc hw fl_X9_54 dX9_join_14 ?_
    refine lv_iload_n hx hb dX9_join_17 rfl (lv_at hl 1 rfl) ?_
    obtain ⟨r6, u5, h4, hf⟩ := ob_some hf
    refine endI okB hw (runV_ok (As := [.int a1]) (rest := []) okB hc hw (c_X4_placeOf l ev a1 u2 h4 H.size) kv_X4_placeOf ml_X9_325 (rvB7 ev u2) hl.1 rfl rfl (Nat.le_of_ble_eq_true rfl) (rm_le (by decide) (by decide)) dX9_join_18) (fun H locs hw => ?_)
    refine lv_iconst (v := (-1 : Int32)) hx hb dX9_join_21 (by decide) ?_
    refine lv_icmp_eq (tgt := 32) hx hb dX9_join_22 (by decide) (fun z => ?_) (fun z => ?_)
    · have hf := it_pos z hf
      refine lv_iload_n hx hb dX9_join_32 rfl (lv_at hl 2 rfl) ?_
      refine lv_iconst (v := (1 : Int32)) hx hb dX9_join_33 (by decide) ?_
      refine lv_sipush (v := (999 : Int32)) hx hb dX9_join_34 (by decide) ?_
      obtain ⟨r9, u8, h7, hf⟩ := ob_some hf
      refine endI okB hw (runS_ok (As := [.int a2, .int (1 : Int32), .int (999 : Int32)]) (rest := []) okB hc hw (c_X9_inRange l ev a2 (1 : Int32) (999 : Int32) u5 h7 H.size) ks_X9_inRange ml_X9_76 hl.1 rfl rfl (Nat.le_of_ble_eq_true rfl) (rm_le (by decide) (by decide)) dX9_join_37) (fun H locs hw => ?_)
      refine lv_istore_n (lv' := [(3, .int r9), (0, .ref (ev.2.1 0)), (1, .int a1), (2, .int a2)]) hx hb dX9_join_40 rfl hl (by decide) rfl (fun ls hl => ?_)
      refine lv_iload_n hx hb dX9_join_41 rfl (lv_at hl 0 rfl) ?_
      refine lv_if_eq (tgt := 51) hx hb dX9_join_42 (by decide) (fun z => ?_) (fun z => ?_)
      · have hf := it_pos z hf
        refine lv_aload_n hx hb dX9_join_51 rfl (lv_at hl 1 rfl) ?_
        refine gB0_6 hc hw fl_X9_54 dX9_join_52 ?_
        refine lv_iload_n hx hb dX9_join_55 rfl (lv_at hl 2 rfl) ?_
        refine lv_iload_n hx hb dX9_join_56 rfl (lv_at hl 3 rfl) ?_
        obtain ⟨r12, u11, h10, hf⟩ := ob_some hf
        refine endI okB hw (runV_ok (As := [.int a1, .int a2]) (rest := []) okB hc hw (c_X4_add l ev a1 a2 u8 h10 H.size) kv_X4_add ml_X9_328 (rvB7 ev u8) hl.1 rfl rfl (Nat.le_of_ble_eq_true rfl) (rm_le (by decide) (by decide)) dX9_join_57) (fun H locs hw => ?_)
        exact retI hc hr hlk hw hf dX9_join_60
      · have hf := it_neg z hf
        refine lv_aload_n hx hb dX9_join_45 rfl (lv_at hl 1 rfl) ?_
        refine lv_iload_n hx hb dX9_join_46 rfl (lv_at hl 0 rfl) ?_
        obtain ⟨r15, u14, h13, hf⟩ := ob_some hf
        refine endI okB hw (runV_ok (As := [.int r9]) (rest := []) okB hc hw (c_X9_refuse l ev r9 u8 h13 H.size) kv_X9_refuse ml_X9_62 (rvB0 ev u8) hl.1 rfl rfl (Nat.le_of_ble_eq_true rfl) (rm_le (by decide) (by decide)) dX9_join_47) (fun H locs hw => ?_)
        exact retI hc hr hlk hw hf dX9_join_50
    · have hf := it_neg z hf
      refine lv_aload_n hx hb dX9_join_25 rfl (lv_at hl 0 rfl) ?_
      refine lv_bipush (v := (-3 : Int32)) hx hb dX9_join_26 (by decide) ?_
      obtain ⟨r18, u17, h16, hf⟩ := ob_some hf
      refine endI okB hw (runV_ok (As := [.int (-3 : Int32)]) (rest := []) okB hc hw (c_X9_refuse l ev (-3 : Int32) u5 h16 H.size) kv_X9_refuse ml_X9_62 (rvB0 ev u5) hl.1 rfl rfl (Nat.le_of_ble_eq_true rfl) (rm_le (by decide) (by decide)) dX9_join_28) (fun H locs hw => ?_)
      exact retI hc hr hlk hw hf dX9_join_31
  · have hf := it_neg z hf
    refine lv_aload_n hx hb dX9_join_7 rfl (lv_at hl 0 rfl) ?_
    refine lv_iconst (v := (-1 : Int32)) hx hb dX9_join_8 (by decide) ?_
    obtain ⟨r21, u20, h19, hf⟩ := ob_some hf
    refine endI okB hw (runV_ok (As := [.int (-1 : Int32)]) (rest := []) okB hc hw (c_X9_refuse l ev (-1 : Int32) u2 h19 H.size) kv_X9_refuse ml_X9_62 (rvB0 ev u2) hl.1 rfl rfl (Nat.le_of_ble_eq_true rfl) (rm_le (by decide) (by decide)) dX9_join_9) (fun H locs hw => ?_)
    exact retI hc hr hlk hw hf dX9_join_12
def f_X4_nextWithRoom_L31 (k5 : Int32 → Int32 → Int32 → SS → Option (Int32 × SS)) (b2 : Int32) (b4 : Int32) (q0 : Int32) (u : SS) : Option (Int32 × SS) :=
  if q0 = b2 then (some ((-1 : Int32), u)) else (oi q0 8 (if (gA u 31 q0.toNatClampNeg) < (gI u 24) then (lt (b4 + (1 : Int32)) fun x1 => k5 b2 q0 x1 u) else (some (q0, u))))
def b_X4_nextWithRoom_L5 (k5 : Int32 → Int32 → Int32 → SS → Option (Int32 × SS)) (b2 : Int32) (b3 : Int32) (b4 : Int32) (u : SS) : Option (Int32 × SS) :=
  if (gI u 21) ≤ b4 then (some ((-1 : Int32), u)) else (if (gI u 21) ≤ (b3 + (1 : Int32)) then (f_X4_nextWithRoom_L31 k5 b2 b4 (0 : Int32) u) else (f_X4_nextWithRoom_L31 k5 b2 b4 (b3 + (1 : Int32)) u))
def f_X4_nextWithRoom_L5 : Nat → Int32 → Int32 → Int32 → SS → Option (Int32 × SS)
  | 0 => fun _ _ _ _ => none
  | n + 1 => b_X4_nextWithRoom_L5 (f_X4_nextWithRoom_L5 n)
def f_X4_nextWithRoom (a1 : Int32) (a2 : Int32) (u : SS) : Option (Int32 × SS) :=
  f_X4_nextWithRoom_L5 FU a2 a1 (0 : Int32) u
set_option maxHeartbeats 4000000 in
set_option maxRecDepth 100000 in
theorem c_X4_nextWithRoom (l : Launch) (ev : EV) (a1 : Int32) (a2 : Int32) (u : SS) {r : Int32} {u' : SS} (hf : f_X4_nextWithRoom a1 a2 u = some (r, u')) : MI wdB l yX4_nextWithRoom cX4_nextWithRoom 5 (some .int) 0 ev [.ref (ev.2.1 7), .int a1, .int a2] u r u' := by
  refine bodyI (by decide +kernel) rfl (Nat.le_of_ble_eq_true rfl) ?_
  intro p e s m below meth cd ls H locs hc hr hlk hw hl
  generalize hav : (List.toArray [.ref (ev.2.1 7), .int a1, .int a2] : Array Value) = av at hc ⊢
  obtain ⟨hx, hb, hml, hown, hts, hK, hZ⟩ := id hc
  have hl : lv_has ls 5 [(0, .ref (ev.2.1 7)), (1, .int a1), (2, .int a2)] := hl
  have wL31 : ∀ (k5 : Int32 → Int32 → Int32 → SS → Option (Int32 × SS)) (hk5 : ∀ (b2 : Int32) (b3 : Int32) (b4 : Int32) (u : SS) (H : Heap) (locs : List Loc) (ls : Array Slot), VW wdB ev s u H locs → lv_has ls 5 [(0, .ref (ev.2.1 7)), (2, .int b2), (3, .int b3), (4, .int b4)] → k5 b2 b3 b4 u = some (r, u') → W p l e (rmk 0) s m av below meth cd H locs 0 0 (ZI wdB ev s below av r u') (F0 m 5 ls [])) (b2 : Int32) (b4 : Int32) (q0 : Int32) (u : SS) (H : Heap) (locs : List Loc) (ls : Array Slot), VW wdB ev s u H locs → lv_has ls 5 [(0, .ref (ev.2.1 7)), (2, .int b2), (4, .int b4)] → f_X4_nextWithRoom_L31 k5 b2 b4 q0 u = some (r, u') → W p l e (rmk 0) s m av below meth cd H locs 0 0 (ZI wdB ev s below av r u') (F0 m 31 ls [.int q0]) := by
    intro k5 hk5 b2 b4 q0 u H locs ls hw hl hf
    unfold f_X4_nextWithRoom_L31 at hf
    refine lv_istore_n (lv' := [(3, .int q0), (0, .ref (ev.2.1 7)), (2, .int b2), (4, .int b4)]) hx hb dX4_nextWithRoom_31 rfl hl (by decide) rfl (fun ls hl => ?_)
    refine lv_iload_n hx hb dX4_nextWithRoom_32 rfl (lv_at hl 0 rfl) ?_
    refine lv_iload_n hx hb dX4_nextWithRoom_33 rfl (lv_at hl 2 rfl) ?_
    refine lv_icmp_ne (tgt := 39) hx hb dX4_nextWithRoom_34 (by decide) (fun z => ?_) (fun z => ?_)
    · have hf := it_neg z hf
      refine lv_aload_n hx hb dX4_nextWithRoom_39 rfl (lv_at hl 1 rfl) ?_
      refine gB7_0 hc hw fl_X4_9 dX4_nextWithRoom_40 ?_
      refine lv_iload_n hx hb dX4_nextWithRoom_43 rfl (lv_at hl 0 rfl) ?_
      obtain ⟨z, hf⟩ := oi_some hf
      refine aB49 hc hw z dX4_nextWithRoom_44 ?_
      refine lv_aload_n hx hb dX4_nextWithRoom_45 rfl (lv_at hl 1 rfl) ?_
      refine gB7_6 hc hw fl_X4_31 dX4_nextWithRoom_46 ?_
      refine lv_icmp_lt (tgt := 54) hx hb dX4_nextWithRoom_49 (by decide) (fun z => ?_) (fun z => ?_)
      · have hf := it_pos z hf
        obtain ⟨x1, ex1, hf⟩ := lt_some hf
        refine lv_iinc (v := x1) (lv' := [(4, .int x1), (3, .int q0), (0, .ref (ev.2.1 7)), (2, .int b2)]) hx hb dX4_nextWithRoom_54 hl (k := 3) rfl (by rw [ex1]; rfl) (by decide) rfl (fun ls hl => ?_)
        refine lv_goto (tgt := 5) hx hb dX4_nextWithRoom_57 (by decide) ?_
        exact hk5 b2 q0 x1 u H locs ls hw (lv_sub hl [2, 3, 1, 0] rfl) hf
      · have hf := it_neg z hf
        refine lv_iload_n hx hb dX4_nextWithRoom_52 rfl (lv_at hl 0 rfl) ?_
        exact retI hc hr hlk hw hf dX4_nextWithRoom_53
    · have hf := it_pos z hf
      refine lv_iconst (v := (-1 : Int32)) hx hb dX4_nextWithRoom_37 (by decide) ?_
      exact retI hc hr hlk hw hf dX4_nextWithRoom_38
  have wL5 : ∀ (n : Nat) (b2 : Int32) (b3 : Int32) (b4 : Int32) (u : SS) (H : Heap) (locs : List Loc) (ls : Array Slot), VW wdB ev s u H locs → lv_has ls 5 [(0, .ref (ev.2.1 7)), (2, .int b2), (3, .int b3), (4, .int b4)] → f_X4_nextWithRoom_L5 n b2 b3 b4 u = some (r, u') → W p l e (rmk 0) s m av below meth cd H locs 0 0 (ZI wdB ev s below av r u') (F0 m 5 ls []) := by
    intro n
    induction n with
    | zero =>
      intro b2 b3 b4 u H locs ls hw hl hf
      cases hf
    | succ n hk5 =>
      intro b2 b3 b4 u H locs ls hw hl hf
      have hf : b_X4_nextWithRoom_L5 (f_X4_nextWithRoom_L5 n) b2 b3 b4 u = some (r, u') := hf
      unfold b_X4_nextWithRoom_L5 at hf
      refine lv_iload hx hb dX4_nextWithRoom_5 (lv_at hl 3 rfl) ?_
      refine lv_aload_n hx hb dX4_nextWithRoom_7 rfl (lv_at hl 0 rfl) ?_
      refine gB7_3 hc hw fl_X4_28 dX4_nextWithRoom_8 ?_
      refine lv_icmp_ge (tgt := 60) hx hb dX4_nextWithRoom_11 (by decide) (fun z => ?_) (fun z => ?_)
      · have hf := it_pos z hf
        refine lv_iconst (v := (-1 : Int32)) hx hb dX4_nextWithRoom_60 (by decide) ?_
        exact retI hc hr hlk hw hf dX4_nextWithRoom_61
      · have hf := it_neg z hf
        refine lv_iload_n hx hb dX4_nextWithRoom_14 rfl (lv_at hl 2 rfl) ?_
        refine lv_iconst (v := (1 : Int32)) hx hb dX4_nextWithRoom_15 (by decide) ?_
        refine lv_iadd hx hb dX4_nextWithRoom_16 ?_
        refine lv_aload_n hx hb dX4_nextWithRoom_17 rfl (lv_at hl 0 rfl) ?_
        refine gB7_3 hc hw fl_X4_28 dX4_nextWithRoom_18 ?_
        refine lv_icmp_ge (tgt := 30) hx hb dX4_nextWithRoom_21 (by decide) (fun z => ?_) (fun z => ?_)
        · have hf := it_pos z hf
          refine lv_iconst (v := (0 : Int32)) hx hb dX4_nextWithRoom_30 (by decide) ?_
          exact wL31 (f_X4_nextWithRoom_L5 n) hk5 b2 b4 (0 : Int32) u H locs ls hw (lv_sub hl [0, 1, 3] rfl) hf
        · have hf := it_neg z hf
          refine lv_iload_n hx hb dX4_nextWithRoom_24 rfl (lv_at hl 2 rfl) ?_
          refine lv_iconst (v := (1 : Int32)) hx hb dX4_nextWithRoom_25 (by decide) ?_
          refine lv_iadd hx hb dX4_nextWithRoom_26 ?_
          refine lv_goto (tgt := 31) hx hb dX4_nextWithRoom_27 (by decide) ?_
          exact wL31 (f_X4_nextWithRoom_L5 n) hk5 b2 b4 (b3 + (1 : Int32)) u H locs ls hw (lv_sub hl [0, 1, 3] rfl) hf
  unfold f_X4_nextWithRoom at hf
  refine lv_iload_n hx hb dX4_nextWithRoom_0 rfl (lv_at hl 1 rfl) ?_
  refine lv_istore_n (lv' := [(3, .int a1), (0, .ref (ev.2.1 7)), (1, .int a1), (2, .int a2)]) hx hb dX4_nextWithRoom_1 rfl hl (by decide) rfl (fun ls hl => ?_)
  refine lv_iconst (v := (0 : Int32)) hx hb dX4_nextWithRoom_2 (by decide) ?_
  refine lv_istore (lv' := [(4, .int (0 : Int32)), (3, .int a1), (0, .ref (ev.2.1 7)), (1, .int a1), (2, .int a2)]) hx hb dX4_nextWithRoom_3 hl (by decide) rfl (fun ls hl => ?_)
  exact wL5 FU a2 a1 (0 : Int32) u H locs ls hw (lv_sub hl [2, 4, 1, 0] rfl) hf
def f_X4_hand (a1 : Int32) (u : SS) : Option (Int32 × SS) :=
  lt (sI u 20 a1) fun u1 => if a1 = (-1 : Int32) then (some ((-9 : Int32), u1)) else (oi a1 8 (oi a1 8 (lt (tA u1 31 a1 ((gA u1 31 a1.toNatClampNeg) - (gI u1 24))) fun u2 => lt (sI u2 22 a1) fun u3 => oi a1 8 (some ((gA u3 32 a1.toNatClampNeg), u3)))))
set_option maxHeartbeats 4000000 in
set_option maxRecDepth 100000 in
theorem c_X4_hand (l : Launch) (ev : EV) (a1 : Int32) (u : SS) {r : Int32} {u' : SS} (hf : f_X4_hand a1 u = some (r, u')) : MI wdB l yX4_hand cX4_hand 2 (some .int) 0 ev [.ref (ev.2.1 7), .int a1] u r u' := by
  refine bodyI (by decide +kernel) rfl (Nat.le_of_ble_eq_true rfl) ?_
  intro p e s m below meth cd ls H locs hc hr hlk hw hl
  generalize hav : (List.toArray [.ref (ev.2.1 7), .int a1] : Array Value) = av at hc ⊢
  obtain ⟨hx, hb, hml, hown, hts, hK, hZ⟩ := id hc
  have hl : lv_has ls 2 [(0, .ref (ev.2.1 7)), (1, .int a1)] := hl
  unfold f_X4_hand at hf
  refine lv_aload_n hx hb dX4_hand_0 rfl (lv_at hl 0 rfl) ?_
  refine lv_iload_n hx hb dX4_hand_1 rfl (lv_at hl 1 rfl) ?_
  refine pB7_1 hc hw fl_X4_15 dX4_hand_2 (fun H locs hw => ?_)
  obtain ⟨u1, eu1, hf⟩ := lt_some hf
  have hw := VW.nm eu1 hw
  refine lv_iload_n hx hb dX4_hand_5 rfl (lv_at hl 1 rfl) ?_
  refine lv_iconst (v := (-1 : Int32)) hx hb dX4_hand_6 (by decide) ?_
  refine lv_icmp_ne (tgt := 13) hx hb dX4_hand_7 (by decide) (fun z => ?_) (fun z => ?_)
  · have hf := it_neg z hf
    refine lv_aload_n hx hb dX4_hand_13 rfl (lv_at hl 0 rfl) ?_
    refine gB7_0 hc hw fl_X4_9 dX4_hand_14 ?_
    refine lv_iload_n hx hb dX4_hand_17 rfl (lv_at hl 1 rfl) ?_
    refine lv_dup2_11 hx hb dX4_hand_18 rfl rfl ?_
    obtain ⟨z, hf⟩ := oi_some hf
    refine aB49 hc hw z dX4_hand_19 ?_
    refine lv_aload_n hx hb dX4_hand_20 rfl (lv_at hl 0 rfl) ?_
    refine gB7_6 hc hw fl_X4_31 dX4_hand_21 ?_
    refine lv_isub hx hb dX4_hand_24 ?_
    obtain ⟨z, hf⟩ := oi_some hf
    refine tB49 hc hw z dX4_hand_25 (fun H locs hw => ?_)
    obtain ⟨u2, eu2, hf⟩ := lt_some hf
    have hw := VW.nm eu2 hw
    refine lv_aload_n hx hb dX4_hand_26 rfl (lv_at hl 0 rfl) ?_
    refine lv_iload_n hx hb dX4_hand_27 rfl (lv_at hl 1 rfl) ?_
    refine pB7_4 hc hw fl_X4_22 dX4_hand_28 (fun H locs hw => ?_)
    obtain ⟨u3, eu3, hf⟩ := lt_some hf
    have hw := VW.nm eu3 hw
    refine lv_aload_n hx hb dX4_hand_31 rfl (lv_at hl 0 rfl) ?_
    refine gB7_2 hc hw fl_X4_19 dX4_hand_32 ?_
    refine lv_iload_n hx hb dX4_hand_35 rfl (lv_at hl 1 rfl) ?_
    obtain ⟨z, hf⟩ := oi_some hf
    refine aB50 hc hw z dX4_hand_36 ?_
    exact retI hc hr hlk hw hf dX4_hand_37
  · have hf := it_pos z hf
    refine lv_bipush (v := (-9 : Int32)) hx hb dX4_hand_10 (by decide) ?_
    exact retI hc hr hlk hw hf dX4_hand_12
def f_X4_beginCall (a1 : Int32) (u : SS) : Option (Int32 × SS) :=
  lt (sI u 24 a1) fun u1 => ob (f_X4_nextWithRoom (gI u1 22) (-1 : Int32) u1) fun r4 u3 => lt (sI u3 23 r4) fun u5 => ob (f_X4_hand r4 u5) fun r8 u7 => some (r8, u7)
set_option maxHeartbeats 4000000 in
set_option maxRecDepth 100000 in
theorem c_X4_beginCall (l : Launch) (ev : EV) (a1 : Int32) (u : SS) {r : Int32} {u' : SS} (hf : f_X4_beginCall a1 u = some (r, u')) : MI wdB l yX4_beginCall cX4_beginCall 3 (some .int) 1 ev [.ref (ev.2.1 7), .int a1] u r u' := by
  refine bodyI (by decide +kernel) rfl (Nat.le_of_ble_eq_true rfl) ?_
  intro p e s m below meth cd ls H locs hc hr hlk hw hl
  generalize hav : (List.toArray [.ref (ev.2.1 7), .int a1] : Array Value) = av at hc ⊢
  obtain ⟨hx, hb, hml, hown, hts, hK, hZ⟩ := id hc
  have hl : lv_has ls 3 [(0, .ref (ev.2.1 7)), (1, .int a1)] := hl
  unfold f_X4_beginCall at hf
  refine lv_aload_n hx hb dX4_beginCall_0 rfl (lv_at hl 0 rfl) ?_
  refine lv_iload_n hx hb dX4_beginCall_1 rfl (lv_at hl 1 rfl) ?_
  refine pB7_6 hc hw fl_X4_31 dX4_beginCall_2 (fun H locs hw => ?_)
  obtain ⟨u1, eu1, hf⟩ := lt_some hf
  have hw := VW.nm eu1 hw
  refine lv_aload_n hx hb dX4_beginCall_5 rfl (lv_at hl 0 rfl) ?_
  refine lv_aload_n hx hb dX4_beginCall_6 rfl (lv_at hl 0 rfl) ?_
  refine gB7_4 hc hw fl_X4_22 dX4_beginCall_7 ?_
  refine lv_iconst (v := (-1 : Int32)) hx hb dX4_beginCall_10 (by decide) ?_
  obtain ⟨r4, u3, h2, hf⟩ := ob_some hf
  refine endI okB hw (runV_ok (As := [.int (gI u1 22), .int (-1 : Int32)]) (rest := []) okB hc hw (c_X4_nextWithRoom l ev (gI u1 22) (-1 : Int32) u1 h2 H.size) kv_X4_nextWithRoom ml_X4_34 (rvB7 ev u1) hl.1 rfl rfl (Nat.le_of_ble_eq_true rfl) (rm_le (by decide) (by decide)) dX4_beginCall_11) (fun H locs hw => ?_)
  refine lv_istore_n (lv' := [(2, .int r4), (0, .ref (ev.2.1 7)), (1, .int a1)]) hx hb dX4_beginCall_14 rfl hl (by decide) rfl (fun ls hl => ?_)
  refine lv_aload_n hx hb dX4_beginCall_15 rfl (lv_at hl 1 rfl) ?_
  refine lv_iload_n hx hb dX4_beginCall_16 rfl (lv_at hl 0 rfl) ?_
  refine pB7_5 hc hw fl_X4_25 dX4_beginCall_17 (fun H locs hw => ?_)
  obtain ⟨u5, eu5, hf⟩ := lt_some hf
  have hw := VW.nm eu5 hw
  refine lv_aload_n hx hb dX4_beginCall_20 rfl (lv_at hl 1 rfl) ?_
  refine lv_iload_n hx hb dX4_beginCall_21 rfl (lv_at hl 0 rfl) ?_
  obtain ⟨r8, u7, h6, hf⟩ := ob_some hf
  refine endI okB hw (runV_ok (As := [.int r4]) (rest := []) okB hc hw (c_X4_hand l ev r4 u5 h6 H.size) kv_X4_hand ml_X4_38 (rvB7 ev u5) hl.1 rfl rfl (Nat.le_of_ble_eq_true rfl) (rm_le (by decide) (by decide)) dX4_beginCall_22) (fun H locs hw => ?_)
  exact retI hc hr hlk hw hf dX4_beginCall_25
def f_X9_call (a1 : Int32) (u : SS) : Option (Int32 × SS) :=
  ob (f_X9_inRange a1 (1 : Int32) (999 : Int32) u) fun r3 u2 => if r3 = 0 then (ob (f_X4_beginCall a1 u2) fun r6 u5 => some (r6, u5)) else (ob (f_X9_refuse r3 u2) fun r9 u8 => some (r9, u8))
set_option maxHeartbeats 4000000 in
set_option maxRecDepth 100000 in
theorem c_X9_call (l : Launch) (ev : EV) (a1 : Int32) (u : SS) {r : Int32} {u' : SS} (hf : f_X9_call a1 u = some (r, u')) : MI wdB l yX9_call cX9_call 3 (some .int) 2 ev [.ref (ev.2.1 0), .int a1] u r u' := by
  refine bodyI (by decide +kernel) rfl (Nat.le_of_ble_eq_true rfl) ?_
  intro p e s m below meth cd ls H locs hc hr hlk hw hl
  generalize hav : (List.toArray [.ref (ev.2.1 0), .int a1] : Array Value) = av at hc ⊢
  obtain ⟨hx, hb, hml, hown, hts, hK, hZ⟩ := id hc
  have hl : lv_has ls 3 [(0, .ref (ev.2.1 0)), (1, .int a1)] := hl
  unfold f_X9_call at hf
  refine lv_iload_n hx hb dX9_call_0 rfl (lv_at hl 1 rfl) ?_
  refine lv_iconst (v := (1 : Int32)) hx hb dX9_call_1 (by decide) ?_
  refine lv_sipush (v := (999 : Int32)) hx hb dX9_call_2 (by decide) ?_
  obtain ⟨r3, u2, h1, hf⟩ := ob_some hf
  refine endI okB hw (runS_ok (As := [.int a1, .int (1 : Int32), .int (999 : Int32)]) (rest := []) okB hc hw (c_X9_inRange l ev a1 (1 : Int32) (999 : Int32) u h1 H.size) ks_X9_inRange ml_X9_76 hl.1 rfl rfl (Nat.le_of_ble_eq_true rfl) (rm_le (by decide) (by decide)) dX9_call_5) (fun H locs hw => ?_)
  refine lv_istore_n (lv' := [(2, .int r3), (0, .ref (ev.2.1 0)), (1, .int a1)]) hx hb dX9_call_8 rfl hl (by decide) rfl (fun ls hl => ?_)
  refine lv_iload_n hx hb dX9_call_9 rfl (lv_at hl 0 rfl) ?_
  refine lv_if_eq (tgt := 19) hx hb dX9_call_10 (by decide) (fun z => ?_) (fun z => ?_)
  · have hf := it_pos z hf
    refine lv_aload_n hx hb dX9_call_19 rfl (lv_at hl 1 rfl) ?_
    refine gB0_6 hc hw fl_X9_54 dX9_call_20 ?_
    refine lv_iload_n hx hb dX9_call_23 rfl (lv_at hl 2 rfl) ?_
    obtain ⟨r6, u5, h4, hf⟩ := ob_some hf
    refine endI okB hw (runV_ok (As := [.int a1]) (rest := []) okB hc hw (c_X4_beginCall l ev a1 u2 h4 H.size) kv_X4_beginCall ml_X9_331 (rvB7 ev u2) hl.1 rfl rfl (Nat.le_of_ble_eq_true rfl) (rm_le (by decide) (by decide)) dX9_call_24) (fun H locs hw => ?_)
    exact retI hc hr hlk hw hf dX9_call_27
  · have hf := it_neg z hf
    refine lv_aload_n hx hb dX9_call_13 rfl (lv_at hl 1 rfl) ?_
    refine lv_iload_n hx hb dX9_call_14 rfl (lv_at hl 0 rfl) ?_
    obtain ⟨r9, u8, h7, hf⟩ := ob_some hf
    refine endI okB hw (runV_ok (As := [.int r3]) (rest := []) okB hc hw (c_X9_refuse l ev r3 u2 h7 H.size) kv_X9_refuse ml_X9_62 (rvB0 ev u2) hl.1 rfl rfl (Nat.le_of_ble_eq_true rfl) (rm_le (by decide) (by decide)) dX9_call_15) (fun H locs hw => ?_)
    exact retI hc hr hlk hw hf dX9_call_18
def f_X4_passOn (u : SS) : Option (Int32 × SS) :=
  oi (gI u 20) 8 (oi (gI u 20) 8 (lt (tA u 31 (gI u 20) ((gA u 31 (gI u 20).toNatClampNeg) + (gI u 24))) fun u1 => ob (f_X4_nextWithRoom (gI u1 20) (gI u1 23) u1) fun r4 u3 => ob (f_X4_hand r4 u3) fun r7 u6 => some (r7, u6)))
set_option maxHeartbeats 4000000 in
set_option maxRecDepth 100000 in
theorem c_X4_passOn (l : Launch) (ev : EV) (u : SS) {r : Int32} {u' : SS} (hf : f_X4_passOn  u = some (r, u')) : MI wdB l yX4_passOn cX4_passOn 1 (some .int) 1 ev [.ref (ev.2.1 7)] u r u' := by
  refine bodyI (by decide +kernel) rfl (Nat.le_of_ble_eq_true rfl) ?_
  intro p e s m below meth cd ls H locs hc hr hlk hw hl
  generalize hav : (List.toArray [.ref (ev.2.1 7)] : Array Value) = av at hc ⊢
  obtain ⟨hx, hb, hml, hown, hts, hK, hZ⟩ := id hc
  have hl : lv_has ls 1 [(0, .ref (ev.2.1 7))] := hl
  unfold f_X4_passOn at hf
  refine lv_aload_n hx hb dX4_passOn_0 rfl (lv_at hl 0 rfl) ?_
  refine gB7_0 hc hw fl_X4_9 dX4_passOn_1 ?_
  refine lv_aload_n hx hb dX4_passOn_4 rfl (lv_at hl 0 rfl) ?_
  refine gB7_1 hc hw fl_X4_15 dX4_passOn_5 ?_
  refine lv_dup2_11 hx hb dX4_passOn_8 rfl rfl ?_
  obtain ⟨z, hf⟩ := oi_some hf
  refine aB49 hc hw z dX4_passOn_9 ?_
  refine lv_aload_n hx hb dX4_passOn_10 rfl (lv_at hl 0 rfl) ?_
  refine gB7_6 hc hw fl_X4_31 dX4_passOn_11 ?_
  refine lv_iadd hx hb dX4_passOn_14 ?_
  obtain ⟨z, hf⟩ := oi_some hf
  refine tB49 hc hw z dX4_passOn_15 (fun H locs hw => ?_)
  obtain ⟨u1, eu1, hf⟩ := lt_some hf
  have hw := VW.nm eu1 hw
  refine lv_aload_n hx hb dX4_passOn_16 rfl (lv_at hl 0 rfl) ?_
  refine lv_aload_n hx hb dX4_passOn_17 rfl (lv_at hl 0 rfl) ?_
  refine lv_aload_n hx hb dX4_passOn_18 rfl (lv_at hl 0 rfl) ?_
  refine gB7_1 hc hw fl_X4_15 dX4_passOn_19 ?_
  refine lv_aload_n hx hb dX4_passOn_22 rfl (lv_at hl 0 rfl) ?_
  refine gB7_5 hc hw fl_X4_25 dX4_passOn_23 ?_
  obtain ⟨r4, u3, h2, hf⟩ := ob_some hf
  refine endI okB hw (runV_ok (As := [.int (gI u1 20), .int (gI u1 23)]) (rest := [.ref (ev.2.1 7)]) okB hc hw (c_X4_nextWithRoom l ev (gI u1 20) (gI u1 23) u1 h2 H.size) kv_X4_nextWithRoom ml_X4_34 (rvB7 ev u1) hl.1 rfl rfl (Nat.le_of_ble_eq_true rfl) (rm_le (by decide) (by decide)) dX4_passOn_26) (fun H locs hw => ?_)
  obtain ⟨r7, u6, h5, hf⟩ := ob_some hf
  refine endI okB hw (runV_ok (As := [.int r4]) (rest := []) okB hc hw (c_X4_hand l ev r4 u3 h5 H.size) kv_X4_hand ml_X4_38 (rvB7 ev u3) hl.1 rfl rfl (Nat.le_of_ble_eq_true rfl) (rm_le (by decide) (by decide)) dX4_passOn_29) (fun H locs hw => ?_)
  exact retI hc hr hlk hw hf dX4_passOn_32
def f_X9_decline (u : SS) : Option (Int32 × SS) :=
  if (gI u 20) = (-1 : Int32) then (ob (f_X9_refuse (-3 : Int32) u) fun r6 u5 => some (r6, u5)) else (ob (f_X4_passOn u) fun r3 u2 => some (r3, u2))
set_option maxHeartbeats 4000000 in
set_option maxRecDepth 100000 in
theorem c_X9_decline (l : Launch) (ev : EV) (u : SS) {r : Int32} {u' : SS} (hf : f_X9_decline  u = some (r, u')) : MI wdB l yX9_decline cX9_decline 1 (some .int) 2 ev [.ref (ev.2.1 0)] u r u' := by
  refine bodyI (by decide +kernel) rfl (Nat.le_of_ble_eq_true rfl) ?_
  intro p e s m below meth cd ls H locs hc hr hlk hw hl
  generalize hav : (List.toArray [.ref (ev.2.1 0)] : Array Value) = av at hc ⊢
  obtain ⟨hx, hb, hml, hown, hts, hK, hZ⟩ := id hc
  have hl : lv_has ls 1 [(0, .ref (ev.2.1 0))] := hl
  unfold f_X9_decline at hf
  refine lv_aload_n hx hb dX9_decline_0 rfl (lv_at hl 0 rfl) ?_
  refine gB0_6 hc hw fl_X9_54 dX9_decline_1 ?_
  refine gB7_1 hc hw fl_X9_334 dX9_decline_4 ?_
  refine lv_iconst (v := (-1 : Int32)) hx hb dX9_decline_7 (by decide) ?_
  refine lv_icmp_ne (tgt := 18) hx hb dX9_decline_8 (by decide) (fun z => ?_) (fun z => ?_)
  · have hf := it_neg z hf
    refine lv_aload_n hx hb dX9_decline_18 rfl (lv_at hl 0 rfl) ?_
    refine gB0_6 hc hw fl_X9_54 dX9_decline_19 ?_
    obtain ⟨r3, u2, h1, hf⟩ := ob_some hf
    refine endI okB hw (runV_ok (As := []) (rest := []) okB hc hw (c_X4_passOn l ev u h1 H.size) kv_X4_passOn ml_X9_337 (rvB7 ev u) hl.1 rfl rfl (Nat.le_of_ble_eq_true rfl) (rm_le (by decide) (by decide)) dX9_decline_22) (fun H locs hw => ?_)
    exact retI hc hr hlk hw hf dX9_decline_25
  · have hf := it_pos z hf
    refine lv_aload_n hx hb dX9_decline_11 rfl (lv_at hl 0 rfl) ?_
    refine lv_bipush (v := (-3 : Int32)) hx hb dX9_decline_12 (by decide) ?_
    obtain ⟨r6, u5, h4, hf⟩ := ob_some hf
    refine endI okB hw (runV_ok (As := [.int (-3 : Int32)]) (rest := []) okB hc hw (c_X9_refuse l ev (-3 : Int32) u h4 H.size) kv_X9_refuse ml_X9_62 (rvB0 ev u) hl.1 rfl rfl (Nat.le_of_ble_eq_true rfl) (rm_le (by decide) (by decide)) dX9_decline_14) (fun H locs hw => ?_)
    exact retI hc hr hlk hw hf dX9_decline_17
def f_X9_room (a1 : Int32) (u : SS) : Option (Int32 × SS) :=
  ob (f_X9_noBidder a1 u) fun r3 u2 => if r3 = 0 then (ob (f_X4_placeOf a1 u2) fun r6 u5 => if r6 = (-1 : Int32) then (ob (f_X9_refuse (-3 : Int32) u5) fun r9 u8 => some (r9, u8)) else (oi r6 8 (some ((gA u5 31 r6.toNatClampNeg), u5)))) else (ob (f_X9_refuse (-1 : Int32) u2) fun r12 u11 => some (r12, u11))
set_option maxHeartbeats 4000000 in
set_option maxRecDepth 100000 in
theorem c_X9_room (l : Launch) (ev : EV) (a1 : Int32) (u : SS) {r : Int32} {u' : SS} (hf : f_X9_room a1 u = some (r, u')) : MI wdB l yX9_room cX9_room 3 (some .int) 1 ev [.ref (ev.2.1 0), .int a1] u r u' := by
  refine bodyI (by decide +kernel) rfl (Nat.le_of_ble_eq_true rfl) ?_
  intro p e s m below meth cd ls H locs hc hr hlk hw hl
  generalize hav : (List.toArray [.ref (ev.2.1 0), .int a1] : Array Value) = av at hc ⊢
  obtain ⟨hx, hb, hml, hown, hts, hK, hZ⟩ := id hc
  have hl : lv_has ls 3 [(0, .ref (ev.2.1 0)), (1, .int a1)] := hl
  unfold f_X9_room at hf
  refine lv_iload_n hx hb dX9_room_0 rfl (lv_at hl 1 rfl) ?_
  obtain ⟨r3, u2, h1, hf⟩ := ob_some hf
  refine endI okB hw (runS_ok (As := [.int a1]) (rest := []) okB hc hw (c_X9_noBidder l ev a1 u h1 H.size) ks_X9_noBidder ml_X9_144 hl.1 rfl rfl (Nat.le_of_ble_eq_true rfl) (rm_le (by decide) (by decide)) dX9_room_1) (fun H locs hw => ?_)
  refine lv_if_eq (tgt := 13) hx hb dX9_room_4 (by decide) (fun z => ?_) (fun z => ?_)
  · have hf := it_pos z hf
    refine lv_aload_n hx hb dX9_room_13 rfl (lv_at hl 0 rfl) ?_
    refine gB0_6 hc hw fl_X9_54 dX9_room_14 ?_
    refine lv_iload_n hx hb dX9_room_17 rfl (lv_at hl 1 rfl) ?_
    obtain ⟨r6, u5, h4, hf⟩ := ob_some hf
    refine endI okB hw (runV_ok (As := [.int a1]) (rest := []) okB hc hw (c_X4_placeOf l ev a1 u2 h4 H.size) kv_X4_placeOf ml_X9_325 (rvB7 ev u2) hl.1 rfl rfl (Nat.le_of_ble_eq_true rfl) (rm_le (by decide) (by decide)) dX9_room_18) (fun H locs hw => ?_)
    refine lv_istore_n (lv' := [(2, .int r6), (0, .ref (ev.2.1 0)), (1, .int a1)]) hx hb dX9_room_21 rfl hl (by decide) rfl (fun ls hl => ?_)
    refine lv_iload_n hx hb dX9_room_22 rfl (lv_at hl 0 rfl) ?_
    refine lv_iconst (v := (-1 : Int32)) hx hb dX9_room_23 (by decide) ?_
    refine lv_icmp_ne (tgt := 34) hx hb dX9_room_24 (by decide) (fun z => ?_) (fun z => ?_)
    · have hf := it_neg z hf
      refine lv_aload_n hx hb dX9_room_34 rfl (lv_at hl 1 rfl) ?_
      refine gB0_6 hc hw fl_X9_54 dX9_room_35 ?_
      refine gB7_0 hc hw fl_X9_340 dX9_room_38 ?_
      refine lv_iload_n hx hb dX9_room_41 rfl (lv_at hl 0 rfl) ?_
      obtain ⟨z, hf⟩ := oi_some hf
      refine aB49 hc hw z dX9_room_42 ?_
      exact retI hc hr hlk hw hf dX9_room_43
    · have hf := it_pos z hf
      refine lv_aload_n hx hb dX9_room_27 rfl (lv_at hl 1 rfl) ?_
      refine lv_bipush (v := (-3 : Int32)) hx hb dX9_room_28 (by decide) ?_
      obtain ⟨r9, u8, h7, hf⟩ := ob_some hf
      refine endI okB hw (runV_ok (As := [.int (-3 : Int32)]) (rest := []) okB hc hw (c_X9_refuse l ev (-3 : Int32) u5 h7 H.size) kv_X9_refuse ml_X9_62 (rvB0 ev u5) hl.1 rfl rfl (Nat.le_of_ble_eq_true rfl) (rm_le (by decide) (by decide)) dX9_room_30) (fun H locs hw => ?_)
      exact retI hc hr hlk hw hf dX9_room_33
  · have hf := it_neg z hf
    refine lv_aload_n hx hb dX9_room_7 rfl (lv_at hl 0 rfl) ?_
    refine lv_iconst (v := (-1 : Int32)) hx hb dX9_room_8 (by decide) ?_
    obtain ⟨r12, u11, h10, hf⟩ := ob_some hf
    refine endI okB hw (runV_ok (As := [.int (-1 : Int32)]) (rest := []) okB hc hw (c_X9_refuse l ev (-1 : Int32) u2 h10 H.size) kv_X9_refuse ml_X9_62 (rvB0 ev u2) hl.1 rfl rfl (Nat.le_of_ble_eq_true rfl) (rm_le (by decide) (by decide)) dX9_room_9) (fun H locs hw => ?_)
    exact retI hc hr hlk hw hf dX9_room_12
def f_X1_countThere_L22 (k4 : Int32 → Int32 → SS → Option (Int32 × SS)) (b1 : Int32) (b2 : Int32) (u : SS) : Option (Int32 × SS) :=
  lt (b2 + (1 : Int32)) fun x1 => k4 b1 x1 u
def b_X1_countThere_L4 (k4 : Int32 → Int32 → SS → Option (Int32 × SS)) (b1 : Int32) (b2 : Int32) (u : SS) : Option (Int32 × SS) :=
  if (48 : Int32) ≤ b2 then (some (b1, u)) else (oi b2 48 (if (gA u 3 b2.toNatClampNeg) = 0 then (f_X1_countThere_L22 k4 b1 b2 u) else (lt (b1 + (1 : Int32)) fun x2 => f_X1_countThere_L22 k4 x2 b2 u)))
def f_X1_countThere_L4 : Nat → Int32 → Int32 → SS → Option (Int32 × SS)
  | 0 => fun _ _ _ => none
  | n + 1 => b_X1_countThere_L4 (f_X1_countThere_L4 n)
def f_X1_countThere (u : SS) : Option (Int32 × SS) :=
  f_X1_countThere_L4 FU (0 : Int32) (0 : Int32) u
set_option maxHeartbeats 4000000 in
set_option maxRecDepth 100000 in
theorem c_X1_countThere (l : Launch) (ev : EV) (u : SS) {r : Int32} {u' : SS} (hf : f_X1_countThere  u = some (r, u')) : MI wdB l yX1_countThere cX1_countThere 3 (some .int) 0 ev [.ref (ev.2.1 1)] u r u' := by
  refine bodyI (by decide +kernel) rfl (Nat.le_of_ble_eq_true rfl) ?_
  intro p e s m below meth cd ls H locs hc hr hlk hw hl
  generalize hav : (List.toArray [.ref (ev.2.1 1)] : Array Value) = av at hc ⊢
  obtain ⟨hx, hb, hml, hown, hts, hK, hZ⟩ := id hc
  have hl : lv_has ls 3 [(0, .ref (ev.2.1 1))] := hl
  have wL22 : ∀ (k4 : Int32 → Int32 → SS → Option (Int32 × SS)) (hk4 : ∀ (b1 : Int32) (b2 : Int32) (u : SS) (H : Heap) (locs : List Loc) (ls : Array Slot), VW wdB ev s u H locs → lv_has ls 3 [(0, .ref (ev.2.1 1)), (1, .int b1), (2, .int b2)] → k4 b1 b2 u = some (r, u') → W p l e (rmk 0) s m av below meth cd H locs 0 0 (ZI wdB ev s below av r u') (F0 m 4 ls [])) (b1 : Int32) (b2 : Int32) (u : SS) (H : Heap) (locs : List Loc) (ls : Array Slot), VW wdB ev s u H locs → lv_has ls 3 [(0, .ref (ev.2.1 1)), (1, .int b1), (2, .int b2)] → f_X1_countThere_L22 k4 b1 b2 u = some (r, u') → W p l e (rmk 0) s m av below meth cd H locs 0 0 (ZI wdB ev s below av r u') (F0 m 22 ls []) := by
    intro k4 hk4 b1 b2 u H locs ls hw hl hf
    unfold f_X1_countThere_L22 at hf
    obtain ⟨x1, ex1, hf⟩ := lt_some hf
    refine lv_iinc (v := x1) (lv' := [(2, .int x1), (0, .ref (ev.2.1 1)), (1, .int b1)]) hx hb dX1_countThere_22 hl (k := 2) rfl (by rw [ex1]; rfl) (by decide) rfl (fun ls hl => ?_)
    refine lv_goto (tgt := 4) hx hb dX1_countThere_25 (by decide) ?_
    exact hk4 b1 x1 u H locs ls hw (lv_sub hl [1, 2, 0] rfl) hf
  have wL4 : ∀ (n : Nat) (b1 : Int32) (b2 : Int32) (u : SS) (H : Heap) (locs : List Loc) (ls : Array Slot), VW wdB ev s u H locs → lv_has ls 3 [(0, .ref (ev.2.1 1)), (1, .int b1), (2, .int b2)] → f_X1_countThere_L4 n b1 b2 u = some (r, u') → W p l e (rmk 0) s m av below meth cd H locs 0 0 (ZI wdB ev s below av r u') (F0 m 4 ls []) := by
    intro n
    induction n with
    | zero =>
      intro b1 b2 u H locs ls hw hl hf
      cases hf
    | succ n hk4 =>
      intro b1 b2 u H locs ls hw hl hf
      have hf : b_X1_countThere_L4 (f_X1_countThere_L4 n) b1 b2 u = some (r, u') := hf
      unfold b_X1_countThere_L4 at hf
      refine lv_iload_n hx hb dX1_countThere_4 rfl (lv_at hl 2 rfl) ?_
      refine lv_bipush (v := (48 : Int32)) hx hb dX1_countThere_5 (by decide) ?_
      refine lv_icmp_ge (tgt := 28) hx hb dX1_countThere_7 (by decide) (fun z => ?_) (fun z => ?_)
      · have hf := it_pos z hf
        refine lv_iload_n hx hb dX1_countThere_28 rfl (lv_at hl 1 rfl) ?_
        exact retI hc hr hlk hw hf dX1_countThere_29
      · have hf := it_neg z hf
        refine lv_aload_n hx hb dX1_countThere_10 rfl (lv_at hl 0 rfl) ?_
        refine gB1_2 hc hw fl_X1_18 dX1_countThere_11 ?_
        refine lv_iload_n hx hb dX1_countThere_14 rfl (lv_at hl 2 rfl) ?_
        obtain ⟨z, hf⟩ := oi_some hf
        refine aB12 hc hw z dX1_countThere_15 ?_
        refine lv_if_eq (tgt := 22) hx hb dX1_countThere_16 (by decide) (fun z => ?_) (fun z => ?_)
        · have hf := it_pos z hf
          exact wL22 (f_X1_countThere_L4 n) hk4 b1 b2 u H locs ls hw (lv_sub hl [0, 1, 2] rfl) hf
        · have hf := it_neg z hf
          obtain ⟨x2, ex2, hf⟩ := lt_some hf
          refine lv_iinc (v := x2) (lv' := [(1, .int x2), (0, .ref (ev.2.1 1)), (2, .int b2)]) hx hb dX1_countThere_19 hl (k := 1) rfl (by rw [ex2]; rfl) (by decide) rfl (fun ls hl => ?_)
          exact wL22 (f_X1_countThere_L4 n) hk4 x2 b2 u H locs ls hw (lv_sub hl [1, 0, 2] rfl) hf
  unfold f_X1_countThere at hf
  refine lv_iconst (v := (0 : Int32)) hx hb dX1_countThere_0 (by decide) ?_
  refine lv_istore_n (lv' := [(1, .int (0 : Int32)), (0, .ref (ev.2.1 1))]) hx hb dX1_countThere_1 rfl hl (by decide) rfl (fun ls hl => ?_)
  refine lv_iconst (v := (0 : Int32)) hx hb dX1_countThere_2 (by decide) ?_
  refine lv_istore_n (lv' := [(2, .int (0 : Int32)), (1, .int (0 : Int32)), (0, .ref (ev.2.1 1))]) hx hb dX1_countThere_3 rfl hl (by decide) rfl (fun ls hl => ?_)
  exact wL4 FU (0 : Int32) (0 : Int32) u H locs ls hw (lv_sub hl [2, 1, 0] rfl) hf
def f_X1_countStanding_L21 (k4 : Int32 → Int32 → SS → Option (Int32 × SS)) (b1 : Int32) (b2 : Int32) (u : SS) : Option (Int32 × SS) :=
  lt (b2 + (1 : Int32)) fun x4 => k4 b1 x4 u
def b_X1_countStanding_L4 (k4 : Int32 → Int32 → SS → Option (Int32 × SS)) (b1 : Int32) (b2 : Int32) (u : SS) : Option (Int32 × SS) :=
  if (48 : Int32) ≤ b2 then (some (b1, u)) else (ob (f_X1_standsAt b2 u) fun r3 u2 => if r3 = 0 then (f_X1_countStanding_L21 k4 b1 b2 u2) else (lt (b1 + (1 : Int32)) fun x5 => f_X1_countStanding_L21 k4 x5 b2 u2))
def f_X1_countStanding_L4 : Nat → Int32 → Int32 → SS → Option (Int32 × SS)
  | 0 => fun _ _ _ => none
  | n + 1 => b_X1_countStanding_L4 (f_X1_countStanding_L4 n)
def f_X1_countStanding (u : SS) : Option (Int32 × SS) :=
  f_X1_countStanding_L4 FU (0 : Int32) (0 : Int32) u
set_option maxHeartbeats 4000000 in
set_option maxRecDepth 100000 in
theorem c_X1_countStanding (l : Launch) (ev : EV) (u : SS) {r : Int32} {u' : SS} (hf : f_X1_countStanding  u = some (r, u')) : MI wdB l yX1_countStanding cX1_countStanding 3 (some .int) 3 ev [.ref (ev.2.1 1)] u r u' := by
  refine bodyI (by decide +kernel) rfl (Nat.le_of_ble_eq_true rfl) ?_
  intro p e s m below meth cd ls H locs hc hr hlk hw hl
  generalize hav : (List.toArray [.ref (ev.2.1 1)] : Array Value) = av at hc ⊢
  obtain ⟨hx, hb, hml, hown, hts, hK, hZ⟩ := id hc
  have hl : lv_has ls 3 [(0, .ref (ev.2.1 1))] := hl
  have wL21 : ∀ (k4 : Int32 → Int32 → SS → Option (Int32 × SS)) (hk4 : ∀ (b1 : Int32) (b2 : Int32) (u : SS) (H : Heap) (locs : List Loc) (ls : Array Slot), VW wdB ev s u H locs → lv_has ls 3 [(0, .ref (ev.2.1 1)), (1, .int b1), (2, .int b2)] → k4 b1 b2 u = some (r, u') → W p l e (rmk 3) s m av below meth cd H locs 0 0 (ZI wdB ev s below av r u') (F0 m 4 ls [])) (b1 : Int32) (b2 : Int32) (u : SS) (H : Heap) (locs : List Loc) (ls : Array Slot), VW wdB ev s u H locs → lv_has ls 3 [(0, .ref (ev.2.1 1)), (1, .int b1), (2, .int b2)] → f_X1_countStanding_L21 k4 b1 b2 u = some (r, u') → W p l e (rmk 3) s m av below meth cd H locs 0 0 (ZI wdB ev s below av r u') (F0 m 21 ls []) := by
    intro k4 hk4 b1 b2 u H locs ls hw hl hf
    unfold f_X1_countStanding_L21 at hf
    obtain ⟨x4, ex4, hf⟩ := lt_some hf
    refine lv_iinc (v := x4) (lv' := [(2, .int x4), (0, .ref (ev.2.1 1)), (1, .int b1)]) hx hb dX1_countStanding_21 hl (k := 2) rfl (by rw [ex4]; rfl) (by decide) rfl (fun ls hl => ?_)
    refine lv_goto (tgt := 4) hx hb dX1_countStanding_24 (by decide) ?_
    exact hk4 b1 x4 u H locs ls hw (lv_sub hl [1, 2, 0] rfl) hf
  have wL4 : ∀ (n : Nat) (b1 : Int32) (b2 : Int32) (u : SS) (H : Heap) (locs : List Loc) (ls : Array Slot), VW wdB ev s u H locs → lv_has ls 3 [(0, .ref (ev.2.1 1)), (1, .int b1), (2, .int b2)] → f_X1_countStanding_L4 n b1 b2 u = some (r, u') → W p l e (rmk 3) s m av below meth cd H locs 0 0 (ZI wdB ev s below av r u') (F0 m 4 ls []) := by
    intro n
    induction n with
    | zero =>
      intro b1 b2 u H locs ls hw hl hf
      cases hf
    | succ n hk4 =>
      intro b1 b2 u H locs ls hw hl hf
      have hf : b_X1_countStanding_L4 (f_X1_countStanding_L4 n) b1 b2 u = some (r, u') := hf
      unfold b_X1_countStanding_L4 at hf
      refine lv_iload_n hx hb dX1_countStanding_4 rfl (lv_at hl 2 rfl) ?_
      refine lv_bipush (v := (48 : Int32)) hx hb dX1_countStanding_5 (by decide) ?_
      refine lv_icmp_ge (tgt := 27) hx hb dX1_countStanding_7 (by decide) (fun z => ?_) (fun z => ?_)
      · have hf := it_pos z hf
        refine lv_iload_n hx hb dX1_countStanding_27 rfl (lv_at hl 1 rfl) ?_
        exact retI hc hr hlk hw hf dX1_countStanding_28
      · have hf := it_neg z hf
        refine lv_aload_n hx hb dX1_countStanding_10 rfl (lv_at hl 0 rfl) ?_
        refine lv_iload_n hx hb dX1_countStanding_11 rfl (lv_at hl 2 rfl) ?_
        obtain ⟨r3, u2, h1, hf⟩ := ob_some hf
        refine endI okB hw (runV_ok (As := [.int b2]) (rest := []) okB hc hw (c_X1_standsAt l ev b2 u h1 H.size) kv_X1_standsAt ml_X1_85 (rvB1 ev u) hl.1 rfl rfl (Nat.le_of_ble_eq_true rfl) (rm_le (by decide) (by decide)) dX1_countStanding_12) (fun H locs hw => ?_)
        refine lv_if_eq (tgt := 21) hx hb dX1_countStanding_15 (by decide) (fun z => ?_) (fun z => ?_)
        · have hf := it_pos z hf
          exact wL21 (f_X1_countStanding_L4 n) hk4 b1 b2 u2 H locs ls hw (lv_sub hl [0, 1, 2] rfl) hf
        · have hf := it_neg z hf
          obtain ⟨x5, ex5, hf⟩ := lt_some hf
          refine lv_iinc (v := x5) (lv' := [(1, .int x5), (0, .ref (ev.2.1 1)), (2, .int b2)]) hx hb dX1_countStanding_18 hl (k := 1) rfl (by rw [ex5]; rfl) (by decide) rfl (fun ls hl => ?_)
          exact wL21 (f_X1_countStanding_L4 n) hk4 x5 b2 u2 H locs ls hw (lv_sub hl [1, 0, 2] rfl) hf
  unfold f_X1_countStanding at hf
  refine lv_iconst (v := (0 : Int32)) hx hb dX1_countStanding_0 (by decide) ?_
  refine lv_istore_n (lv' := [(1, .int (0 : Int32)), (0, .ref (ev.2.1 1))]) hx hb dX1_countStanding_1 rfl hl (by decide) rfl (fun ls hl => ?_)
  refine lv_iconst (v := (0 : Int32)) hx hb dX1_countStanding_2 (by decide) ?_
  refine lv_istore_n (lv' := [(2, .int (0 : Int32)), (1, .int (0 : Int32)), (0, .ref (ev.2.1 1))]) hx hb dX1_countStanding_3 rfl hl (by decide) rfl (fun ls hl => ?_)
  exact wL4 FU (0 : Int32) (0 : Int32) u H locs ls hw (lv_sub hl [2, 1, 0] rfl) hf
def f_X9_count_L22 (b1 : Int32) (u : SS) : Option (Int32 × SS) :=
  if b1.toInt < 0 ∨ 9 < b1.toInt then (some ((-9 : Int32), u)) else if b1 = (0 : Int32) then (some ((gI u 0), u)) else if b1 = (1 : Int32) then (some ((gI u 2), u)) else if b1 = (2 : Int32) then (ob (f_X1_countThere u) fun r3 u2 => some (r3, u2)) else if b1 = (3 : Int32) then (ob (f_X1_countStanding u) fun r6 u5 => some (r6, u5)) else if b1 = (4 : Int32) then (some ((gI u 3), u)) else if b1 = (5 : Int32) then (ob (f_X1_isOpen u) fun r9 u8 => if r9 = 0 then (some ((0 : Int32), u8)) else (some ((1 : Int32), u8))) else if b1 = (6 : Int32) then (if (gI u 15) = 0 then (some ((0 : Int32), u)) else (some ((1 : Int32), u))) else if b1 = (7 : Int32) then (if (gI u 16) = 0 then (some ((0 : Int32), u)) else (some ((1 : Int32), u))) else if b1 = (8 : Int32) then (ob (f_X0_countHolding u) fun r12 u11 => some (r12, u11)) else if b1 = (9 : Int32) then (some ((gI u 5), u)) else none
def f_X9_count (a1 : Int32) (u : SS) : Option (Int32 × SS) :=
  if a1 < (11 : Int32) then (f_X9_count_L22 a1 u) else (if (17 : Int32) < a1 then (f_X9_count_L22 a1 u) else (oi (a1 - (10 : Int32)) 8 (some ((gA u 0 (a1 - (10 : Int32)).toNatClampNeg), u))))
set_option maxHeartbeats 4000000 in
set_option maxRecDepth 100000 in
theorem c_X9_count (l : Launch) (ev : EV) (a1 : Int32) (u : SS) {r : Int32} {u' : SS} (hf : f_X9_count a1 u = some (r, u')) : MI wdB l yX9_count cX9_count 2 (some .int) 4 ev [.ref (ev.2.1 0), .int a1] u r u' := by
  refine bodyI (by decide +kernel) rfl (Nat.le_of_ble_eq_true rfl) ?_
  intro p e s m below meth cd ls H locs hc hr hlk hw hl
  generalize hav : (List.toArray [.ref (ev.2.1 0), .int a1] : Array Value) = av at hc ⊢
  obtain ⟨hx, hb, hml, hown, hts, hK, hZ⟩ := id hc
  have hl : lv_has ls 2 [(0, .ref (ev.2.1 0)), (1, .int a1)] := hl
  have wL22 : ∀ (b1 : Int32) (u : SS) (H : Heap) (locs : List Loc) (ls : Array Slot), VW wdB ev s u H locs → lv_has ls 2 [(0, .ref (ev.2.1 0)), (1, .int b1)] → f_X9_count_L22 b1 u = some (r, u') → W p l e (rmk 4) s m av below meth cd H locs 0 0 (ZI wdB ev s below av r u') (F0 m 22 ls []) := by
    intro b1 u H locs ls hw hl hf
    unfold f_X9_count_L22 at hf
    refine lv_iload_n hx hb dX9_count_22 rfl (lv_at hl 1 rfl) ?_
    by_cases z0 : b1.toInt < 0 ∨ 9 < b1.toInt
    · have hf := it_pos z0 hf
      refine lv_tableOut (tgt := 180) hx hb dX9_count_23 z0 (by decide) ?_
      refine lv_bipush (v := (-9 : Int32)) hx hb dX9_count_180 (by decide) ?_
      exact retI hc hr hlk hw hf dX9_count_182
    · have hf := it_neg z0 hf
      by_cases z : b1 = (0 : Int32)
      · have hf := it_pos z hf
        refine lv_tableIn (tgt := 76) (off := 53) hx hb dX9_count_23 (by rw [z]; decide) (by rw [z]; decide) (by rw [z]; decide) (by decide) ?_
        refine lv_aload_n hx hb dX9_count_76 rfl (lv_at hl 0 rfl) ?_
        refine gB0_0 hc hw fl_X9_12 dX9_count_77 ?_
        refine gB1_9 hc hw fl_X9_67 dX9_count_80 ?_
        exact retI hc hr hlk hw hf dX9_count_83
      have hf := it_neg z hf
      by_cases z : b1 = (1 : Int32)
      · have hf := it_pos z hf
        refine lv_tableIn (tgt := 84) (off := 61) hx hb dX9_count_23 (by rw [z]; decide) (by rw [z]; decide) (by rw [z]; decide) (by decide) ?_
        refine lv_aload_n hx hb dX9_count_84 rfl (lv_at hl 0 rfl) ?_
        refine gB0_0 hc hw fl_X9_12 dX9_count_85 ?_
        refine gB1_11 hc hw fl_X9_83 dX9_count_88 ?_
        exact retI hc hr hlk hw hf dX9_count_91
      have hf := it_neg z hf
      by_cases z : b1 = (2 : Int32)
      · have hf := it_pos z hf
        refine lv_tableIn (tgt := 92) (off := 69) hx hb dX9_count_23 (by rw [z]; decide) (by rw [z]; decide) (by rw [z]; decide) (by decide) ?_
        refine lv_aload_n hx hb dX9_count_92 rfl (lv_at hl 0 rfl) ?_
        refine gB0_0 hc hw fl_X9_12 dX9_count_93 ?_
        obtain ⟨r3, u2, h1, hf⟩ := ob_some hf
        refine endI okB hw (runV_ok (As := []) (rest := []) okB hc hw (c_X1_countThere l ev u h1 H.size) kv_X1_countThere ml_X9_343 (rvB1 ev u) hl.1 rfl rfl (Nat.le_of_ble_eq_true rfl) (rm_le (by decide) (by decide)) dX9_count_96) (fun H locs hw => ?_)
        exact retI hc hr hlk hw hf dX9_count_99
      have hf := it_neg z hf
      by_cases z : b1 = (3 : Int32)
      · have hf := it_pos z hf
        refine lv_tableIn (tgt := 100) (off := 77) hx hb dX9_count_23 (by rw [z]; decide) (by rw [z]; decide) (by rw [z]; decide) (by decide) ?_
        refine lv_aload_n hx hb dX9_count_100 rfl (lv_at hl 0 rfl) ?_
        refine gB0_0 hc hw fl_X9_12 dX9_count_101 ?_
        obtain ⟨r6, u5, h4, hf⟩ := ob_some hf
        refine endI okB hw (runV_ok (As := []) (rest := []) okB hc hw (c_X1_countStanding l ev u h4 H.size) kv_X1_countStanding ml_X9_346 (rvB1 ev u) hl.1 rfl rfl (Nat.le_of_ble_eq_true rfl) (rm_le (by decide) (by decide)) dX9_count_104) (fun H locs hw => ?_)
        exact retI hc hr hlk hw hf dX9_count_107
      have hf := it_neg z hf
      by_cases z : b1 = (4 : Int32)
      · have hf := it_pos z hf
        refine lv_tableIn (tgt := 108) (off := 85) hx hb dX9_count_23 (by rw [z]; decide) (by rw [z]; decide) (by rw [z]; decide) (by decide) ?_
        refine lv_aload_n hx hb dX9_count_108 rfl (lv_at hl 0 rfl) ?_
        refine gB0_0 hc hw fl_X9_12 dX9_count_109 ?_
        refine gB1_12 hc hw fl_X9_107 dX9_count_112 ?_
        exact retI hc hr hlk hw hf dX9_count_115
      have hf := it_neg z hf
      by_cases z : b1 = (5 : Int32)
      · have hf := it_pos z hf
        refine lv_tableIn (tgt := 116) (off := 93) hx hb dX9_count_23 (by rw [z]; decide) (by rw [z]; decide) (by rw [z]; decide) (by decide) ?_
        refine lv_aload_n hx hb dX9_count_116 rfl (lv_at hl 0 rfl) ?_
        refine gB0_0 hc hw fl_X9_12 dX9_count_117 ?_
        obtain ⟨r9, u8, h7, hf⟩ := ob_some hf
        refine endI okB hw (runV_ok (As := []) (rest := []) okB hc hw (c_X1_isOpen l ev u h7 H.size) kv_X1_isOpen ml_X9_71 (rvB1 ev u) hl.1 rfl rfl (Nat.le_of_ble_eq_true rfl) (rm_le (by decide) (by decide)) dX9_count_120) (fun H locs hw => ?_)
        refine lv_if_eq (tgt := 130) hx hb dX9_count_123 (by decide) (fun z => ?_) (fun z => ?_)
        · have hf := it_pos z hf
          refine lv_iconst (v := (0 : Int32)) hx hb dX9_count_130 (by decide) ?_
          exact retI hc hr hlk hw hf dX9_count_131
        · have hf := it_neg z hf
          refine lv_iconst (v := (1 : Int32)) hx hb dX9_count_126 (by decide) ?_
          refine lv_goto (tgt := 131) hx hb dX9_count_127 (by decide) ?_
          exact retI hc hr hlk hw hf dX9_count_131
      have hf := it_neg z hf
      by_cases z : b1 = (6 : Int32)
      · have hf := it_pos z hf
        refine lv_tableIn (tgt := 132) (off := 109) hx hb dX9_count_23 (by rw [z]; decide) (by rw [z]; decide) (by rw [z]; decide) (by decide) ?_
        refine lv_aload_n hx hb dX9_count_132 rfl (lv_at hl 0 rfl) ?_
        refine gB0_5 hc hw fl_X9_47 dX9_count_133 ?_
        refine gB6_0 hc hw fl_X9_266 dX9_count_136 ?_
        refine lv_if_eq (tgt := 146) hx hb dX9_count_139 (by decide) (fun z => ?_) (fun z => ?_)
        · have hf := it_pos z hf
          refine lv_iconst (v := (0 : Int32)) hx hb dX9_count_146 (by decide) ?_
          exact retI hc hr hlk hw hf dX9_count_147
        · have hf := it_neg z hf
          refine lv_iconst (v := (1 : Int32)) hx hb dX9_count_142 (by decide) ?_
          refine lv_goto (tgt := 147) hx hb dX9_count_143 (by decide) ?_
          exact retI hc hr hlk hw hf dX9_count_147
      have hf := it_neg z hf
      by_cases z : b1 = (7 : Int32)
      · have hf := it_pos z hf
        refine lv_tableIn (tgt := 148) (off := 125) hx hb dX9_count_23 (by rw [z]; decide) (by rw [z]; decide) (by rw [z]; decide) (by decide) ?_
        refine lv_aload_n hx hb dX9_count_148 rfl (lv_at hl 0 rfl) ?_
        refine gB0_5 hc hw fl_X9_47 dX9_count_149 ?_
        refine gB6_1 hc hw fl_X9_278 dX9_count_152 ?_
        refine lv_if_eq (tgt := 162) hx hb dX9_count_155 (by decide) (fun z => ?_) (fun z => ?_)
        · have hf := it_pos z hf
          refine lv_iconst (v := (0 : Int32)) hx hb dX9_count_162 (by decide) ?_
          exact retI hc hr hlk hw hf dX9_count_163
        · have hf := it_neg z hf
          refine lv_iconst (v := (1 : Int32)) hx hb dX9_count_158 (by decide) ?_
          refine lv_goto (tgt := 163) hx hb dX9_count_159 (by decide) ?_
          exact retI hc hr hlk hw hf dX9_count_163
      have hf := it_neg z hf
      by_cases z : b1 = (8 : Int32)
      · have hf := it_pos z hf
        refine lv_tableIn (tgt := 164) (off := 141) hx hb dX9_count_23 (by rw [z]; decide) (by rw [z]; decide) (by rw [z]; decide) (by decide) ?_
        refine lv_aload_n hx hb dX9_count_164 rfl (lv_at hl 0 rfl) ?_
        refine gB0_5 hc hw fl_X9_47 dX9_count_165 ?_
        obtain ⟨r12, u11, h10, hf⟩ := ob_some hf
        refine endI okB hw (runV_ok (As := []) (rest := []) okB hc hw (c_X0_countHolding l ev u h10 H.size) kv_X0_countHolding ml_X9_306 (rvB6 ev u) hl.1 rfl rfl (Nat.le_of_ble_eq_true rfl) (rm_le (by decide) (by decide)) dX9_count_168) (fun H locs hw => ?_)
        exact retI hc hr hlk hw hf dX9_count_171
      have hf := it_neg z hf
      by_cases z : b1 = (9 : Int32)
      · have hf := it_pos z hf
        refine lv_tableIn (tgt := 172) (off := 149) hx hb dX9_count_23 (by rw [z]; decide) (by rw [z]; decide) (by rw [z]; decide) (by decide) ?_
        refine lv_aload_n hx hb dX9_count_172 rfl (lv_at hl 0 rfl) ?_
        refine gB0_2 hc hw fl_X9_26 dX9_count_173 ?_
        refine gB3_2 hc hw fl_X9_165 dX9_count_176 ?_
        exact retI hc hr hlk hw hf dX9_count_179
      have hf := it_neg z hf
      cases hf
  unfold f_X9_count at hf
  refine lv_iload_n hx hb dX9_count_0 rfl (lv_at hl 1 rfl) ?_
  refine lv_bipush (v := (11 : Int32)) hx hb dX9_count_1 (by decide) ?_
  refine lv_icmp_lt (tgt := 22) hx hb dX9_count_3 (by decide) (fun z => ?_) (fun z => ?_)
  · have hf := it_pos z hf
    exact wL22 a1 u H locs ls hw (lv_sub hl [0, 1] rfl) hf
  · have hf := it_neg z hf
    refine lv_iload_n hx hb dX9_count_6 rfl (lv_at hl 1 rfl) ?_
    refine lv_bipush (v := (17 : Int32)) hx hb dX9_count_7 (by decide) ?_
    refine lv_icmp_gt (tgt := 22) hx hb dX9_count_9 (by decide) (fun z => ?_) (fun z => ?_)
    · have hf := it_pos z hf
      exact wL22 a1 u H locs ls hw (lv_sub hl [0, 1] rfl) hf
    · have hf := it_neg z hf
      refine lv_aload_n hx hb dX9_count_12 rfl (lv_at hl 0 rfl) ?_
      refine gB0_7 hc hw fl_X9_58 dX9_count_13 ?_
      refine lv_iload_n hx hb dX9_count_16 rfl (lv_at hl 1 rfl) ?_
      refine lv_bipush (v := (10 : Int32)) hx hb dX9_count_17 (by decide) ?_
      refine lv_isub hx hb dX9_count_19 ?_
      obtain ⟨z, hf⟩ := oi_some hf
      refine aB9 hc hw z dX9_count_20 ?_
      exact retI hc hr hlk hw hf dX9_count_21
