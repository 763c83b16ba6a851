def f_X10_bar_L14 (u : SS) : Option (Int32 × SS) :=
  ob (f_X10_refuse (-1 : Int32) u) fun r6 u5 => some (r6, u5)
def f_X10_bar (a1 : Int32) (a2 : Int32) (a3 : Int32) (u : SS) : Option (Int32 × SS) :=
  ob (f_X10_isScorer a1 u) fun r3 u2 => if r3 = 0 then (f_X10_bar_L14 u2) else (ob (f_X10_isBidder a2 u2) fun r9 u8 => if r9 = 0 then (f_X10_bar_L14 u8) else (oi (((8 : Int32) * a1) + a2) 48 (lt (gA u8 10 (((8 : Int32) * a1) + a2).toNatClampNeg) fun x10 => oi (((8 : Int32) * a1) + a2) 48 (lt (tZ u8 10 (((8 : Int32) * a1) + a2) a3) fun u11 => lt (sI u11 16 (0 : Int32)) fun u12 => if x10 = a3 then (some ((0 : Int32), u12)) else (some ((1 : Int32), u12))))))
set_option maxHeartbeats 4000000 in
set_option maxRecDepth 100000 in
theorem c_X10_bar (l : Launch) (ev : EV) (a1 : Int32) (a2 : Int32) (a3 : Int32) (u : SS) {r : Int32} {u' : SS} (hf : f_X10_bar a1 a2 a3 u = some (r, u')) : MI wdM l yX10_bar cX10_bar 5 (some .int) 2 ev [.ref (ev.2.1 0), .int a1, .int a2, .int a3] u r u' := by
  refine bodyI (by decide +kernel) rfl (Nat.le_of_ble_eq_true rfl) ?_
  intro p e s m below meth cd ls H locs hc hr hlk hw hl
  generalize hav : (List.toArray [.ref (ev.2.1 0), .int a1, .int a2, .int a3] : Array Value) = av at hc ⊢
  obtain ⟨hx, hb, hml, hown, hts, hK, hZ⟩ := id hc
  have hl : lv_has ls 5 [(0, .ref (ev.2.1 0)), (1, .int a1), (2, .int a2), (3, .int a3)] := hl
  have wL14 : ∀ (u : SS) (H : Heap) (locs : List Loc) (ls : Array Slot), VW wdM ev s u H locs → lv_has ls 5 [(0, .ref (ev.2.1 0))] → f_X10_bar_L14  u = some (r, u') → W p l e (rmk 2) s m av below meth cd H locs 0 0 (ZI wdM ev s below av r u') (F0 m 14 ls []) := by
    intro  u H locs ls hw hl hf
    unfold f_X10_bar_L14 at hf
    refine lv_aload_n hx hb dX10_bar_14 rfl (lv_at hl 0 rfl) ?_
    refine lv_iconst (v := (-1 : Int32)) hx hb dX10_bar_15 (by decide) ?_
    obtain ⟨r6, u5, h4, hf⟩ := ob_some hf
    refine endI okM hw (runV_ok (As := [.int (-1 : Int32)]) (rest := []) okM hc hw (c_X10_refuse l ev (-1 : Int32) u h4 H.size) kv_X10_refuse ml_X10_151 (rvM0 ev u) hl.1 rfl rfl (Nat.le_of_ble_eq_true rfl) (rm_le (by decide) (by decide)) dX10_bar_16) (fun H locs hw => ?_)
    exact retI hc hr hlk hw hf dX10_bar_19
  unfold f_X10_bar at hf
  refine lv_iload_n hx hb dX10_bar_0 rfl (lv_at hl 1 rfl) ?_
  obtain ⟨r3, u2, h1, hf⟩ := ob_some hf
  refine endI okM hw (runS_ok (As := [.int a1]) (rest := []) okM hc hw (c_X10_isScorer l ev a1 u h1 H.size) ks_X10_isScorer ml_X10_200 hl.1 rfl rfl (Nat.le_of_ble_eq_true rfl) (rm_le (by decide) (by decide)) dX10_bar_1) (fun H locs hw => ?_)
  refine lv_if_eq (tgt := 14) hx hb dX10_bar_4 (by decide) (fun z => ?_) (fun z => ?_)
  · have hf := it_pos z hf
    exact wL14 u2 H locs ls hw (lv_sub hl [0] rfl) hf
  · have hf := it_neg z hf
    refine lv_iload_n hx hb dX10_bar_7 rfl (lv_at hl 2 rfl) ?_
    obtain ⟨r9, u8, h7, hf⟩ := ob_some hf
    refine endI okM hw (runS_ok (As := [.int a2]) (rest := []) okM hc hw (c_X10_isBidder l ev a2 u2 h7 H.size) ks_X10_isBidder ml_X10_166 hl.1 rfl rfl (Nat.le_of_ble_eq_true rfl) (rm_le (by decide) (by decide)) dX10_bar_8) (fun H locs hw => ?_)
    refine lv_if_ne (tgt := 20) hx hb dX10_bar_11 (by decide) (fun z => ?_) (fun z => ?_)
    · have hf := it_neg z hf
      refine lv_aload_n hx hb dX10_bar_20 rfl (lv_at hl 0 rfl) ?_
      refine gM0_13 hc hw fl_X10_48 dX10_bar_21 ?_
      refine lv_bipush (v := (8 : Int32)) hx hb dX10_bar_24 (by decide) ?_
      refine lv_iload_n hx hb dX10_bar_26 rfl (lv_at hl 1 rfl) ?_
      refine lv_imul hx hb dX10_bar_27 ?_
      refine lv_iload_n hx hb dX10_bar_28 rfl (lv_at hl 2 rfl) ?_
      refine lv_iadd hx hb dX10_bar_29 ?_
      obtain ⟨z, hf⟩ := oi_some hf
      refine aM11 hc hw z dX10_bar_30 ?_
      obtain ⟨x10, ex10, hf⟩ := lt_some hf
      refine tope ex10 ?_
      refine lv_istore (lv' := [(4, .int x10), (0, .ref (ev.2.1 0)), (1, .int a1), (2, .int a2), (3, .int a3)]) hx hb dX10_bar_31 hl (by decide) rfl (fun ls hl => ?_)
      refine lv_aload_n hx hb dX10_bar_33 rfl (lv_at hl 1 rfl) ?_
      refine gM0_13 hc hw fl_X10_48 dX10_bar_34 ?_
      refine lv_bipush (v := (8 : Int32)) hx hb dX10_bar_37 (by decide) ?_
      refine lv_iload_n hx hb dX10_bar_39 rfl (lv_at hl 2 rfl) ?_
      refine lv_imul hx hb dX10_bar_40 ?_
      refine lv_iload_n hx hb dX10_bar_41 rfl (lv_at hl 3 rfl) ?_
      refine lv_iadd hx hb dX10_bar_42 ?_
      refine lv_iload_n hx hb dX10_bar_43 rfl (lv_at hl 4 rfl) ?_
      obtain ⟨z, hf⟩ := oi_some hf
      refine tM11 hc hw z dX10_bar_44 (fun H locs hw => ?_)
      obtain ⟨u11, eu11, hf⟩ := lt_some hf
      have hw := VW.nm eu11 hw
      refine lv_aload_n hx hb dX10_bar_45 rfl (lv_at hl 1 rfl) ?_
      refine lv_iconst (v := (0 : Int32)) hx hb dX10_bar_46 (by decide) ?_
      refine pM0_40 hc hw fl_X10_156 nz0 fz0 dX10_bar_47 (fun H locs hw => ?_)
      obtain ⟨u12, eu12, hf⟩ := lt_some hf
      have hw := VW.nm eu12 hw
      refine lv_iload hx hb dX10_bar_50 (lv_at hl 0 rfl) ?_
      refine lv_iload_n hx hb dX10_bar_52 rfl (lv_at hl 4 rfl) ?_
      refine lv_icmp_ne (tgt := 60) hx hb dX10_bar_53 (by decide) (fun z => ?_) (fun z => ?_)
      · have hf := it_neg z hf
        refine lv_iconst (v := (1 : Int32)) hx hb dX10_bar_60 (by decide) ?_
        exact retI hc hr hlk hw hf dX10_bar_61
      · have hf := it_pos z hf
        refine lv_iconst (v := (0 : Int32)) hx hb dX10_bar_56 (by decide) ?_
        refine lv_goto (tgt := 61) hx hb dX10_bar_57 (by decide) ?_
        exact retI hc hr hlk hw hf dX10_bar_61
    · have hf := it_pos z hf
      exact wL14 u8 H locs ls hw (lv_sub hl [0] rfl) hf
def f_X10_isAside_L58 (k6 : Int32 → Int32 → Int32 → Int32 → Int32 → SS → Option (Int32 × SS)) (b1 : Int32) (b2 : Int32) (b3 : Int32) (b5 : Int32) (q0 : Int32) (u : SS) : Option (Int32 × SS) :=
  lt (b5 + (1 : Int32)) fun x1 => k6 b1 b2 b3 q0 x1 u
def f_X10_isAside_L53 (k6 : Int32 → Int32 → Int32 → Int32 → Int32 → SS → Option (Int32 × SS)) (b1 : Int32) (b2 : Int32) (b3 : Int32) (b5 : Int32) (u : SS) : Option (Int32 × SS) :=
  f_X10_isAside_L58 k6 b1 b2 b3 b5 (1 : Int32) u
def f_X10_isAside_L57 (k6 : Int32 → Int32 → Int32 → Int32 → Int32 → SS → Option (Int32 × SS)) (b1 : Int32) (b2 : Int32) (b3 : Int32) (b5 : Int32) (u : SS) : Option (Int32 × SS) :=
  f_X10_isAside_L58 k6 b1 b2 b3 b5 (0 : Int32) u
def b_X10_isAside_L6 (k6 : Int32 → Int32 → Int32 → Int32 → Int32 → SS → Option (Int32 × SS)) (b1 : Int32) (b2 : Int32) (b3 : Int32) (b4 : Int32) (b5 : Int32) (u : SS) : Option (Int32 × SS) :=
  if (8 : Int32) ≤ b5 then (if ¬ (b4 = 0 ∨ b4 = 1) then none else some (b4, u)) else (if b4 = 0 then (oi (((8 : Int32) * b1) + b5) 48 (if (gA u 10 (((8 : Int32) * b1) + b5).toNatClampNeg) = 0 then (f_X10_isAside_L57 k6 b1 b2 b3 b5 u) else (ob (f_X10_doesStand (((8 : Int32) * b2) + b5) u) fun r4 u3 => if r4 = 0 then (f_X10_isAside_L57 k6 b1 b2 b3 b5 u3) else (if b5 = b3 then (f_X10_isAside_L57 k6 b1 b2 b3 b5 u3) else (f_X10_isAside_L53 k6 b1 b2 b3 b5 u3))))) else (f_X10_isAside_L53 k6 b1 b2 b3 b5 u))
def f_X10_isAside_L6 : Nat → Int32 → Int32 → Int32 → Int32 → Int32 → SS → Option (Int32 × SS)
  | 0 => fun _ _ _ _ _ _ => none
  | n + 1 => b_X10_isAside_L6 (f_X10_isAside_L6 n)
def f_X10_isAside (a1 : Int32) (a2 : Int32) (a3 : Int32) (u : SS) : Option (Int32 × SS) :=
  f_X10_isAside_L6 FU a1 a2 a3 (0 : Int32) (0 : Int32) u
set_option maxHeartbeats 4000000 in
set_option maxRecDepth 100000 in
theorem c_X10_isAside (l : Launch) (ev : EV) (a1 : Int32) (a2 : Int32) (a3 : Int32) (u : SS) {r : Int32} {u' : SS} (hf : f_X10_isAside a1 a2 a3 u = some (r, u')) : MI wdM l yX10_isAside cX10_isAside 6 (some .boolean) 2 ev [.ref (ev.2.1 0), .int a1, .int a2, .int a3] u r u' := by
  refine bodyI (by decide +kernel) rfl (Nat.le_of_ble_eq_true rfl) ?_
  intro p e s m below meth cd ls H locs hc hr hlk hw hl
  generalize hav : (List.toArray [.ref (ev.2.1 0), .int a1, .int a2, .int a3] : Array Value) = av at hc ⊢
  obtain ⟨hx, hb, hml, hown, hts, hK, hZ⟩ := id hc
  have hl : lv_has ls 6 [(0, .ref (ev.2.1 0)), (1, .int a1), (2, .int a2), (3, .int a3)] := hl
  have wL58 : ∀ (k6 : Int32 → Int32 → Int32 → Int32 → Int32 → SS → Option (Int32 × SS)) (hk6 : ∀ (b1 : Int32) (b2 : Int32) (b3 : Int32) (b4 : Int32) (b5 : Int32) (u : SS) (H : Heap) (locs : List Loc) (ls : Array Slot), VW wdM ev s u H locs → lv_has ls 6 [(0, .ref (ev.2.1 0)), (1, .int b1), (2, .int b2), (3, .int b3), (4, .int b4), (5, .int b5)] → k6 b1 b2 b3 b4 b5 u = some (r, u') → W p l e (rmk 2) s m av below meth cd H locs 0 0 (ZI wdM ev s below av r u') (F0 m 6 ls [])) (b1 : Int32) (b2 : Int32) (b3 : Int32) (b5 : Int32) (q0 : Int32) (u : SS) (H : Heap) (locs : List Loc) (ls : Array Slot), VW wdM ev s u H locs → lv_has ls 6 [(0, .ref (ev.2.1 0)), (1, .int b1), (2, .int b2), (3, .int b3), (5, .int b5)] → f_X10_isAside_L58 k6 b1 b2 b3 b5 q0 u = some (r, u') → W p l e (rmk 2) s m av below meth cd H locs 0 0 (ZI wdM ev s below av r u') (F0 m 58 ls [.int q0]) := by
    intro k6 hk6 b1 b2 b3 b5 q0 u H locs ls hw hl hf
    unfold f_X10_isAside_L58 at hf
    refine lv_istore (lv' := [(4, .int q0), (0, .ref (ev.2.1 0)), (1, .int b1), (2, .int b2), (3, .int b3), (5, .int b5)]) hx hb dX10_isAside_58 hl (by decide) rfl (fun ls hl => ?_)
    obtain ⟨x1, ex1, hf⟩ := lt_some hf
    refine lv_iinc (v := x1) (lv' := [(5, .int x1), (4, .int q0), (0, .ref (ev.2.1 0)), (1, .int b1), (2, .int b2), (3, .int b3)]) hx hb dX10_isAside_60 hl (k := 5) rfl (by rw [ex1]; rfl) (by decide) rfl (fun ls hl => ?_)
    refine lv_goto (tgt := 6) hx hb dX10_isAside_63 (by decide) ?_
    exact hk6 b1 b2 b3 q0 x1 u H locs ls hw (lv_sub hl [2, 3, 4, 5, 1, 0] rfl) hf
  have wL53 : ∀ (k6 : Int32 → Int32 → Int32 → Int32 → Int32 → SS → Option (Int32 × SS)) (hk6 : ∀ (b1 : Int32) (b2 : Int32) (b3 : Int32) (b4 : Int32) (b5 : Int32) (u : SS) (H : Heap) (locs : List Loc) (ls : Array Slot), VW wdM ev s u H locs → lv_has ls 6 [(0, .ref (ev.2.1 0)), (1, .int b1), (2, .int b2), (3, .int b3), (4, .int b4), (5, .int b5)] → k6 b1 b2 b3 b4 b5 u = some (r, u') → W p l e (rmk 2) s m av below meth cd H locs 0 0 (ZI wdM ev s below av r u') (F0 m 6 ls [])) (b1 : Int32) (b2 : Int32) (b3 : Int32) (b5 : Int32) (u : SS) (H : Heap) (locs : List Loc) (ls : Array Slot), VW wdM ev s u H locs → lv_has ls 6 [(0, .ref (ev.2.1 0)), (1, .int b1), (2, .int b2), (3, .int b3), (5, .int b5)] → f_X10_isAside_L53 k6 b1 b2 b3 b5 u = some (r, u') → W p l e (rmk 2) s m av below meth cd H locs 0 0 (ZI wdM ev s below av r u') (F0 m 53 ls []) := by
    intro k6 hk6 b1 b2 b3 b5 u H locs ls hw hl hf
    unfold f_X10_isAside_L53 at hf
    refine lv_iconst (v := (1 : Int32)) hx hb dX10_isAside_53 (by decide) ?_
    refine lv_goto (tgt := 58) hx hb dX10_isAside_54 (by decide) ?_
    exact wL58 k6 hk6 b1 b2 b3 b5 (1 : Int32) u H locs ls hw (lv_sub hl [0, 1, 2, 3, 4] rfl) hf
  have wL57 : ∀ (k6 : Int32 → Int32 → Int32 → Int32 → Int32 → SS → Option (Int32 × SS)) (hk6 : ∀ (b1 : Int32) (b2 : Int32) (b3 : Int32) (b4 : Int32) (b5 : Int32) (u : SS) (H : Heap) (locs : List Loc) (ls : Array Slot), VW wdM ev s u H locs → lv_has ls 6 [(0, .ref (ev.2.1 0)), (1, .int b1), (2, .int b2), (3, .int b3), (4, .int b4), (5, .int b5)] → k6 b1 b2 b3 b4 b5 u = some (r, u') → W p l e (rmk 2) s m av below meth cd H locs 0 0 (ZI wdM ev s below av r u') (F0 m 6 ls [])) (b1 : Int32) (b2 : Int32) (b3 : Int32) (b5 : Int32) (u : SS) (H : Heap) (locs : List Loc) (ls : Array Slot), VW wdM ev s u H locs → lv_has ls 6 [(0, .ref (ev.2.1 0)), (1, .int b1), (2, .int b2), (3, .int b3), (5, .int b5)] → f_X10_isAside_L57 k6 b1 b2 b3 b5 u = some (r, u') → W p l e (rmk 2) s m av below meth cd H locs 0 0 (ZI wdM ev s below av r u') (F0 m 57 ls []) := by
    intro k6 hk6 b1 b2 b3 b5 u H locs ls hw hl hf
    unfold f_X10_isAside_L57 at hf
    refine lv_iconst (v := (0 : Int32)) hx hb dX10_isAside_57 (by decide) ?_
    exact wL58 k6 hk6 b1 b2 b3 b5 (0 : Int32) u H locs ls hw (lv_sub hl [0, 1, 2, 3, 4] rfl) hf
  have wL6 : ∀ (n : Nat) (b1 : Int32) (b2 : Int32) (b3 : Int32) (b4 : Int32) (b5 : Int32) (u : SS) (H : Heap) (locs : List Loc) (ls : Array Slot), VW wdM ev s u H locs → lv_has ls 6 [(0, .ref (ev.2.1 0)), (1, .int b1), (2, .int b2), (3, .int b3), (4, .int b4), (5, .int b5)] → f_X10_isAside_L6 n b1 b2 b3 b4 b5 u = some (r, u') → W p l e (rmk 2) s m av below meth cd H locs 0 0 (ZI wdM ev s below av r u') (F0 m 6 ls []) := by
    intro n
    induction n with
    | zero =>
      intro b1 b2 b3 b4 b5 u H locs ls hw hl hf
      cases hf
    | succ n hk6 =>
      intro b1 b2 b3 b4 b5 u H locs ls hw hl hf
      have hf : b_X10_isAside_L6 (f_X10_isAside_L6 n) b1 b2 b3 b4 b5 u = some (r, u') := hf
      unfold b_X10_isAside_L6 at hf
      refine lv_iload hx hb dX10_isAside_6 (lv_at hl 5 rfl) ?_
      refine lv_bipush (v := (8 : Int32)) hx hb dX10_isAside_8 (by decide) ?_
      refine lv_icmp_ge (tgt := 66) hx hb dX10_isAside_10 (by decide) (fun z => ?_) (fun z => ?_)
      · have hf := it_pos z hf
        refine lv_iload hx hb dX10_isAside_66 (lv_at hl 4 rfl) ?_
        obtain ⟨z, hf⟩ := it_none hf
        exact retZ hc hr hlk hw (bo_nar z) hf dX10_isAside_68
      · have hf := it_neg z hf
        refine lv_iload hx hb dX10_isAside_13 (lv_at hl 4 rfl) ?_
        refine lv_if_ne (tgt := 53) hx hb dX10_isAside_15 (by decide) (fun z => ?_) (fun z => ?_)
        · have hf := it_neg z hf
          exact wL53 (f_X10_isAside_L6 n) hk6 b1 b2 b3 b5 u H locs ls hw (lv_sub hl [0, 1, 2, 3, 5] rfl) hf
        · have hf := it_pos z hf
          refine lv_aload_n hx hb dX10_isAside_18 rfl (lv_at hl 0 rfl) ?_
          refine gM0_13 hc hw fl_X10_48 dX10_isAside_19 ?_
          refine lv_bipush (v := (8 : Int32)) hx hb dX10_isAside_22 (by decide) ?_
          refine lv_iload_n hx hb dX10_isAside_24 rfl (lv_at hl 1 rfl) ?_
          refine lv_imul hx hb dX10_isAside_25 ?_
          refine lv_iload hx hb dX10_isAside_26 (lv_at hl 5 rfl) ?_
          refine lv_iadd hx hb dX10_isAside_28 ?_
          obtain ⟨z, hf⟩ := oi_some hf
          refine aM11 hc hw z dX10_isAside_29 ?_
          refine lv_if_eq (tgt := 57) hx hb dX10_isAside_30 (by decide) (fun z => ?_) (fun z => ?_)
          · have hf := it_pos z hf
            exact wL57 (f_X10_isAside_L6 n) hk6 b1 b2 b3 b5 u H locs ls hw (lv_sub hl [0, 1, 2, 3, 5] rfl) hf
          · have hf := it_neg z hf
            refine lv_aload_n hx hb dX10_isAside_33 rfl (lv_at hl 0 rfl) ?_
            refine lv_bipush (v := (8 : Int32)) hx hb dX10_isAside_34 (by decide) ?_
            refine lv_iload_n hx hb dX10_isAside_36 rfl (lv_at hl 2 rfl) ?_
            refine lv_imul hx hb dX10_isAside_37 ?_
            refine lv_iload hx hb dX10_isAside_38 (lv_at hl 5 rfl) ?_
            refine lv_iadd hx hb dX10_isAside_40 ?_
            obtain ⟨r4, u3, h2, hf⟩ := ob_some hf
            refine endI okM hw (runV_ok (As := [.int (((8 : Int32) * b2) + b5)]) (rest := []) okM hc hw (c_X10_doesStand l ev (((8 : Int32) * b2) + b5) u h2 H.size) kv_X10_doesStand ml_X10_197 (rvM0 ev u) hl.1 rfl rfl (Nat.le_of_ble_eq_true rfl) (rm_le (by decide) (by decide)) dX10_isAside_41) (fun H locs hw => ?_)
            refine lv_if_eq (tgt := 57) hx hb dX10_isAside_44 (by decide) (fun z => ?_) (fun z => ?_)
            · have hf := it_pos z hf
              exact wL57 (f_X10_isAside_L6 n) hk6 b1 b2 b3 b5 u3 H locs ls hw (lv_sub hl [0, 1, 2, 3, 5] rfl) hf
            · have hf := it_neg z hf
              refine lv_iload hx hb dX10_isAside_47 (lv_at hl 5 rfl) ?_
              refine lv_iload_n hx hb dX10_isAside_49 rfl (lv_at hl 3 rfl) ?_
              refine lv_icmp_eq (tgt := 57) hx hb dX10_isAside_50 (by decide) (fun z => ?_) (fun z => ?_)
              · have hf := it_pos z hf
                exact wL57 (f_X10_isAside_L6 n) hk6 b1 b2 b3 b5 u3 H locs ls hw (lv_sub hl [0, 1, 2, 3, 5] rfl) hf
              · have hf := it_neg z hf
                exact wL53 (f_X10_isAside_L6 n) hk6 b1 b2 b3 b5 u3 H locs ls hw (lv_sub hl [0, 1, 2, 3, 5] rfl) hf
  unfold f_X10_isAside at hf
  refine lv_iconst (v := (0 : Int32)) hx hb dX10_isAside_0 (by decide) ?_
  refine lv_istore (lv' := [(4, .int (0 : Int32)), (0, .ref (ev.2.1 0)), (1, .int a1), (2, .int a2), (3, .int a3)]) hx hb dX10_isAside_1 hl (by decide) rfl (fun ls hl => ?_)
  refine lv_iconst (v := (0 : Int32)) hx hb dX10_isAside_3 (by decide) ?_
  refine lv_istore (lv' := [(5, .int (0 : Int32)), (4, .int (0 : Int32)), (0, .ref (ev.2.1 0)), (1, .int a1), (2, .int a2), (3, .int a3)]) hx hb dX10_isAside_4 hl (by decide) rfl (fun ls hl => ?_)
  exact wL6 FU a1 a2 a3 (0 : Int32) (0 : Int32) u H locs ls hw (lv_sub hl [2, 3, 4, 5, 1, 0] rfl) hf
def f_X10_findQuality_L146 (u : SS) : Option SS :=
  if (gI u 5) = 0 then (lt (sI u 5 (1 : Int32)) fun u4 => some u4) else (lt (sI u 5 (gI u 5)) fun u3 => some u3)
def f_X10_findQuality_L109 (k19 : Int32 → Int32 → Int32 → Int32 → Int32 → SS → Option SS) (b1 : Int32) (b2 : Int32) (b3 : Int32) (b4 : Int32) (b5 : Int32) (u : SS) : Option SS :=
  lt (b5 + (1 : Int32)) fun x8 => k19 b1 b2 b3 b4 x8 u
def f_X10_findQuality_L107 (k19 : Int32 → Int32 → Int32 → Int32 → Int32 → SS → Option SS) (b1 : Int32) (b2 : Int32) (b3 : Int32) (b5 : Int32) (q0 : Int32) (u : SS) : Option SS :=
  f_X10_findQuality_L109 k19 b1 b2 b3 q0 b5 u
def f_X10_findQuality_L92 (k19 : Int32 → Int32 → Int32 → Int32 → Int32 → SS → Option SS) (b1 : Int32) (b2 : Int32) (b4 : Int32) (b5 : Int32) (b6 : Int32) (q0 : Int32) (u : SS) : Option SS :=
  if b6 ≤ b4 then (f_X10_findQuality_L107 k19 b1 b2 q0 b5 b4 u) else (f_X10_findQuality_L107 k19 b1 b2 q0 b5 b6 u)
def b_X10_findQuality_L19 (k19 : Int32 → Int32 → Int32 → Int32 → Int32 → SS → Option SS) (b1 : Int32) (b2 : Int32) (b3 : Int32) (b4 : Int32) (b5 : Int32) (u : SS) : Option SS :=
  if (6 : Int32) ≤ b5 then (if (gI u 5) < (4 : Int32) then (f_X10_findQuality_L146 u) else (lt (sI u 4 ((gI u 4) - (b3 + b4))) fun u5 => lt (sI u5 5 ((gI u5 5) - (2 : Int32))) fun u6 => f_X10_findQuality_L146 u6)) else (oi (((48 : Int32) * b5) + b1) 288 (lt (gA u 9 (((48 : Int32) * b5) + b1).toNatClampNeg) fun x7 => if x7 < 0 then (f_X10_findQuality_L109 k19 b1 b2 b3 b4 b5 u) else (ob (f_X10_isAside b5 (b1 / (8 : Int32)) b2 u) fun r11 u10 => if r11 = 0 then (lt (sI u10 4 ((gI u10 4) + x7)) fun u12 => lt (sI u12 5 ((gI u12 5) + (1 : Int32))) fun u13 => if b3 ≤ x7 then (f_X10_findQuality_L92 k19 b1 b2 b4 b5 x7 b3 u13) else (f_X10_findQuality_L92 k19 b1 b2 b4 b5 x7 x7 u13)) else (f_X10_findQuality_L109 k19 b1 b2 b3 b4 b5 u10))))
def f_X10_findQuality_L19 : Nat → Int32 → Int32 → Int32 → Int32 → Int32 → SS → Option SS
  | 0 => fun _ _ _ _ _ _ => none
  | n + 1 => b_X10_findQuality_L19 (f_X10_findQuality_L19 n)
def f_X10_findQuality (a1 : Int32) (a2 : Int32) (u : SS) : Option SS :=
  lt (sI u 4 (0 : Int32)) fun u1 => lt (sI u1 5 (0 : Int32)) fun u2 => f_X10_findQuality_L19 FU a1 a2 (101 : Int32) (-1 : Int32) (0 : Int32) u2
set_option maxHeartbeats 4000000 in
set_option maxRecDepth 100000 in
theorem c_X10_findQuality (l : Launch) (ev : EV) (a1 : Int32) (a2 : Int32) (u : SS) {u' : SS} (hf : f_X10_findQuality a1 a2 u = some u') : MV wdM l yX10_findQuality cX10_findQuality 7 none 3 ev [.ref (ev.2.1 0), .int a1, .int a2] u u' := by
  refine bodyV (by decide +kernel) rfl (Nat.le_of_ble_eq_true rfl) ?_
  intro p e s m below meth cd ls H locs hc hr hlk hw hl
  generalize hav : (List.toArray [.ref (ev.2.1 0), .int a1, .int a2] : Array Value) = av at hc ⊢
  obtain ⟨hx, hb, hml, hown, hts, hK, hZ⟩ := id hc
  have hl : lv_has ls 7 [(0, .ref (ev.2.1 0)), (1, .int a1), (2, .int a2)] := hl
  have wL146 : ∀ (u : SS) (H : Heap) (locs : List Loc) (ls : Array Slot), VW wdM ev s u H locs → lv_has ls 7 [(0, .ref (ev.2.1 0))] → f_X10_findQuality_L146  u = some u' → W p l e (rmk 3) s m av below meth cd H locs 0 0 (ZV wdM ev s below av u') (F0 m 146 ls []) := by
    intro  u H locs ls hw hl hf
    unfold f_X10_findQuality_L146 at hf
    refine lv_aload_n hx hb dX10_findQuality_146 rfl (lv_at hl 0 rfl) ?_
    refine lv_aload_n hx hb dX10_findQuality_147 rfl (lv_at hl 0 rfl) ?_
    refine gM0_17 hc hw fl_X10_209 dX10_findQuality_148 ?_
    refine lv_if_ne (tgt := 158) hx hb dX10_findQuality_151 (by decide) (fun z => ?_) (fun z => ?_)
    · have hf := it_neg z hf
      refine lv_aload_n hx hb dX10_findQuality_158 rfl (lv_at hl 0 rfl) ?_
      refine gM0_17 hc hw fl_X10_209 dX10_findQuality_159 ?_
      refine pM0_17 hc hw fl_X10_209 dX10_findQuality_162 (fun H locs hw => ?_)
      obtain ⟨u3, eu3, hf⟩ := lt_some hf
      have hw := VW.nm eu3 hw
      exact retV hc hr hlk hw hf dX10_findQuality_165
    · have hf := it_pos z hf
      refine lv_iconst (v := (1 : Int32)) hx hb dX10_findQuality_154 (by decide) ?_
      refine lv_goto (tgt := 162) hx hb dX10_findQuality_155 (by decide) ?_
      refine pM0_17 hc hw fl_X10_209 dX10_findQuality_162 (fun H locs hw => ?_)
      obtain ⟨u4, eu4, hf⟩ := lt_some hf
      have hw := VW.nm eu4 hw
      exact retV hc hr hlk hw hf dX10_findQuality_165
  have wL109 : ∀ (k19 : Int32 → Int32 → Int32 → Int32 → Int32 → SS → Option SS) (hk19 : ∀ (b1 : Int32) (b2 : Int32) (b3 : Int32) (b4 : Int32) (b5 : Int32) (u : SS) (H : Heap) (locs : List Loc) (ls : Array Slot), VW wdM ev s u H locs → lv_has ls 7 [(0, .ref (ev.2.1 0)), (1, .int b1), (2, .int b2), (3, .int b3), (4, .int b4), (5, .int b5)] → k19 b1 b2 b3 b4 b5 u = some u' → W p l e (rmk 3) s m av below meth cd H locs 0 0 (ZV wdM ev s below av u') (F0 m 19 ls [])) (b1 : Int32) (b2 : Int32) (b3 : Int32) (b4 : Int32) (b5 : Int32) (u : SS) (H : Heap) (locs : List Loc) (ls : Array Slot), VW wdM ev s u H locs → lv_has ls 7 [(0, .ref (ev.2.1 0)), (1, .int b1), (2, .int b2), (3, .int b3), (4, .int b4), (5, .int b5)] → f_X10_findQuality_L109 k19 b1 b2 b3 b4 b5 u = some u' → W p l e (rmk 3) s m av below meth cd H locs 0 0 (ZV wdM ev s below av u') (F0 m 109 ls []) := by
    intro k19 hk19 b1 b2 b3 b4 b5 u H locs ls hw hl hf
    unfold f_X10_findQuality_L109 at hf
    obtain ⟨x8, ex8, hf⟩ := lt_some hf
    refine lv_iinc (v := x8) (lv' := [(5, .int x8), (0, .ref (ev.2.1 0)), (1, .int b1), (2, .int b2), (3, .int b3), (4, .int b4)]) hx hb dX10_findQuality_109 hl (k := 5) rfl (by rw [ex8]; rfl) (by decide) rfl (fun ls hl => ?_)
    refine lv_goto (tgt := 19) hx hb dX10_findQuality_112 (by decide) ?_
    exact hk19 b1 b2 b3 b4 x8 u H locs ls hw (lv_sub hl [1, 2, 3, 4, 5, 0] rfl) hf
  have wL107 : ∀ (k19 : Int32 → Int32 → Int32 → Int32 → Int32 → SS → Option SS) (hk19 : ∀ (b1 : Int32) (b2 : Int32) (b3 : Int32) (b4 : Int32) (b5 : Int32) (u : SS) (H : Heap) (locs : List Loc) (ls : Array Slot), VW wdM ev s u H locs → lv_has ls 7 [(0, .ref (ev.2.1 0)), (1, .int b1), (2, .int b2), (3, .int b3), (4, .int b4), (5, .int b5)] → k19 b1 b2 b3 b4 b5 u = some u' → W p l e (rmk 3) s m av below meth cd H locs 0 0 (ZV wdM ev s below av u') (F0 m 19 ls [])) (b1 : Int32) (b2 : Int32) (b3 : Int32) (b5 : Int32) (q0 : Int32) (u : SS) (H : Heap) (locs : List Loc) (ls : Array Slot), VW wdM ev s u H locs → lv_has ls 7 [(0, .ref (ev.2.1 0)), (1, .int b1), (2, .int b2), (3, .int b3), (5, .int b5)] → f_X10_findQuality_L107 k19 b1 b2 b3 b5 q0 u = some u' → W p l e (rmk 3) s m av below meth cd H locs 0 0 (ZV wdM ev s below av u') (F0 m 107 ls [.int q0]) := by
    intro k19 hk19 b1 b2 b3 b5 q0 u H locs ls hw hl hf
    unfold f_X10_findQuality_L107 at hf
    refine lv_istore (lv' := [(4, .int q0), (0, .ref (ev.2.1 0)), (1, .int b1), (2, .int b2), (3, .int b3), (5, .int b5)]) hx hb dX10_findQuality_107 hl (by decide) rfl (fun ls hl => ?_)
    exact wL109 k19 hk19 b1 b2 b3 q0 b5 u H locs ls hw (lv_sub hl [1, 2, 3, 4, 0, 5] rfl) hf
  have wL92 : ∀ (k19 : Int32 → Int32 → Int32 → Int32 → Int32 → SS → Option SS) (hk19 : ∀ (b1 : Int32) (b2 : Int32) (b3 : Int32) (b4 : Int32) (b5 : Int32) (u : SS) (H : Heap) (locs : List Loc) (ls : Array Slot), VW wdM ev s u H locs → lv_has ls 7 [(0, .ref (ev.2.1 0)), (1, .int b1), (2, .int b2), (3, .int b3), (4, .int b4), (5, .int b5)] → k19 b1 b2 b3 b4 b5 u = some u' → W p l e (rmk 3) s m av below meth cd H locs 0 0 (ZV wdM ev s below av u') (F0 m 19 ls [])) (b1 : Int32) (b2 : Int32) (b4 : Int32) (b5 : Int32) (b6 : Int32) (q0 : Int32) (u : SS) (H : Heap) (locs : List Loc) (ls : Array Slot), VW wdM ev s u H locs → lv_has ls 7 [(0, .ref (ev.2.1 0)), (1, .int b1), (2, .int b2), (4, .int b4), (5, .int b5), (6, .int b6)] → f_X10_findQuality_L92 k19 b1 b2 b4 b5 b6 q0 u = some u' → W p l e (rmk 3) s m av below meth cd H locs 0 0 (ZV wdM ev s below av u') (F0 m 92 ls [.int q0]) := by
    intro k19 hk19 b1 b2 b4 b5 b6 q0 u H locs ls hw hl hf
    unfold f_X10_findQuality_L92 at hf
    refine lv_istore_n (lv' := [(3, .int q0), (0, .ref (ev.2.1 0)), (1, .int b1), (2, .int b2), (4, .int b4), (5, .int b5), (6, .int b6)]) hx hb dX10_findQuality_92 rfl hl (by decide) rfl (fun ls hl => ?_)
    refine lv_iload hx hb dX10_findQuality_93 (lv_at hl 6 rfl) ?_
    refine lv_iload hx hb dX10_findQuality_95 (lv_at hl 4 rfl) ?_
    refine lv_icmp_le (tgt := 105) hx hb dX10_findQuality_97 (by decide) (fun z => ?_) (fun z => ?_)
    · have hf := it_pos z hf
      refine lv_iload hx hb dX10_findQuality_105 (lv_at hl 4 rfl) ?_
      exact wL107 k19 hk19 b1 b2 q0 b5 b4 u H locs ls hw (lv_sub hl [1, 2, 3, 0, 5] rfl) hf
    · have hf := it_neg z hf
      refine lv_iload hx hb dX10_findQuality_100 (lv_at hl 6 rfl) ?_
      refine lv_goto (tgt := 107) hx hb dX10_findQuality_102 (by decide) ?_
      exact wL107 k19 hk19 b1 b2 q0 b5 b6 u H locs ls hw (lv_sub hl [1, 2, 3, 0, 5] rfl) hf
  have wL19 : ∀ (n : Nat) (b1 : Int32) (b2 : Int32) (b3 : Int32) (b4 : Int32) (b5 : Int32) (u : SS) (H : Heap) (locs : List Loc) (ls : Array Slot), VW wdM ev s u H locs → lv_has ls 7 [(0, .ref (ev.2.1 0)), (1, .int b1), (2, .int b2), (3, .int b3), (4, .int b4), (5, .int b5)] → f_X10_findQuality_L19 n b1 b2 b3 b4 b5 u = some u' → W p l e (rmk 3) s m av below meth cd H locs 0 0 (ZV wdM ev s below av u') (F0 m 19 ls []) := by
    intro n
    induction n with
    | zero =>
      intro b1 b2 b3 b4 b5 u H locs ls hw hl hf
      cases hf
    | succ n hk19 =>
      intro b1 b2 b3 b4 b5 u H locs ls hw hl hf
      have hf : b_X10_findQuality_L19 (f_X10_findQuality_L19 n) b1 b2 b3 b4 b5 u = some u' := hf
      unfold b_X10_findQuality_L19 at hf
      refine lv_iload hx hb dX10_findQuality_19 (lv_at hl 5 rfl) ?_
      refine lv_bipush (v := (6 : Int32)) hx hb dX10_findQuality_21 (by decide) ?_
      refine lv_icmp_ge (tgt := 115) hx hb dX10_findQuality_23 (by decide) (fun z => ?_) (fun z => ?_)
      · have hf := it_pos z hf
        refine lv_aload_n hx hb dX10_findQuality_115 rfl (lv_at hl 0 rfl) ?_
        refine gM0_17 hc hw fl_X10_209 dX10_findQuality_116 ?_
        refine lv_iconst (v := (4 : Int32)) hx hb dX10_findQuality_119 (by decide) ?_
        refine lv_icmp_lt (tgt := 146) hx hb dX10_findQuality_120 (by decide) (fun z => ?_) (fun z => ?_)
        · have hf := it_pos z hf
          exact wL146 u H locs ls hw (lv_sub hl [0] rfl) hf
        · have hf := it_neg z hf
          refine lv_aload_n hx hb dX10_findQuality_123 rfl (lv_at hl 0 rfl) ?_
          refine lv_dup hx hb dX10_findQuality_124 rfl ?_
          refine gM0_16 hc hw fl_X10_206 dX10_findQuality_125 ?_
          refine lv_iload_n hx hb dX10_findQuality_128 rfl (lv_at hl 3 rfl) ?_
          refine lv_iload hx hb dX10_findQuality_129 (lv_at hl 4 rfl) ?_
          refine lv_iadd hx hb dX10_findQuality_131 ?_
          refine lv_isub hx hb dX10_findQuality_132 ?_
          refine pM0_16 hc hw fl_X10_206 dX10_findQuality_133 (fun H locs hw => ?_)
          obtain ⟨u5, eu5, hf⟩ := lt_some hf
          have hw := VW.nm eu5 hw
          refine lv_aload_n hx hb dX10_findQuality_136 rfl (lv_at hl 0 rfl) ?_
          refine lv_dup hx hb dX10_findQuality_137 rfl ?_
          refine gM0_17 hc hw fl_X10_209 dX10_findQuality_138 ?_
          refine lv_iconst (v := (2 : Int32)) hx hb dX10_findQuality_141 (by decide) ?_
          refine lv_isub hx hb dX10_findQuality_142 ?_
          refine pM0_17 hc hw fl_X10_209 dX10_findQuality_143 (fun H locs hw => ?_)
          obtain ⟨u6, eu6, hf⟩ := lt_some hf
          have hw := VW.nm eu6 hw
          exact wL146 u6 H locs ls hw (lv_sub hl [0] rfl) hf
      · have hf := it_neg z hf
        refine lv_aload_n hx hb dX10_findQuality_26 rfl (lv_at hl 0 rfl) ?_
        refine gM0_12 hc hw fl_X10_45 dX10_findQuality_27 ?_
        refine lv_bipush (v := (48 : Int32)) hx hb dX10_findQuality_30 (by decide) ?_
        refine lv_iload hx hb dX10_findQuality_32 (lv_at hl 5 rfl) ?_
        refine lv_imul hx hb dX10_findQuality_34 ?_
        refine lv_iload_n hx hb dX10_findQuality_35 rfl (lv_at hl 1 rfl) ?_
        refine lv_iadd hx hb dX10_findQuality_36 ?_
        obtain ⟨z, hf⟩ := oi_some hf
        refine aM10 hc hw z dX10_findQuality_37 ?_
        obtain ⟨x7, ex7, hf⟩ := lt_some hf
        refine tope ex7 ?_
        refine lv_istore (lv' := [(6, .int x7), (0, .ref (ev.2.1 0)), (1, .int b1), (2, .int b2), (3, .int b3), (4, .int b4), (5, .int b5)]) hx hb dX10_findQuality_38 hl (by decide) rfl (fun ls hl => ?_)
        refine lv_iload hx hb dX10_findQuality_40 (lv_at hl 0 rfl) ?_
        refine lv_if_lt (tgt := 109) hx hb dX10_findQuality_42 (by decide) (fun z => ?_) (fun z => ?_)
        · have hf := it_pos z hf
          exact wL109 (f_X10_findQuality_L19 n) hk19 b1 b2 b3 b4 b5 u H locs ls hw (lv_sub hl [1, 2, 3, 4, 5, 6] rfl) hf
        · have hf := it_neg z hf
          refine lv_aload_n hx hb dX10_findQuality_45 rfl (lv_at hl 1 rfl) ?_
          refine lv_iload hx hb dX10_findQuality_46 (lv_at hl 6 rfl) ?_
          refine lv_iload_n hx hb dX10_findQuality_48 rfl (lv_at hl 2 rfl) ?_
          refine lv_bipush (v := (8 : Int32)) hx hb dX10_findQuality_49 (by decide) ?_
          refine lv_idiv hx hb dX10_findQuality_51 (by decide) ?_
          refine lv_iload_n hx hb dX10_findQuality_52 rfl (lv_at hl 3 rfl) ?_
          obtain ⟨r11, u10, h9, hf⟩ := ob_some hf
          refine endI okM hw (runV_ok (As := [.int b5, .int (b1 / (8 : Int32)), .int b2]) (rest := []) okM hc hw (c_X10_isAside l ev b5 (b1 / (8 : Int32)) b2 u h9 H.size) kv_X10_isAside ml_X10_212 (rvM0 ev u) hl.1 rfl rfl (Nat.le_of_ble_eq_true rfl) (rm_le (by decide) (by decide)) dX10_findQuality_53) (fun H locs hw => ?_)
          refine lv_if_ne (tgt := 109) hx hb dX10_findQuality_56 (by decide) (fun z => ?_) (fun z => ?_)
          · have hf := it_neg z hf
            exact wL109 (f_X10_findQuality_L19 n) hk19 b1 b2 b3 b4 b5 u10 H locs ls hw (lv_sub hl [1, 2, 3, 4, 5, 6] rfl) hf
          · have hf := it_pos z hf
            refine lv_aload_n hx hb dX10_findQuality_59 rfl (lv_at hl 1 rfl) ?_
            refine lv_dup hx hb dX10_findQuality_60 rfl ?_
            refine gM0_16 hc hw fl_X10_206 dX10_findQuality_61 ?_
            refine lv_iload hx hb dX10_findQuality_64 (lv_at hl 0 rfl) ?_
            refine lv_iadd hx hb dX10_findQuality_66 ?_
            refine pM0_16 hc hw fl_X10_206 dX10_findQuality_67 (fun H locs hw => ?_)
            obtain ⟨u12, eu12, hf⟩ := lt_some hf
            have hw := VW.nm eu12 hw
            refine lv_aload_n hx hb dX10_findQuality_70 rfl (lv_at hl 1 rfl) ?_
            refine lv_dup hx hb dX10_findQuality_71 rfl ?_
            refine gM0_17 hc hw fl_X10_209 dX10_findQuality_72 ?_
            refine lv_iconst (v := (1 : Int32)) hx hb dX10_findQuality_75 (by decide) ?_
            refine lv_iadd hx hb dX10_findQuality_76 ?_
            refine pM0_17 hc hw fl_X10_209 dX10_findQuality_77 (fun H locs hw => ?_)
            obtain ⟨u13, eu13, hf⟩ := lt_some hf
            have hw := VW.nm eu13 hw
            refine lv_iload hx hb dX10_findQuality_80 (lv_at hl 0 rfl) ?_
            refine lv_iload_n hx hb dX10_findQuality_82 rfl (lv_at hl 4 rfl) ?_
            refine lv_icmp_ge (tgt := 91) hx hb dX10_findQuality_83 (by decide) (fun z => ?_) (fun z => ?_)
            · have hf := it_pos z hf
              refine lv_iload_n hx hb dX10_findQuality_91 rfl (lv_at hl 4 rfl) ?_
              exact wL92 (f_X10_findQuality_L19 n) hk19 b1 b2 b4 b5 x7 b3 u13 H locs ls hw (lv_sub hl [1, 2, 3, 5, 6, 0] rfl) hf
            · have hf := it_neg z hf
              refine lv_iload hx hb dX10_findQuality_86 (lv_at hl 0 rfl) ?_
              refine lv_goto (tgt := 92) hx hb dX10_findQuality_88 (by decide) ?_
              exact wL92 (f_X10_findQuality_L19 n) hk19 b1 b2 b4 b5 x7 x7 u13 H locs ls hw (lv_sub hl [1, 2, 3, 5, 6, 0] rfl) hf
  unfold f_X10_findQuality at hf
  refine lv_aload_n hx hb dX10_findQuality_0 rfl (lv_at hl 0 rfl) ?_
  refine lv_iconst (v := (0 : Int32)) hx hb dX10_findQuality_1 (by decide) ?_
  refine pM0_16 hc hw fl_X10_206 dX10_findQuality_2 (fun H locs hw => ?_)
  obtain ⟨u1, eu1, hf⟩ := lt_some hf
  have hw := VW.nm eu1 hw
  refine lv_aload_n hx hb dX10_findQuality_5 rfl (lv_at hl 0 rfl) ?_
  refine lv_iconst (v := (0 : Int32)) hx hb dX10_findQuality_6 (by decide) ?_
  refine pM0_17 hc hw fl_X10_209 dX10_findQuality_7 (fun H locs hw => ?_)
  obtain ⟨u2, eu2, hf⟩ := lt_some hf
  have hw := VW.nm eu2 hw
  refine lv_bipush (v := (101 : Int32)) hx hb dX10_findQuality_10 (by decide) ?_
  refine lv_istore_n (lv' := [(3, .int (101 : Int32)), (0, .ref (ev.2.1 0)), (1, .int a1), (2, .int a2)]) hx hb dX10_findQuality_12 rfl hl (by decide) rfl (fun ls hl => ?_)
  refine lv_iconst (v := (-1 : Int32)) hx hb dX10_findQuality_13 (by decide) ?_
  refine lv_istore (lv' := [(4, .int (-1 : Int32)), (3, .int (101 : Int32)), (0, .ref (ev.2.1 0)), (1, .int a1), (2, .int a2)]) hx hb dX10_findQuality_14 hl (by decide) rfl (fun ls hl => ?_)
  refine lv_iconst (v := (0 : Int32)) hx hb dX10_findQuality_16 (by decide) ?_
  refine lv_istore (lv' := [(5, .int (0 : Int32)), (4, .int (-1 : Int32)), (3, .int (101 : Int32)), (0, .ref (ev.2.1 0)), (1, .int a1), (2, .int a2)]) hx hb dX10_findQuality_17 hl (by decide) rfl (fun ls hl => ?_)
  exact wL19 FU a1 a2 (101 : Int32) (-1 : Int32) (0 : Int32) u2 H locs ls hw (lv_sub hl [3, 4, 5, 2, 1, 0] rfl) hf
def b_X10_divisor_L17 (k17 : Int64 → Int64 → SS → Option (Int64 × SS)) (b4 : Int64) (b6 : Int64) (u : SS) : Option (Int64 × SS) :=
  if (lg_cmp b6 (0 : Int64)) = 0 then (some (b4, u)) else (if b6 = 0 then none else lt (b4 - b4 / b6 * b6) fun x1 => k17 b6 x1 u)
def f_X10_divisor_L17 : Nat → Int64 → Int64 → SS → Option (Int64 × SS)
  | 0 => fun _ _ _ => none
  | n + 1 => b_X10_divisor_L17 (f_X10_divisor_L17 n)
def f_X10_divisor_L12 (b2 : Int64) (q0 : Int64) (u : SS) : Option (Int64 × SS) :=
  f_X10_divisor_L17 FU q0 b2 u
def f_X10_divisor (a0 : Int64) (a2 : Int64) (u : SS) : Option (Int64 × SS) :=
  if 0 ≤ (lg_cmp a0 (0 : Int64)) then (f_X10_divisor_L12 a2 a0 u) else (f_X10_divisor_L12 a2 (-a0) u)
set_option maxHeartbeats 4000000 in
set_option maxRecDepth 100000 in
theorem c_X10_divisor (l : Launch) (ev : EV) (a0 : Int64) (a2 : Int64) (u : SS) {r : Int64} {u' : SS} (hf : f_X10_divisor a0 a2 u = some (r, u')) : ML wdM l yX10_divisor cX10_divisor 10 (some .long) 0 ev [.long a0, .long a2] u r u' := by
  refine bodyL (by decide +kernel) rfl (Nat.le_of_ble_eq_true rfl) ?_
  intro p e s m below meth cd ls H locs hc hr hlk hw hl
  generalize hav : (List.toArray [.long a0, .long a2] : Array Value) = av at hc ⊢
  obtain ⟨hx, hb, hml, hown, hts, hK, hZ⟩ := id hc
  have hl : lv_has ls 10 [(0, .long a0), (2, .long a2)] := hl
  have wL17 : ∀ (n : Nat) (b4 : Int64) (b6 : Int64) (u : SS) (H : Heap) (locs : List Loc) (ls : Array Slot), VW wdM ev s u H locs → lv_has ls 10 [(4, .long b4), (6, .long b6)] → f_X10_divisor_L17 n b4 b6 u = some (r, u') → W p l e (rmk 0) s m av below meth cd H locs 0 0 (ZL wdM ev s below av r u') (F0 m 17 ls []) := by
    intro n
    induction n with
    | zero =>
      intro b4 b6 u H locs ls hw hl hf
      cases hf
    | succ n hk17 =>
      intro b4 b6 u H locs ls hw hl hf
      have hf : b_X10_divisor_L17 (f_X10_divisor_L17 n) b4 b6 u = some (r, u') := hf
      unfold b_X10_divisor_L17 at hf
      refine lv_lload hx hb dX10_divisor_17 (lv_at hl 1 rfl) ?_
      refine lv_lconst (v := (0 : Int64)) hx hb dX10_divisor_19 (by decide) ?_
      refine W.lcmp hx hb dX10_divisor_20 ?_
      refine lv_if_eq (tgt := 42) hx hb dX10_divisor_21 (by decide) (fun z => ?_) (fun z => ?_)
      · have hf := it_pos z hf
        refine lv_lload hx hb dX10_divisor_42 (lv_at hl 0 rfl) ?_
        exact retL hc hr hlk hw hf dX10_divisor_44
      · have hf := it_neg z hf
        refine lv_lload hx hb dX10_divisor_24 (lv_at hl 0 rfl) ?_
        refine lv_lload hx hb dX10_divisor_26 (lv_at hl 1 rfl) ?_
        obtain ⟨z, hf⟩ := it_none hf
        refine lv_lrem hx hb dX10_divisor_28 z ?_
        obtain ⟨x1, ex1, hf⟩ := lt_some hf
        refine topel ex1 ?_
        refine lv_lstore (lv' := [(8, .long x1), (4, .long b4), (6, .long b6)]) hx hb dX10_divisor_29 hl (by decide) rfl (fun ls hl => ?_)
        refine lv_lload hx hb dX10_divisor_31 (lv_at hl 2 rfl) ?_
        refine lv_lstore (lv' := [(4, .long b6), (8, .long x1), (6, .long b6)]) hx hb dX10_divisor_33 hl (by decide) rfl (fun ls hl => ?_)
        refine lv_lload hx hb dX10_divisor_35 (lv_at hl 1 rfl) ?_
        refine lv_lstore (lv' := [(6, .long x1), (4, .long b6), (8, .long x1)]) hx hb dX10_divisor_37 hl (by decide) rfl (fun ls hl => ?_)
        refine lv_goto (tgt := 17) hx hb dX10_divisor_39 (by decide) ?_
        exact hk17 b6 x1 u H locs ls hw (lv_sub hl [1, 0] rfl) hf
  have wL12 : ∀ (b2 : Int64) (q0 : Int64) (u : SS) (H : Heap) (locs : List Loc) (ls : Array Slot), VW wdM ev s u H locs → lv_has ls 10 [(2, .long b2)] → f_X10_divisor_L12 b2 q0 u = some (r, u') → W p l e (rmk 0) s m av below meth cd H locs 0 0 (ZL wdM ev s below av r u') (F0 m 12 ls [.long q0]) := by
    intro b2 q0 u H locs ls hw hl hf
    unfold f_X10_divisor_L12 at hf
    refine lv_lstore (lv' := [(4, .long q0), (2, .long b2)]) hx hb dX10_divisor_12 hl (by decide) rfl (fun ls hl => ?_)
    refine lv_lload_n hx hb dX10_divisor_14 rfl (lv_at hl 1 rfl) ?_
    refine lv_lstore (lv' := [(6, .long b2), (4, .long q0), (2, .long b2)]) hx hb dX10_divisor_15 hl (by decide) rfl (fun ls hl => ?_)
    exact wL17 FU q0 b2 u H locs ls hw (lv_sub hl [1, 0] rfl) hf
  unfold f_X10_divisor at hf
  refine lv_lload_n hx hb dX10_divisor_0 rfl (lv_at hl 0 rfl) ?_
  refine lv_lconst (v := (0 : Int64)) hx hb dX10_divisor_1 (by decide) ?_
  refine W.lcmp hx hb dX10_divisor_2 ?_
  refine lv_if_ge (tgt := 11) hx hb dX10_divisor_3 (by decide) (fun z => ?_) (fun z => ?_)
  · have hf := it_pos z hf
    refine lv_lload_n hx hb dX10_divisor_11 rfl (lv_at hl 0 rfl) ?_
    exact wL12 a2 a0 u H locs ls hw (lv_sub hl [1] rfl) hf
  · have hf := it_neg z hf
    refine lv_lload_n hx hb dX10_divisor_6 rfl (lv_at hl 0 rfl) ?_
    refine lv_lneg hx hb dX10_divisor_7 ?_
    refine lv_goto (tgt := 12) hx hb dX10_divisor_8 (by decide) ?_
    exact wL12 a2 (-a0) u H locs ls hw (lv_sub hl [1] rfl) hf
def f_X10_quality_L15 (u : SS) : Option (Int32 × SS) :=
  ob (f_X10_refuse (-1 : Int32) u) fun r6 u5 => some (r6, u5)
def f_X10_quality (a1 : Int32) (a2 : Int32) (a3 : Int32) (u : SS) : Option (Int32 × SS) :=
  ob (f_X10_isBidder a1 u) fun r3 u2 => if r3 = 0 then (f_X10_quality_L15 u2) else (ob (f_X10_isLot a2 u2) fun r9 u8 => if r9 = 0 then (f_X10_quality_L15 u8) else (ob (f_X10_in a3 (0 : Int32) (1 : Int32) u8) fun r12 u11 => if r12 = 0 then (ob (f_X10_refuse (-2 : Int32) u11) fun r24 u23 => some (r24, u23)) else (oi (((8 : Int32) * a2) + a1) 48 (if (gA u11 1 (((8 : Int32) * a2) + a1).toNatClampNeg) = 0 then (ob (f_X10_refuse (-5 : Int32) u11) fun r21 u20 => some (r21, u20)) else (ov (f_X10_findQuality (((8 : Int32) * a2) + a1) (-1 : Int32) u11) fun u14 => ob (f_X10_divisor ((gI u14 4).toInt64) ((gI u14 5).toInt64) u14) fun r17 u16 => lt (r17.toInt32) fun x18 => if a3 = 0 then (if x18 = 0 then none else some (((gI u16 4) / x18), u16)) else (if x18 = 0 then none else some (((gI u16 5) / x18), u16)))))))
set_option maxHeartbeats 4000000 in
set_option maxRecDepth 100000 in
theorem c_X10_quality (l : Launch) (ev : EV) (a1 : Int32) (a2 : Int32) (a3 : Int32) (u : SS) {r : Int32} {u' : SS} (hf : f_X10_quality a1 a2 a3 u = some (r, u')) : MI wdM l yX10_quality cX10_quality 5 (some .int) 4 ev [.ref (ev.2.1 0), .int a1, .int a2, .int a3] u r u' := by
  refine bodyI (by decide +kernel) rfl (Nat.le_of_ble_eq_true rfl) ?_
  intro p e s m below meth cd ls H locs hc hr hlk hw hl
  generalize hav : (List.toArray [.ref (ev.2.1 0), .int a1, .int a2, .int a3] : Array Value) = av at hc ⊢
  obtain ⟨hx, hb, hml, hown, hts, hK, hZ⟩ := id hc
  have hl : lv_has ls 5 [(0, .ref (ev.2.1 0)), (1, .int a1), (2, .int a2), (3, .int a3)] := hl
  have wL15 : ∀ (u : SS) (H : Heap) (locs : List Loc) (ls : Array Slot), VW wdM ev s u H locs → lv_has ls 5 [(0, .ref (ev.2.1 0))] → f_X10_quality_L15  u = some (r, u') → W p l e (rmk 4) s m av below meth cd H locs 0 0 (ZI wdM ev s below av r u') (F0 m 15 ls []) := by
    intro  u H locs ls hw hl hf
    unfold f_X10_quality_L15 at hf
    refine lv_aload_n hx hb dX10_quality_15 rfl (lv_at hl 0 rfl) ?_
    refine lv_iconst (v := (-1 : Int32)) hx hb dX10_quality_16 (by decide) ?_
    obtain ⟨r6, u5, h4, hf⟩ := ob_some hf
    refine endI okM hw (runV_ok (As := [.int (-1 : Int32)]) (rest := []) okM hc hw (c_X10_refuse l ev (-1 : Int32) u h4 H.size) kv_X10_refuse ml_X10_151 (rvM0 ev u) hl.1 rfl rfl (Nat.le_of_ble_eq_true rfl) (rm_le (by decide) (by decide)) dX10_quality_17) (fun H locs hw => ?_)
    exact retI hc hr hlk hw hf dX10_quality_20
  unfold f_X10_quality at hf
  refine lv_iload_n hx hb dX10_quality_0 rfl (lv_at hl 1 rfl) ?_
  obtain ⟨r3, u2, h1, hf⟩ := ob_some hf
  refine endI okM hw (runS_ok (As := [.int a1]) (rest := []) okM hc hw (c_X10_isBidder l ev a1 u h1 H.size) ks_X10_isBidder ml_X10_166 hl.1 rfl rfl (Nat.le_of_ble_eq_true rfl) (rm_le (by decide) (by decide)) dX10_quality_1) (fun H locs hw => ?_)
  refine lv_if_eq (tgt := 15) hx hb dX10_quality_4 (by decide) (fun z => ?_) (fun z => ?_)
  · have hf := it_pos z hf
    exact wL15 u2 H locs ls hw (lv_sub hl [0] rfl) hf
  · have hf := it_neg z hf
    refine lv_aload_n hx hb dX10_quality_7 rfl (lv_at hl 0 rfl) ?_
    refine lv_iload_n hx hb dX10_quality_8 rfl (lv_at hl 2 rfl) ?_
    obtain ⟨r9, u8, h7, hf⟩ := ob_some hf
    refine endI okM hw (runV_ok (As := [.int a2]) (rest := []) okM hc hw (c_X10_isLot l ev a2 u2 h7 H.size) kv_X10_isLot ml_X10_170 (rvM0 ev u2) hl.1 rfl rfl (Nat.le_of_ble_eq_true rfl) (rm_le (by decide) (by decide)) dX10_quality_9) (fun H locs hw => ?_)
    refine lv_if_ne (tgt := 21) hx hb dX10_quality_12 (by decide) (fun z => ?_) (fun z => ?_)
    · have hf := it_neg z hf
      refine lv_iload_n hx hb dX10_quality_21 rfl (lv_at hl 3 rfl) ?_
      refine lv_iconst (v := (0 : Int32)) hx hb dX10_quality_22 (by decide) ?_
      refine lv_iconst (v := (1 : Int32)) hx hb dX10_quality_23 (by decide) ?_
      obtain ⟨r12, u11, h10, hf⟩ := ob_some hf
      refine endI okM hw (runS_ok (As := [.int a3, .int (0 : Int32), .int (1 : Int32)]) (rest := []) okM hc hw (c_X10_in l ev a3 (0 : Int32) (1 : Int32) u8 h10 H.size) ks_X10_in ml_X10_144 hl.1 rfl rfl (Nat.le_of_ble_eq_true rfl) (rm_le (by decide) (by decide)) dX10_quality_24) (fun H locs hw => ?_)
      refine lv_if_ne (tgt := 37) hx hb dX10_quality_27 (by decide) (fun z => ?_) (fun z => ?_)
      · have hf := it_neg z hf
        refine lv_aload_n hx hb dX10_quality_37 rfl (lv_at hl 0 rfl) ?_
        refine gM0_4 hc hw fl_X10_20 dX10_quality_38 ?_
        refine lv_bipush (v := (8 : Int32)) hx hb dX10_quality_41 (by decide) ?_
        refine lv_iload_n hx hb dX10_quality_43 rfl (lv_at hl 2 rfl) ?_
        refine lv_imul hx hb dX10_quality_44 ?_
        refine lv_iload_n hx hb dX10_quality_45 rfl (lv_at hl 1 rfl) ?_
        refine lv_iadd hx hb dX10_quality_46 ?_
        obtain ⟨z, hf⟩ := oi_some hf
        refine aM2 hc hw z dX10_quality_47 ?_
        refine lv_if_ne (tgt := 58) hx hb dX10_quality_48 (by decide) (fun z => ?_) (fun z => ?_)
        · have hf := it_neg z hf
          refine lv_aload_n hx hb dX10_quality_58 rfl (lv_at hl 0 rfl) ?_
          refine lv_bipush (v := (8 : Int32)) hx hb dX10_quality_59 (by decide) ?_
          refine lv_iload_n hx hb dX10_quality_61 rfl (lv_at hl 2 rfl) ?_
          refine lv_imul hx hb dX10_quality_62 ?_
          refine lv_iload_n hx hb dX10_quality_63 rfl (lv_at hl 1 rfl) ?_
          refine lv_iadd hx hb dX10_quality_64 ?_
          refine lv_iconst (v := (-1 : Int32)) hx hb dX10_quality_65 (by decide) ?_
          obtain ⟨u14, h13, hf⟩ := ov_some hf
          refine endV okM hw (runV_ok (As := [.int (((8 : Int32) * a2) + a1), .int (-1 : Int32)]) (rest := []) okM hc hw (c_X10_findQuality l ev (((8 : Int32) * a2) + a1) (-1 : Int32) u11 h13 H.size) kv_X10_findQuality ml_X10_215 (rvM0 ev u11) hl.1 rfl rfl (Nat.le_of_ble_eq_true rfl) (rm_le (by decide) (by decide)) dX10_quality_66) (fun H locs hw => ?_)
          refine lv_aload_n hx hb dX10_quality_69 rfl (lv_at hl 0 rfl) ?_
          refine gM0_16 hc hw fl_X10_206 dX10_quality_70 ?_
          refine lv_i2l (v := (gI u14 4).toInt64) hx hb dX10_quality_73 rfl ?_
          refine lv_aload_n hx hb dX10_quality_74 rfl (lv_at hl 0 rfl) ?_
          refine gM0_17 hc hw fl_X10_209 dX10_quality_75 ?_
          refine lv_i2l (v := (gI u14 5).toInt64) hx hb dX10_quality_78 rfl ?_
          obtain ⟨r17, u16, h15, hf⟩ := ob_some hf
          refine endL okM hw (runS_ok (As := [.long ((gI u14 4).toInt64), .long ((gI u14 5).toInt64)]) (rest := []) okM hc hw (c_X10_divisor l ev ((gI u14 4).toInt64) ((gI u14 5).toInt64) u14 h15 H.size) ks_X10_divisor ml_X10_219 hl.1 rfl rfl (Nat.le_of_ble_eq_true rfl) (rm_le (by decide) (by decide)) dX10_quality_79) (fun H locs hw => ?_)
          refine lv_l2i (v := r17.toInt32) hx hb dX10_quality_82 rfl ?_
          obtain ⟨x18, ex18, hf⟩ := lt_some hf
          refine tope ex18 ?_
          refine lv_istore (lv' := [(4, .int x18), (0, .ref (ev.2.1 0)), (1, .int a1), (2, .int a2), (3, .int a3)]) hx hb dX10_quality_83 hl (by decide) rfl (fun ls hl => ?_)
          refine lv_iload_n hx hb dX10_quality_85 rfl (lv_at hl 4 rfl) ?_
          refine lv_if_ne (tgt := 99) hx hb dX10_quality_86 (by decide) (fun z => ?_) (fun z => ?_)
          · have hf := it_neg z hf
            refine lv_aload_n hx hb dX10_quality_99 rfl (lv_at hl 1 rfl) ?_
            refine gM0_17 hc hw fl_X10_209 dX10_quality_100 ?_
            refine lv_iload hx hb dX10_quality_103 (lv_at hl 0 rfl) ?_
            obtain ⟨z, hf⟩ := it_none hf
            refine lv_idiv hx hb dX10_quality_105 z ?_
            exact retI hc hr hlk hw hf dX10_quality_106
          · have hf := it_pos z hf
            refine lv_aload_n hx hb dX10_quality_89 rfl (lv_at hl 1 rfl) ?_
            refine gM0_16 hc hw fl_X10_206 dX10_quality_90 ?_
            refine lv_iload hx hb dX10_quality_93 (lv_at hl 0 rfl) ?_
            obtain ⟨z, hf⟩ := it_none hf
            refine lv_idiv hx hb dX10_quality_95 z ?_
            refine lv_goto (tgt := 106) hx hb dX10_quality_96 (by decide) ?_
            exact retI hc hr hlk hw hf dX10_quality_106
        · have hf := it_pos z hf
          refine lv_aload_n hx hb dX10_quality_51 rfl (lv_at hl 0 rfl) ?_
          refine lv_bipush (v := (-5 : Int32)) hx hb dX10_quality_52 (by decide) ?_
          obtain ⟨r21, u20, h19, hf⟩ := ob_some hf
          refine endI okM hw (runV_ok (As := [.int (-5 : Int32)]) (rest := []) okM hc hw (c_X10_refuse l ev (-5 : Int32) u11 h19 H.size) kv_X10_refuse ml_X10_151 (rvM0 ev u11) hl.1 rfl rfl (Nat.le_of_ble_eq_true rfl) (rm_le (by decide) (by decide)) dX10_quality_54) (fun H locs hw => ?_)
          exact retI hc hr hlk hw hf dX10_quality_57
      · have hf := it_pos z hf
        refine lv_aload_n hx hb dX10_quality_30 rfl (lv_at hl 0 rfl) ?_
        refine lv_bipush (v := (-2 : Int32)) hx hb dX10_quality_31 (by decide) ?_
        obtain ⟨r24, u23, h22, hf⟩ := ob_some hf
        refine endI okM hw (runV_ok (As := [.int (-2 : Int32)]) (rest := []) okM hc hw (c_X10_refuse l ev (-2 : Int32) u11 h22 H.size) kv_X10_refuse ml_X10_151 (rvM0 ev u11) hl.1 rfl rfl (Nat.le_of_ble_eq_true rfl) (rm_le (by decide) (by decide)) dX10_quality_33) (fun H locs hw => ?_)
        exact retI hc hr hlk hw hf dX10_quality_36
    · have hf := it_pos z hf
      exact wL15 u8 H locs ls hw (lv_sub hl [0] rfl) hf
def f_X10_feed_L29 (u : SS) : Option (Int32 × SS) :=
  ob (f_X10_refuse (-6 : Int32) u) fun r3 u2 => some (r3, u2)
def b_X10_feed_L39 (k39 : Int32 → Int64 → Int32 → SS → Option (Int32 × SS)) (b1 : Int32) (b2 : Int64) (b4 : Int32) (u : SS) : Option (Int32 × SS) :=
  if b1 ≤ b4 then (some ((gI u 6), u)) else (oi (gI u 6) 80 (lt (tA u 12 (gI u 6) (((b2 >>> (((8 : Int32) * b4).toInt64 &&& 63)) &&& (255 : Int64)).toInt32)) fun u4 => lt (sI u4 6 ((gI u4 6) + (1 : Int32))) fun u5 => lt (b4 + (1 : Int32)) fun x6 => k39 b1 b2 x6 u5))
def f_X10_feed_L39 : Nat → Int32 → Int64 → Int32 → SS → Option (Int32 × SS)
  | 0 => fun _ _ _ _ => none
  | n + 1 => b_X10_feed_L39 (f_X10_feed_L39 n)
def f_X10_feed (a1 : Int32) (a2 : Int64) (u : SS) : Option (Int32 × SS) :=
  if (1 : Int32) ≤ a1 then (if (8 : Int32) < a1 then (f_X10_feed_L29 u) else (if ((gI u 6) + a1) ≤ (80 : Int32) then (f_X10_feed_L39 FU a1 a2 (0 : Int32) u) else (f_X10_feed_L29 u))) else (ob (f_X10_refuse (-4 : Int32) u) fun r9 u8 => some (r9, u8))
set_option maxHeartbeats 4000000 in
set_option maxRecDepth 100000 in
theorem c_X10_feed (l : Launch) (ev : EV) (a1 : Int32) (a2 : Int64) (u : SS) {r : Int32} {u' : SS} (hf : f_X10_feed a1 a2 u = some (r, u')) : MI wdM l yX10_feed cX10_feed 5 (some .int) 1 ev [.ref (ev.2.1 0), .int a1, .long a2] u r u' := by
  refine bodyI (by decide +kernel) rfl (Nat.le_of_ble_eq_true rfl) ?_
  intro p e s m below meth cd ls H locs hc hr hlk hw hl
  generalize hav : (List.toArray [.ref (ev.2.1 0), .int a1, .long a2] : Array Value) = av at hc ⊢
  obtain ⟨hx, hb, hml, hown, hts, hK, hZ⟩ := id hc
  have hl : lv_has ls 5 [(0, .ref (ev.2.1 0)), (1, .int a1), (2, .long a2)] := hl
  have wL29 : ∀ (u : SS) (H : Heap) (locs : List Loc) (ls : Array Slot), VW wdM ev s u H locs → lv_has ls 5 [(0, .ref (ev.2.1 0))] → f_X10_feed_L29  u = some (r, u') → W p l e (rmk 1) s m av below meth cd H locs 0 0 (ZI wdM ev s below av r u') (F0 m 29 ls []) := by
    intro  u H locs ls hw hl hf
    unfold f_X10_feed_L29 at hf
    refine lv_aload_n hx hb dX10_feed_29 rfl (lv_at hl 0 rfl) ?_
    refine lv_bipush (v := (-6 : Int32)) hx hb dX10_feed_30 (by decide) ?_
    obtain ⟨r3, u2, h1, hf⟩ := ob_some hf
    refine endI okM hw (runV_ok (As := [.int (-6 : Int32)]) (rest := []) okM hc hw (c_X10_refuse l ev (-6 : Int32) u h1 H.size) kv_X10_refuse ml_X10_151 (rvM0 ev u) hl.1 rfl rfl (Nat.le_of_ble_eq_true rfl) (rm_le (by decide) (by decide)) dX10_feed_32) (fun H locs hw => ?_)
    exact retI hc hr hlk hw hf dX10_feed_35
  have wL39 : ∀ (n : Nat) (b1 : Int32) (b2 : Int64) (b4 : Int32) (u : SS) (H : Heap) (locs : List Loc) (ls : Array Slot), VW wdM ev s u H locs → lv_has ls 5 [(0, .ref (ev.2.1 0)), (1, .int b1), (2, .long b2), (4, .int b4)] → f_X10_feed_L39 n b1 b2 b4 u = some (r, u') → W p l e (rmk 1) s m av below meth cd H locs 0 0 (ZI wdM ev s below av r u') (F0 m 39 ls []) := by
    intro n
    induction n with
    | zero =>
      intro b1 b2 b4 u H locs ls hw hl hf
      cases hf
    | succ n hk39 =>
      intro b1 b2 b4 u H locs ls hw hl hf
      have hf : b_X10_feed_L39 (f_X10_feed_L39 n) b1 b2 b4 u = some (r, u') := hf
      unfold b_X10_feed_L39 at hf
      refine lv_iload hx hb dX10_feed_39 (lv_at hl 3 rfl) ?_
      refine lv_iload_n hx hb dX10_feed_41 rfl (lv_at hl 1 rfl) ?_
      refine lv_icmp_ge (tgt := 82) hx hb dX10_feed_42 (by decide) (fun z => ?_) (fun z => ?_)
      · have hf := it_pos z hf
        refine lv_aload_n hx hb dX10_feed_82 rfl (lv_at hl 0 rfl) ?_
        refine gM0_19 hc hw fl_X10_223 dX10_feed_83 ?_
        exact retI hc hr hlk hw hf dX10_feed_86
      · have hf := it_neg z hf
        refine lv_aload_n hx hb dX10_feed_45 rfl (lv_at hl 0 rfl) ?_
        refine gM0_18 hc hw fl_X10_54 dX10_feed_46 ?_
        refine lv_aload_n hx hb dX10_feed_49 rfl (lv_at hl 0 rfl) ?_
        refine gM0_19 hc hw fl_X10_223 dX10_feed_50 ?_
        refine lv_lload_n hx hb dX10_feed_53 rfl (lv_at hl 2 rfl) ?_
        refine lv_bipush (v := (8 : Int32)) hx hb dX10_feed_54 (by decide) ?_
        refine lv_iload hx hb dX10_feed_56 (lv_at hl 3 rfl) ?_
        refine lv_imul hx hb dX10_feed_58 ?_
        refine lv_lshr (v := (b2 >>> (((8 : Int32) * b4).toInt64 &&& 63))) hx hb dX10_feed_59 rfl ?_
        refine lv_ldc2 (v := (255 : Int64)) hx hb hown (hts _ ct_X10_226) dX10_feed_60 ?_
        refine lv_land hx hb dX10_feed_63 ?_
        refine lv_l2i (v := ((b2 >>> (((8 : Int32) * b4).toInt64 &&& 63)) &&& (255 : Int64)).toInt32) hx hb dX10_feed_64 rfl ?_
        obtain ⟨z, hf⟩ := oi_some hf
        refine tM13 hc hw z dX10_feed_65 (fun H locs hw => ?_)
        obtain ⟨u4, eu4, hf⟩ := lt_some hf
        have hw := VW.nm eu4 hw
        refine lv_aload_n hx hb dX10_feed_66 rfl (lv_at hl 0 rfl) ?_
        refine lv_dup hx hb dX10_feed_67 rfl ?_
        refine gM0_19 hc hw fl_X10_223 dX10_feed_68 ?_
        refine lv_iconst (v := (1 : Int32)) hx hb dX10_feed_71 (by decide) ?_
        refine lv_iadd hx hb dX10_feed_72 ?_
        refine pM0_19 hc hw fl_X10_223 dX10_feed_73 (fun H locs hw => ?_)
        obtain ⟨u5, eu5, hf⟩ := lt_some hf
        have hw := VW.nm eu5 hw
        obtain ⟨x6, ex6, hf⟩ := lt_some hf
        refine lv_iinc (v := x6) (lv' := [(4, .int x6), (0, .ref (ev.2.1 0)), (1, .int b1), (2, .long b2)]) hx hb dX10_feed_76 hl (k := 3) rfl (by rw [ex6]; rfl) (by decide) rfl (fun ls hl => ?_)
        refine lv_goto (tgt := 39) hx hb dX10_feed_79 (by decide) ?_
        exact hk39 b1 b2 x6 u5 H locs ls hw (lv_sub hl [1, 2, 3, 0] rfl) hf
  unfold f_X10_feed at hf
  refine lv_iload_n hx hb dX10_feed_0 rfl (lv_at hl 1 rfl) ?_
  refine lv_iconst (v := (1 : Int32)) hx hb dX10_feed_1 (by decide) ?_
  refine lv_icmp_ge (tgt := 12) hx hb dX10_feed_2 (by decide) (fun z => ?_) (fun z => ?_)
  · have hf := it_pos z hf
    refine lv_iload_n hx hb dX10_feed_12 rfl (lv_at hl 1 rfl) ?_
    refine lv_bipush (v := (8 : Int32)) hx hb dX10_feed_13 (by decide) ?_
    refine lv_icmp_gt (tgt := 29) hx hb dX10_feed_15 (by decide) (fun z => ?_) (fun z => ?_)
    · have hf := it_pos z hf
      exact wL29 u H locs ls hw (lv_sub hl [0] rfl) hf
    · have hf := it_neg z hf
      refine lv_aload_n hx hb dX10_feed_18 rfl (lv_at hl 0 rfl) ?_
      refine gM0_19 hc hw fl_X10_223 dX10_feed_19 ?_
      refine lv_iload_n hx hb dX10_feed_22 rfl (lv_at hl 1 rfl) ?_
      refine lv_iadd hx hb dX10_feed_23 ?_
      refine lv_bipush (v := (80 : Int32)) hx hb dX10_feed_24 (by decide) ?_
      refine lv_icmp_le (tgt := 36) hx hb dX10_feed_26 (by decide) (fun z => ?_) (fun z => ?_)
      · have hf := it_pos z hf
        refine lv_iconst (v := (0 : Int32)) hx hb dX10_feed_36 (by decide) ?_
        refine lv_istore (lv' := [(4, .int (0 : Int32)), (0, .ref (ev.2.1 0)), (1, .int a1), (2, .long a2)]) hx hb dX10_feed_37 hl (by decide) rfl (fun ls hl => ?_)
        exact wL39 FU a1 a2 (0 : Int32) u H locs ls hw (lv_sub hl [1, 2, 3, 0] rfl) hf
      · have hf := it_neg z hf
        exact wL29 u H locs ls hw (lv_sub hl [0] rfl) hf
  · have hf := it_neg z hf
    refine lv_aload_n hx hb dX10_feed_5 rfl (lv_at hl 0 rfl) ?_
    refine lv_bipush (v := (-4 : Int32)) hx hb dX10_feed_6 (by decide) ?_
    obtain ⟨r9, u8, h7, hf⟩ := ob_some hf
    refine endI okM hw (runV_ok (As := [.int (-4 : Int32)]) (rest := []) okM hc hw (c_X10_refuse l ev (-4 : Int32) u h7 H.size) kv_X10_refuse ml_X10_151 (rvM0 ev u) hl.1 rfl rfl (Nat.le_of_ble_eq_true rfl) (rm_le (by decide) (by decide)) dX10_feed_8) (fun H locs hw => ?_)
    exact retI hc hr hlk hw hf dX10_feed_11
def f_X10_nameOf (a0 : Int32) (u : SS) : Option (Int32 × SS) :=
  if a0.toInt < 97 ∨ 113 < a0.toInt then (some ((-1 : Int32), u)) else if a0 = (97 : Int32) then (some ((3 : Int32), u)) else if a0 = (98 : Int32) then (some ((5 : Int32), u)) else if a0 = (99 : Int32) then (some ((-1 : Int32), u)) else if a0 = (100 : Int32) then (some ((-1 : Int32), u)) else if a0 = (101 : Int32) then (some ((-1 : Int32), u)) else if a0 = (102 : Int32) then (some ((-1 : Int32), u)) else if a0 = (103 : Int32) then (some ((-1 : Int32), u)) else if a0 = (104 : Int32) then (some ((2 : Int32), u)) else if a0 = (105 : Int32) then (some ((-1 : Int32), u)) else if a0 = (106 : Int32) then (some ((-1 : Int32), u)) else if a0 = (107 : Int32) then (some ((6 : Int32), u)) else if a0 = (108 : Int32) then (some ((1 : Int32), u)) else if a0 = (109 : Int32) then (some ((-1 : Int32), u)) else if a0 = (110 : Int32) then (some ((-1 : Int32), u)) else if a0 = (111 : Int32) then (some ((-1 : Int32), u)) else if a0 = (112 : Int32) then (some ((0 : Int32), u)) else if a0 = (113 : Int32) then (some ((4 : Int32), u)) else none
set_option maxHeartbeats 4000000 in
set_option maxRecDepth 100000 in
theorem c_X10_nameOf (l : Launch) (ev : EV) (a0 : Int32) (u : SS) {r : Int32} {u' : SS} (hf : f_X10_nameOf a0 u = some (r, u')) : MI wdM l yX10_nameOf cX10_nameOf 1 (some .int) 0 ev [.int a0] u r u' := by
  refine bodyI (by decide +kernel) rfl (Nat.le_of_ble_eq_true rfl) ?_
  intro p e s m below meth cd ls H locs hc hr hlk hw hl
  generalize hav : (List.toArray [.int a0] : Array Value) = av at hc ⊢
  obtain ⟨hx, hb, hml, hown, hts, hK, hZ⟩ := id hc
  have hl : lv_has ls 1 [(0, .int a0)] := hl
  unfold f_X10_nameOf at hf
  refine lv_iload_n hx hb dX10_nameOf_0 rfl (lv_at hl 0 rfl) ?_
  by_cases z0 : a0.toInt < 97 ∨ 113 < a0.toInt
  · have hf := it_pos z0 hf
    refine lv_tableOut (tgt := 99) hx hb dX10_nameOf_1 z0 (by decide) ?_
    refine lv_iconst (v := (-1 : Int32)) hx hb dX10_nameOf_99 (by decide) ?_
    exact retI hc hr hlk hw hf dX10_nameOf_100
  · have hf := it_neg z0 hf
    by_cases z : a0 = (97 : Int32)
    · have hf := it_pos z hf
      refine lv_tableIn (tgt := 90) (off := 89) hx hb dX10_nameOf_1 (by rw [z]; decide) (by rw [z]; decide) (by rw [z]; decide) (by decide) ?_
      refine lv_iconst (v := (3 : Int32)) hx hb dX10_nameOf_90 (by decide) ?_
      exact retI hc hr hlk hw hf dX10_nameOf_91
    have hf := it_neg z hf
    by_cases z : a0 = (98 : Int32)
    · have hf := it_pos z hf
      refine lv_tableIn (tgt := 94) (off := 93) hx hb dX10_nameOf_1 (by rw [z]; decide) (by rw [z]; decide) (by rw [z]; decide) (by decide) ?_
      refine lv_iconst (v := (5 : Int32)) hx hb dX10_nameOf_94 (by decide) ?_
      exact retI hc hr hlk hw hf dX10_nameOf_95
    have hf := it_neg z hf
    by_cases z : a0 = (99 : Int32)
    · have hf := it_pos z hf
      refine lv_tableIn (tgt := 99) (off := 98) hx hb dX10_nameOf_1 (by rw [z]; decide) (by rw [z]; decide) (by rw [z]; decide) (by decide) ?_
      refine lv_iconst (v := (-1 : Int32)) hx hb dX10_nameOf_99 (by decide) ?_
      exact retI hc hr hlk hw hf dX10_nameOf_100
    have hf := it_neg z hf
    by_cases z : a0 = (100 : Int32)
    · have hf := it_pos z hf
      refine lv_tableIn (tgt := 99) (off := 98) hx hb dX10_nameOf_1 (by rw [z]; decide) (by rw [z]; decide) (by rw [z]; decide) (by decide) ?_
      refine lv_iconst (v := (-1 : Int32)) hx hb dX10_nameOf_99 (by decide) ?_
      exact retI hc hr hlk hw hf dX10_nameOf_100
    have hf := it_neg z hf
    by_cases z : a0 = (101 : Int32)
    · have hf := it_pos z hf
      refine lv_tableIn (tgt := 99) (off := 98) hx hb dX10_nameOf_1 (by rw [z]; decide) (by rw [z]; decide) (by rw [z]; decide) (by decide) ?_
      refine lv_iconst (v := (-1 : Int32)) hx hb dX10_nameOf_99 (by decide) ?_
      exact retI hc hr hlk hw hf dX10_nameOf_100
    have hf := it_neg z hf
    by_cases z : a0 = (102 : Int32)
    · have hf := it_pos z hf
      refine lv_tableIn (tgt := 99) (off := 98) hx hb dX10_nameOf_1 (by rw [z]; decide) (by rw [z]; decide) (by rw [z]; decide) (by decide) ?_
      refine lv_iconst (v := (-1 : Int32)) hx hb dX10_nameOf_99 (by decide) ?_
      exact retI hc hr hlk hw hf dX10_nameOf_100
    have hf := it_neg z hf
    by_cases z : a0 = (103 : Int32)
    · have hf := it_pos z hf
      refine lv_tableIn (tgt := 99) (off := 98) hx hb dX10_nameOf_1 (by rw [z]; decide) (by rw [z]; decide) (by rw [z]; decide) (by decide) ?_
      refine lv_iconst (v := (-1 : Int32)) hx hb dX10_nameOf_99 (by decide) ?_
      exact retI hc hr hlk hw hf dX10_nameOf_100
    have hf := it_neg z hf
    by_cases z : a0 = (104 : Int32)
    · have hf := it_pos z hf
      refine lv_tableIn (tgt := 88) (off := 87) hx hb dX10_nameOf_1 (by rw [z]; decide) (by rw [z]; decide) (by rw [z]; decide) (by decide) ?_
      refine lv_iconst (v := (2 : Int32)) hx hb dX10_nameOf_88 (by decide) ?_
      exact retI hc hr hlk hw hf dX10_nameOf_89
    have hf := it_neg z hf
    by_cases z : a0 = (105 : Int32)
    · have hf := it_pos z hf
      refine lv_tableIn (tgt := 99) (off := 98) hx hb dX10_nameOf_1 (by rw [z]; decide) (by rw [z]; decide) (by rw [z]; decide) (by decide) ?_
      refine lv_iconst (v := (-1 : Int32)) hx hb dX10_nameOf_99 (by decide) ?_
      exact retI hc hr hlk hw hf dX10_nameOf_100
    have hf := it_neg z hf
    by_cases z : a0 = (106 : Int32)
    · have hf := it_pos z hf
      refine lv_tableIn (tgt := 99) (off := 98) hx hb dX10_nameOf_1 (by rw [z]; decide) (by rw [z]; decide) (by rw [z]; decide) (by decide) ?_
      refine lv_iconst (v := (-1 : Int32)) hx hb dX10_nameOf_99 (by decide) ?_
      exact retI hc hr hlk hw hf dX10_nameOf_100
    have hf := it_neg z hf
    by_cases z : a0 = (107 : Int32)
    · have hf := it_pos z hf
      refine lv_tableIn (tgt := 96) (off := 95) hx hb dX10_nameOf_1 (by rw [z]; decide) (by rw [z]; decide) (by rw [z]; decide) (by decide) ?_
      refine lv_bipush (v := (6 : Int32)) hx hb dX10_nameOf_96 (by decide) ?_
      exact retI hc hr hlk hw hf dX10_nameOf_98
    have hf := it_neg z hf
    by_cases z : a0 = (108 : Int32)
    · have hf := it_pos z hf
      refine lv_tableIn (tgt := 86) (off := 85) hx hb dX10_nameOf_1 (by rw [z]; decide) (by rw [z]; decide) (by rw [z]; decide) (by decide) ?_
      refine lv_iconst (v := (1 : Int32)) hx hb dX10_nameOf_86 (by decide) ?_
      exact retI hc hr hlk hw hf dX10_nameOf_87
    have hf := it_neg z hf
    by_cases z : a0 = (109 : Int32)
    · have hf := it_pos z hf
      refine lv_tableIn (tgt := 99) (off := 98) hx hb dX10_nameOf_1 (by rw [z]; decide) (by rw [z]; decide) (by rw [z]; decide) (by decide) ?_
      refine lv_iconst (v := (-1 : Int32)) hx hb dX10_nameOf_99 (by decide) ?_
      exact retI hc hr hlk hw hf dX10_nameOf_100
    have hf := it_neg z hf
    by_cases z : a0 = (110 : Int32)
    · have hf := it_pos z hf
      refine lv_tableIn (tgt := 99) (off := 98) hx hb dX10_nameOf_1 (by rw [z]; decide) (by rw [z]; decide) (by rw [z]; decide) (by decide) ?_
      refine lv_iconst (v := (-1 : Int32)) hx hb dX10_nameOf_99 (by decide) ?_
      exact retI hc hr hlk hw hf dX10_nameOf_100
    have hf := it_neg z hf
    by_cases z : a0 = (111 : Int32)
    · have hf := it_pos z hf
      refine lv_tableIn (tgt := 99) (off := 98) hx hb dX10_nameOf_1 (by rw [z]; decide) (by rw [z]; decide) (by rw [z]; decide) (by decide) ?_
      refine lv_iconst (v := (-1 : Int32)) hx hb dX10_nameOf_99 (by decide) ?_
      exact retI hc hr hlk hw hf dX10_nameOf_100
    have hf := it_neg z hf
    by_cases z : a0 = (112 : Int32)
    · have hf := it_pos z hf
      refine lv_tableIn (tgt := 84) (off := 83) hx hb dX10_nameOf_1 (by rw [z]; decide) (by rw [z]; decide) (by rw [z]; decide) (by decide) ?_
      refine lv_iconst (v := (0 : Int32)) hx hb dX10_nameOf_84 (by decide) ?_
      exact retI hc hr hlk hw hf dX10_nameOf_85
    have hf := it_neg z hf
    by_cases z : a0 = (113 : Int32)
    · have hf := it_pos z hf
      refine lv_tableIn (tgt := 92) (off := 91) hx hb dX10_nameOf_1 (by rw [z]; decide) (by rw [z]; decide) (by rw [z]; decide) (by decide) ?_
      refine lv_iconst (v := (4 : Int32)) hx hb dX10_nameOf_92 (by decide) ?_
      exact retI hc hr hlk hw hf dX10_nameOf_93
    have hf := it_neg z hf
    cases hf
def f_X10_work_L392 (b12 : Int64) (q0 : Int64) (q1 : Int32) (u : SS) : Option SS :=
  oi q1 100 (lt (tL u 2 q1 q0) fun u12 => if (gI u12 13) = 0 then (oi ((gI u12 8) - (1 : Int32)) 100 (lt (tL u12 3 ((gI u12 8) - (1 : Int32)) b12) fun u13 => some u13)) else (oi ((gI u12 8) - (1 : Int32)) 100 (lt (tL u12 3 ((gI u12 8) - (1 : Int32)) (1 : Int64)) fun u14 => some u14)))
def f_X10_work_L366 (b10 : Int64) (b12 : Int64) (q0 : Int32) (u : SS) : Option SS :=
  if ¬ (q0 = 0 ∨ q0 = 1) then none else lt (sI u 13 q0) fun u11 => if (gI u11 13) = 0 then (f_X10_work_L392 b12 b10 ((gI u11 8) - (1 : Int32)) u11) else (f_X10_work_L392 b12 (0 : Int64) ((gI u11 8) - (1 : Int32)) u11)
def f_X10_work_L361 (b10 : Int64) (b12 : Int64) (u : SS) : Option SS :=
  f_X10_work_L366 b10 b12 (1 : Int32) u
def f_X10_work_L303 (b10 : Int64) (b12 : Int64) (u : SS) : Option SS :=
  ob (f_X10_divisor b10 b12 u) fun r8 u7 => if r8 = 0 then none else lt (b10 / r8) fun x9 => if r8 = 0 then none else lt (b12 / r8) fun x10 => if (gI u7 13) = 0 then (if 0 < (lg_cmp x9 (1000000000 : Int64)) then (f_X10_work_L361 x9 x10 u7) else (if (lg_cmp x9 (-1000000000 : Int64)) < 0 then (f_X10_work_L361 x9 x10 u7) else (if (lg_cmp x10 (1000000000 : Int64)) ≤ 0 then (f_X10_work_L366 x9 x10 (0 : Int32) u7) else (f_X10_work_L361 x9 x10 u7)))) else (f_X10_work_L361 x9 x10 u7)
def f_X10_work_L151 (b10 : Int64) (q0 : Int64) (u : SS) : Option SS :=
  f_X10_work_L303 b10 q0 u
def f_X10_work_L137 (b4 : Int64) (b8 : Int64) (b14 : Int32) (q0 : Int64) (u : SS) : Option SS :=
  if b14 = 0 then (f_X10_work_L151 q0 b8 u) else (f_X10_work_L151 q0 b4 u)
def f_X10_work_L124 (b2 : Int64) (b4 : Int64) (b6 : Int64) (b8 : Int64) (q0 : Int32) (u : SS) : Option SS :=
  if q0 = 0 then (f_X10_work_L137 b4 b8 q0 b6 u) else (f_X10_work_L137 b4 b8 q0 b2 u)
def f_X10_work_L79 (b1 : Int32) (b2 : Int64) (b4 : Int64) (b6 : Int64) (b8 : Int64) (u : SS) : Option SS :=
  if b1 = (60 : Int32) then (if 0 < (lg_cmp (b2 * b8) (b6 * b4)) then (f_X10_work_L124 b2 b4 b6 b8 (0 : Int32) u) else (f_X10_work_L124 b2 b4 b6 b8 (1 : Int32) u)) else (if (lg_cmp (b2 * b8) (b6 * b4)) < 0 then (f_X10_work_L124 b2 b4 b6 b8 (0 : Int32) u) else (f_X10_work_L124 b2 b4 b6 b8 (1 : Int32) u))
def f_X10_work_L294 (b4 : Int64) (b8 : Int64) (q0 : Int64) (u : SS) : Option SS :=
  lt (b4 * b8) fun x15 => f_X10_work_L303 q0 x15 u
def f_X10_work_L260 (b10 : Int64) (q0 : Int64) (u : SS) : Option SS :=
  f_X10_work_L303 b10 q0 u
def f_X10_work_L226 (b4 : Int64) (b6 : Int64) (q0 : Int64) (u : SS) : Option SS :=
  if (lg_cmp b6 (0 : Int64)) = 0 then (f_X10_work_L260 q0 (1 : Int64) u) else (if 0 ≤ (lg_cmp b6 (0 : Int64)) then (f_X10_work_L260 q0 (b4 * b6) u) else (f_X10_work_L260 q0 ((-b4) * b6) u))
def f_X10_work_L204 (b2 : Int64) (b4 : Int64) (b6 : Int64) (b8 : Int64) (q0 : Int32) (u : SS) : Option SS :=
  if ¬ (q0 = 0 ∨ q0 = 1) then none else lt (sI u 13 q0) fun u16 => if 0 ≤ (lg_cmp b6 (0 : Int64)) then (f_X10_work_L226 b4 b6 (b2 * b8) u16) else (f_X10_work_L226 b4 b6 ((-b2) * b8) u16)
def f_X10_work_L199 (b2 : Int64) (b4 : Int64) (b6 : Int64) (b8 : Int64) (u : SS) : Option SS :=
  f_X10_work_L204 b2 b4 b6 b8 (1 : Int32) u
def f_X10_work (a1 : Int32) (u : SS) : Option SS :=
  oi ((gI u 8) - (2 : Int32)) 100 (lt (gL u 2 ((gI u 8) - (2 : Int32)).toNatClampNeg) fun x1 => oi ((gI u 8) - (2 : Int32)) 100 (lt (gL u 3 ((gI u 8) - (2 : Int32)).toNatClampNeg) fun x2 => oi ((gI u 8) - (1 : Int32)) 100 (lt (gL u 2 ((gI u 8) - (1 : Int32)).toNatClampNeg) fun x3 => oi ((gI u 8) - (1 : Int32)) 100 (lt (gL u 3 ((gI u 8) - (1 : Int32)).toNatClampNeg) fun x4 => lt (sI u 8 ((gI u 8) - (1 : Int32))) fun u5 => if a1 = (60 : Int32) then (f_X10_work_L79 a1 x1 x2 x3 x4 u5) else (if a1 = (62 : Int32) then (f_X10_work_L79 a1 x1 x2 x3 x4 u5) else (if a1 = (42 : Int32) then (lt (x1 * x3) fun x17 => lt (x2 * x4) fun x18 => f_X10_work_L303 x17 x18 u5) else (if a1 = (47 : Int32) then (if (gI u5 13) = 0 then (if (lg_cmp x3 (0 : Int64)) = 0 then (f_X10_work_L199 x1 x2 x3 x4 u5) else (f_X10_work_L204 x1 x2 x3 x4 (0 : Int32) u5)) else (f_X10_work_L199 x1 x2 x3 x4 u5)) else (if a1 = (43 : Int32) then (f_X10_work_L294 x2 x4 ((x1 * x4) + (x3 * x2)) u5) else (f_X10_work_L294 x2 x4 ((x1 * x4) - (x3 * x2)) u5)))))))))
set_option maxHeartbeats 4000000 in
set_option maxRecDepth 100000 in
theorem c_X10_work (l : Launch) (ev : EV) (a1 : Int32) (u : SS) {u' : SS} (hf : f_X10_work a1 u = some u') : MV wdM l yX10_work cX10_work 16 none 1 ev [.ref (ev.2.1 0), .int a1] u u' := by
  refine bodyV (by decide +kernel) rfl (Nat.le_of_ble_eq_true rfl) ?_
  intro p e s m below meth cd ls H locs hc hr hlk hw hl
  generalize hav : (List.toArray [.ref (ev.2.1 0), .int a1] : Array Value) = av at hc ⊢
  obtain ⟨hx, hb, hml, hown, hts, hK, hZ⟩ := id hc
  have hl : lv_has ls 16 [(0, .ref (ev.2.1 0)), (1, .int a1)] := hl
  have wL392 : ∀ (b12 : Int64) (q0 : Int64) (q1 : Int32) (u : SS) (H : Heap) (locs : List Loc) (ls : Array Slot), VW wdM ev s u H locs → lv_has ls 16 [(0, .ref (ev.2.1 0)), (12, .long b12)] → f_X10_work_L392 b12 q0 q1 u = some u' → W p l e (rmk 1) s m av below meth cd H locs 0 0 (ZV wdM ev s below av u') (F0 m 392 ls [.long q0, .int q1, .ref (ev.2.1 17)]) := by
    intro b12 q0 q1 u H locs ls hw hl hf
    unfold f_X10_work_L392 at hf
    obtain ⟨z, hf⟩ := oi_some hf
    refine tM17 hc hw z dX10_work_392 (fun H locs hw => ?_)
    obtain ⟨u12, eu12, hf⟩ := lt_some hf
    have hw := VW.nm eu12 hw
    refine lv_aload_n hx hb dX10_work_393 rfl (lv_at hl 0 rfl) ?_
    refine gM0_25 hc hw fl_X10_70 dX10_work_394 ?_
    refine lv_aload_n hx hb dX10_work_397 rfl (lv_at hl 0 rfl) ?_
    refine gM0_26 hc hw fl_X10_228 dX10_work_398 ?_
    refine lv_iconst (v := (1 : Int32)) hx hb dX10_work_401 (by decide) ?_
    refine lv_isub hx hb dX10_work_402 ?_
    refine lv_aload_n hx hb dX10_work_403 rfl (lv_at hl 0 rfl) ?_
    refine gM0_32 hc hw fl_X10_231 dX10_work_404 ?_
    refine lv_if_eq (tgt := 414) hx hb dX10_work_407 (by decide) (fun z => ?_) (fun z => ?_)
    · have hf := it_pos z hf
      refine lv_lload hx hb dX10_work_414 (lv_at hl 1 rfl) ?_
      obtain ⟨z, hf⟩ := oi_some hf
      refine tM18 hc hw z dX10_work_416 (fun H locs hw => ?_)
      obtain ⟨u13, eu13, hf⟩ := lt_some hf
      have hw := VW.nm eu13 hw
      exact retV hc hr hlk hw hf dX10_work_417
    · have hf := it_neg z hf
      refine lv_lconst (v := (1 : Int64)) hx hb dX10_work_410 (by decide) ?_
      refine lv_goto (tgt := 416) hx hb dX10_work_411 (by decide) ?_
      obtain ⟨z, hf⟩ := oi_some hf
      refine tM18 hc hw z dX10_work_416 (fun H locs hw => ?_)
      obtain ⟨u14, eu14, hf⟩ := lt_some hf
      have hw := VW.nm eu14 hw
      exact retV hc hr hlk hw hf dX10_work_417
  have wL366 : ∀ (b10 : Int64) (b12 : Int64) (q0 : Int32) (u : SS) (H : Heap) (locs : List Loc) (ls : Array Slot), VW wdM ev s u H locs → lv_has ls 16 [(0, .ref (ev.2.1 0)), (10, .long b10), (12, .long b12)] → f_X10_work_L366 b10 b12 q0 u = some u' → W p l e (rmk 1) s m av below meth cd H locs 0 0 (ZV wdM ev s below av u') (F0 m 366 ls [.int q0, .ref (ev.2.1 0)]) := by
    intro b10 b12 q0 u H locs ls hw hl hf
    unfold f_X10_work_L366 at hf
    obtain ⟨z, hf⟩ := it_none hf
    refine pM0_32 hc hw fl_X10_231 (bo_nar z) (bo_fit z) dX10_work_366 (fun H locs hw => ?_)
    obtain ⟨u11, eu11, hf⟩ := lt_some hf
    have hw := VW.nm eu11 hw
    refine lv_aload_n hx hb dX10_work_369 rfl (lv_at hl 0 rfl) ?_
    refine gM0_24 hc hw fl_X10_67 dX10_work_370 ?_
    refine lv_aload_n hx hb dX10_work_373 rfl (lv_at hl 0 rfl) ?_
    refine gM0_26 hc hw fl_X10_228 dX10_work_374 ?_
    refine lv_iconst (v := (1 : Int32)) hx hb dX10_work_377 (by decide) ?_
    refine lv_isub hx hb dX10_work_378 ?_
    refine lv_aload_n hx hb dX10_work_379 rfl (lv_at hl 0 rfl) ?_
    refine gM0_32 hc hw fl_X10_231 dX10_work_380 ?_
    refine lv_if_eq (tgt := 390) hx hb dX10_work_383 (by decide) (fun z => ?_) (fun z => ?_)
    · have hf := it_pos z hf
      refine lv_lload hx hb dX10_work_390 (lv_at hl 1 rfl) ?_
      exact wL392 b12 b10 ((gI u11 8) - (1 : Int32)) u11 H locs ls hw (lv_sub hl [0, 2] rfl) hf
    · have hf := it_neg z hf
      refine lv_lconst (v := (0 : Int64)) hx hb dX10_work_386 (by decide) ?_
      refine lv_goto (tgt := 392) hx hb dX10_work_387 (by decide) ?_
      exact wL392 b12 (0 : Int64) ((gI u11 8) - (1 : Int32)) u11 H locs ls hw (lv_sub hl [0, 2] rfl) hf
  have wL361 : ∀ (b10 : Int64) (b12 : Int64) (u : SS) (H : Heap) (locs : List Loc) (ls : Array Slot), VW wdM ev s u H locs → lv_has ls 16 [(0, .ref (ev.2.1 0)), (10, .long b10), (12, .long b12)] → f_X10_work_L361 b10 b12 u = some u' → W p l e (rmk 1) s m av below meth cd H locs 0 0 (ZV wdM ev s below av u') (F0 m 361 ls [.ref (ev.2.1 0)]) := by
    intro b10 b12 u H locs ls hw hl hf
    unfold f_X10_work_L361 at hf
    refine lv_iconst (v := (1 : Int32)) hx hb dX10_work_361 (by decide) ?_
    refine lv_goto (tgt := 366) hx hb dX10_work_362 (by decide) ?_
    exact wL366 b10 b12 (1 : Int32) u H locs ls hw (lv_sub hl [0, 1, 2] rfl) hf
  have wL303 : ∀ (b10 : Int64) (b12 : Int64) (u : SS) (H : Heap) (locs : List Loc) (ls : Array Slot), VW wdM ev s u H locs → lv_has ls 16 [(0, .ref (ev.2.1 0)), (10, .long b10), (12, .long b12)] → f_X10_work_L303 b10 b12 u = some u' → W p l e (rmk 1) s m av below meth cd H locs 0 0 (ZV wdM ev s below av u') (F0 m 303 ls []) := by
    intro b10 b12 u H locs ls hw hl hf
    unfold f_X10_work_L303 at hf
    refine lv_lload hx hb dX10_work_303 (lv_at hl 1 rfl) ?_
    refine lv_lload hx hb dX10_work_305 (lv_at hl 2 rfl) ?_
    obtain ⟨r8, u7, h6, hf⟩ := ob_some hf
    refine endL okM hw (runS_ok (As := [.long b10, .long b12]) (rest := []) okM hc hw (c_X10_divisor l ev b10 b12 u h6 H.size) ks_X10_divisor ml_X10_219 hl.1 rfl rfl (Nat.le_of_ble_eq_true rfl) (rm_le (by decide) (by decide)) dX10_work_307) (fun H locs hw => ?_)
    refine lv_lstore (lv' := [(14, .long r8), (0, .ref (ev.2.1 0)), (10, .long b10), (12, .long b12)]) hx hb dX10_work_310 hl (by decide) rfl (fun ls hl => ?_)
    refine lv_lload hx hb dX10_work_312 (lv_at hl 2 rfl) ?_
    refine lv_lload hx hb dX10_work_314 (lv_at hl 0 rfl) ?_
    obtain ⟨z, hf⟩ := it_none hf
    refine lv_ldiv hx hb dX10_work_316 z ?_
    obtain ⟨x9, ex9, hf⟩ := lt_some hf
    refine topel ex9 ?_
    refine lv_lstore (lv' := [(10, .long x9), (14, .long r8), (0, .ref (ev.2.1 0)), (12, .long b12)]) hx hb dX10_work_317 hl (by decide) rfl (fun ls hl => ?_)
    refine lv_lload hx hb dX10_work_319 (lv_at hl 3 rfl) ?_
    refine lv_lload hx hb dX10_work_321 (lv_at hl 1 rfl) ?_
    obtain ⟨z, hf⟩ := it_none hf
    refine lv_ldiv hx hb dX10_work_323 z ?_
    obtain ⟨x10, ex10, hf⟩ := lt_some hf
    refine topel ex10 ?_
    refine lv_lstore (lv' := [(12, .long x10), (10, .long x9), (14, .long r8), (0, .ref (ev.2.1 0))]) hx hb dX10_work_324 hl (by decide) rfl (fun ls hl => ?_)
    refine lv_aload_n hx hb dX10_work_326 rfl (lv_at hl 3 rfl) ?_
    refine lv_aload_n hx hb dX10_work_327 rfl (lv_at hl 3 rfl) ?_
    refine gM0_32 hc hw fl_X10_231 dX10_work_328 ?_
    refine lv_if_ne (tgt := 361) hx hb dX10_work_331 (by decide) (fun z => ?_) (fun z => ?_)
    · have hf := it_neg z hf
      exact wL361 x9 x10 u7 H locs ls hw (lv_sub hl [3, 1, 0] rfl) hf
    · have hf := it_pos z hf
      refine lv_lload hx hb dX10_work_334 (lv_at hl 1 rfl) ?_
      refine lv_ldc2 (v := (1000000000 : Int64)) hx hb hown (hts _ ct_X10_234) dX10_work_336 ?_
      refine W.lcmp hx hb dX10_work_339 ?_
      refine lv_if_gt (tgt := 361) hx hb dX10_work_340 (by decide) (fun z => ?_) (fun z => ?_)
      · have hf := it_pos z hf
        exact wL361 x9 x10 u7 H locs ls hw (lv_sub hl [3, 1, 0] rfl) hf
      · have hf := it_neg z hf
        refine lv_lload hx hb dX10_work_343 (lv_at hl 1 rfl) ?_
        refine lv_ldc2 (v := (-1000000000 : Int64)) hx hb hown (hts _ ct_X10_236) dX10_work_345 ?_
        refine W.lcmp hx hb dX10_work_348 ?_
        refine lv_if_lt (tgt := 361) hx hb dX10_work_349 (by decide) (fun z => ?_) (fun z => ?_)
        · have hf := it_pos z hf
          exact wL361 x9 x10 u7 H locs ls hw (lv_sub hl [3, 1, 0] rfl) hf
        · have hf := it_neg z hf
          refine lv_lload hx hb dX10_work_352 (lv_at hl 0 rfl) ?_
          refine lv_ldc2 (v := (1000000000 : Int64)) hx hb hown (hts _ ct_X10_234) dX10_work_354 ?_
          refine W.lcmp hx hb dX10_work_357 ?_
          refine lv_if_le (tgt := 365) hx hb dX10_work_358 (by decide) (fun z => ?_) (fun z => ?_)
          · have hf := it_pos z hf
            refine lv_iconst (v := (0 : Int32)) hx hb dX10_work_365 (by decide) ?_
            exact wL366 x9 x10 (0 : Int32) u7 H locs ls hw (lv_sub hl [3, 1, 0] rfl) hf
          · have hf := it_neg z hf
            exact wL361 x9 x10 u7 H locs ls hw (lv_sub hl [3, 1, 0] rfl) hf
  have wL151 : ∀ (b10 : Int64) (q0 : Int64) (u : SS) (H : Heap) (locs : List Loc) (ls : Array Slot), VW wdM ev s u H locs → lv_has ls 16 [(0, .ref (ev.2.1 0)), (10, .long b10)] → f_X10_work_L151 b10 q0 u = some u' → W p l e (rmk 1) s m av below meth cd H locs 0 0 (ZV wdM ev s below av u') (F0 m 151 ls [.long q0]) := by
    intro b10 q0 u H locs ls hw hl hf
    unfold f_X10_work_L151 at hf
    refine lv_lstore (lv' := [(12, .long q0), (0, .ref (ev.2.1 0)), (10, .long b10)]) hx hb dX10_work_151 hl (by decide) rfl (fun ls hl => ?_)
    refine lv_goto (tgt := 303) hx hb dX10_work_153 (by decide) ?_
    exact wL303 b10 q0 u H locs ls hw (lv_sub hl [1, 2, 0] rfl) hf
  have wL137 : ∀ (b4 : Int64) (b8 : Int64) (b14 : Int32) (q0 : Int64) (u : SS) (H : Heap) (locs : List Loc) (ls : Array Slot), VW wdM ev s u H locs → lv_has ls 16 [(0, .ref (ev.2.1 0)), (4, .long b4), (8, .long b8), (14, .int b14)] → f_X10_work_L137 b4 b8 b14 q0 u = some u' → W p l e (rmk 1) s m av below meth cd H locs 0 0 (ZV wdM ev s below av u') (F0 m 137 ls [.long q0]) := by
    intro b4 b8 b14 q0 u H locs ls hw hl hf
    unfold f_X10_work_L137 at hf
    refine lv_lstore (lv' := [(10, .long q0), (0, .ref (ev.2.1 0)), (4, .long b4), (8, .long b8), (14, .int b14)]) hx hb dX10_work_137 hl (by decide) rfl (fun ls hl => ?_)
    refine lv_iload hx hb dX10_work_139 (lv_at hl 4 rfl) ?_
    refine lv_if_eq (tgt := 149) hx hb dX10_work_141 (by decide) (fun z => ?_) (fun z => ?_)
    · have hf := it_pos z hf
      refine lv_lload hx hb dX10_work_149 (lv_at hl 3 rfl) ?_
      exact wL151 q0 b8 u H locs ls hw (lv_sub hl [1, 0] rfl) hf
    · have hf := it_neg z hf
      refine lv_lload hx hb dX10_work_144 (lv_at hl 2 rfl) ?_
      refine lv_goto (tgt := 151) hx hb dX10_work_146 (by decide) ?_
      exact wL151 q0 b4 u H locs ls hw (lv_sub hl [1, 0] rfl) hf
  have wL124 : ∀ (b2 : Int64) (b4 : Int64) (b6 : Int64) (b8 : Int64) (q0 : Int32) (u : SS) (H : Heap) (locs : List Loc) (ls : Array Slot), VW wdM ev s u H locs → lv_has ls 16 [(0, .ref (ev.2.1 0)), (2, .long b2), (4, .long b4), (6, .long b6), (8, .long b8)] → f_X10_work_L124 b2 b4 b6 b8 q0 u = some u' → W p l e (rmk 1) s m av below meth cd H locs 0 0 (ZV wdM ev s below av u') (F0 m 124 ls [.int q0]) := by
    intro b2 b4 b6 b8 q0 u H locs ls hw hl hf
    unfold f_X10_work_L124 at hf
    refine lv_istore (lv' := [(14, .int q0), (0, .ref (ev.2.1 0)), (2, .long b2), (4, .long b4), (6, .long b6), (8, .long b8)]) hx hb dX10_work_124 hl (by decide) rfl (fun ls hl => ?_)
    refine lv_iload hx hb dX10_work_126 (lv_at hl 0 rfl) ?_
    refine lv_if_eq (tgt := 135) hx hb dX10_work_128 (by decide) (fun z => ?_) (fun z => ?_)
    · have hf := it_pos z hf
      refine lv_lload hx hb dX10_work_135 (lv_at hl 4 rfl) ?_
      exact wL137 b4 b8 q0 b6 u H locs ls hw (lv_sub hl [1, 3, 5, 0] rfl) hf
    · have hf := it_neg z hf
      refine lv_lload_n hx hb dX10_work_131 rfl (lv_at hl 2 rfl) ?_
      refine lv_goto (tgt := 137) hx hb dX10_work_132 (by decide) ?_
      exact wL137 b4 b8 q0 b2 u H locs ls hw (lv_sub hl [1, 3, 5, 0] rfl) hf
  have wL79 : ∀ (b1 : Int32) (b2 : Int64) (b4 : Int64) (b6 : Int64) (b8 : Int64) (u : SS) (H : Heap) (locs : List Loc) (ls : Array Slot), VW wdM ev s u H locs → lv_has ls 16 [(0, .ref (ev.2.1 0)), (1, .int b1), (2, .long b2), (4, .long b4), (6, .long b6), (8, .long b8)] → f_X10_work_L79 b1 b2 b4 b6 b8 u = some u' → W p l e (rmk 1) s m av below meth cd H locs 0 0 (ZV wdM ev s below av u') (F0 m 79 ls []) := by
    intro b1 b2 b4 b6 b8 u H locs ls hw hl hf
    unfold f_X10_work_L79 at hf
    refine lv_iload_n hx hb dX10_work_79 rfl (lv_at hl 1 rfl) ?_
    refine lv_bipush (v := (60 : Int32)) hx hb dX10_work_80 (by decide) ?_
    refine lv_icmp_ne (tgt := 106) hx hb dX10_work_82 (by decide) (fun z => ?_) (fun z => ?_)
    · have hf := it_neg z hf
      refine lv_lload_n hx hb dX10_work_106 rfl (lv_at hl 2 rfl) ?_
      refine lv_lload hx hb dX10_work_107 (lv_at hl 5 rfl) ?_
      refine lv_lmul hx hb dX10_work_109 ?_
      refine lv_lload hx hb dX10_work_110 (lv_at hl 4 rfl) ?_
      refine lv_lload hx hb dX10_work_112 (lv_at hl 3 rfl) ?_
      refine lv_lmul hx hb dX10_work_114 ?_
      refine W.lcmp hx hb dX10_work_115 ?_
      refine lv_if_lt (tgt := 123) hx hb dX10_work_116 (by decide) (fun z => ?_) (fun z => ?_)
      · have hf := it_pos z hf
        refine lv_iconst (v := (0 : Int32)) hx hb dX10_work_123 (by decide) ?_
        exact wL124 b2 b4 b6 b8 (0 : Int32) u H locs ls hw (lv_sub hl [0, 2, 3, 4, 5] rfl) hf
      · have hf := it_neg z hf
        refine lv_iconst (v := (1 : Int32)) hx hb dX10_work_119 (by decide) ?_
        refine lv_goto (tgt := 124) hx hb dX10_work_120 (by decide) ?_
        exact wL124 b2 b4 b6 b8 (1 : Int32) u H locs ls hw (lv_sub hl [0, 2, 3, 4, 5] rfl) hf
    · have hf := it_pos z hf
      refine lv_lload_n hx hb dX10_work_85 rfl (lv_at hl 2 rfl) ?_
      refine lv_lload hx hb dX10_work_86 (lv_at hl 5 rfl) ?_
      refine lv_lmul hx hb dX10_work_88 ?_
      refine lv_lload hx hb dX10_work_89 (lv_at hl 4 rfl) ?_
      refine lv_lload hx hb dX10_work_91 (lv_at hl 3 rfl) ?_
      refine lv_lmul hx hb dX10_work_93 ?_
      refine W.lcmp hx hb dX10_work_94 ?_
      refine lv_if_gt (tgt := 102) hx hb dX10_work_95 (by decide) (fun z => ?_) (fun z => ?_)
      · have hf := it_pos z hf
        refine lv_iconst (v := (0 : Int32)) hx hb dX10_work_102 (by decide) ?_
        refine lv_goto (tgt := 124) hx hb dX10_work_103 (by decide) ?_
        exact wL124 b2 b4 b6 b8 (0 : Int32) u H locs ls hw (lv_sub hl [0, 2, 3, 4, 5] rfl) hf
      · have hf := it_neg z hf
        refine lv_iconst (v := (1 : Int32)) hx hb dX10_work_98 (by decide) ?_
        refine lv_goto (tgt := 124) hx hb dX10_work_99 (by decide) ?_
        exact wL124 b2 b4 b6 b8 (1 : Int32) u H locs ls hw (lv_sub hl [0, 2, 3, 4, 5] rfl) hf
  have wL294 : ∀ (b4 : Int64) (b8 : Int64) (q0 : Int64) (u : SS) (H : Heap) (locs : List Loc) (ls : Array Slot), VW wdM ev s u H locs → lv_has ls 16 [(0, .ref (ev.2.1 0)), (4, .long b4), (8, .long b8)] → f_X10_work_L294 b4 b8 q0 u = some u' → W p l e (rmk 1) s m av below meth cd H locs 0 0 (ZV wdM ev s below av u') (F0 m 294 ls [.long q0]) := by
    intro b4 b8 q0 u H locs ls hw hl hf
    unfold f_X10_work_L294 at hf
    refine lv_lstore (lv' := [(10, .long q0), (0, .ref (ev.2.1 0)), (4, .long b4), (8, .long b8)]) hx hb dX10_work_294 hl (by decide) rfl (fun ls hl => ?_)
    refine lv_lload hx hb dX10_work_296 (lv_at hl 2 rfl) ?_
    refine lv_lload hx hb dX10_work_298 (lv_at hl 3 rfl) ?_
    refine lv_lmul hx hb dX10_work_300 ?_
    obtain ⟨x15, ex15, hf⟩ := lt_some hf
    refine topel ex15 ?_
    refine lv_lstore (lv' := [(12, .long x15), (10, .long q0), (0, .ref (ev.2.1 0)), (4, .long b4), (8, .long b8)]) hx hb dX10_work_301 hl (by decide) rfl (fun ls hl => ?_)
    exact wL303 q0 x15 u H locs ls hw (lv_sub hl [2, 1, 0] rfl) hf
  have wL260 : ∀ (b10 : Int64) (q0 : Int64) (u : SS) (H : Heap) (locs : List Loc) (ls : Array Slot), VW wdM ev s u H locs → lv_has ls 16 [(0, .ref (ev.2.1 0)), (10, .long b10)] → f_X10_work_L260 b10 q0 u = some u' → W p l e (rmk 1) s m av below meth cd H locs 0 0 (ZV wdM ev s below av u') (F0 m 260 ls [.long q0]) := by
    intro b10 q0 u H locs ls hw hl hf
    unfold f_X10_work_L260 at hf
    refine lv_lstore (lv' := [(12, .long q0), (0, .ref (ev.2.1 0)), (10, .long b10)]) hx hb dX10_work_260 hl (by decide) rfl (fun ls hl => ?_)
    refine lv_goto (tgt := 303) hx hb dX10_work_262 (by decide) ?_
    exact wL303 b10 q0 u H locs ls hw (lv_sub hl [1, 2, 0] rfl) hf
  have wL226 : ∀ (b4 : Int64) (b6 : Int64) (q0 : Int64) (u : SS) (H : Heap) (locs : List Loc) (ls : Array Slot), VW wdM ev s u H locs → lv_has ls 16 [(0, .ref (ev.2.1 0)), (4, .long b4), (6, .long b6)] → f_X10_work_L226 b4 b6 q0 u = some u' → W p l e (rmk 1) s m av below meth cd H locs 0 0 (ZV wdM ev s below av u') (F0 m 226 ls [.long q0]) := by
    intro b4 b6 q0 u H locs ls hw hl hf
    unfold f_X10_work_L226 at hf
    refine lv_lstore (lv' := [(10, .long q0), (0, .ref (ev.2.1 0)), (4, .long b4), (6, .long b6)]) hx hb dX10_work_226 hl (by decide) rfl (fun ls hl => ?_)
    refine lv_lload hx hb dX10_work_228 (lv_at hl 3 rfl) ?_
    refine lv_lconst (v := (0 : Int64)) hx hb dX10_work_230 (by decide) ?_
    refine W.lcmp hx hb dX10_work_231 ?_
    refine lv_if_ne (tgt := 239) hx hb dX10_work_232 (by decide) (fun z => ?_) (fun z => ?_)
    · have hf := it_neg z hf
      refine lv_lload hx hb dX10_work_239 (lv_at hl 3 rfl) ?_
      refine lv_lconst (v := (0 : Int64)) hx hb dX10_work_241 (by decide) ?_
      refine W.lcmp hx hb dX10_work_242 ?_
      refine lv_if_ge (tgt := 255) hx hb dX10_work_243 (by decide) (fun z => ?_) (fun z => ?_)
      · have hf := it_pos z hf
        refine lv_lload hx hb dX10_work_255 (lv_at hl 2 rfl) ?_
        refine lv_lload hx hb dX10_work_257 (lv_at hl 3 rfl) ?_
        refine lv_lmul hx hb dX10_work_259 ?_
        exact wL260 q0 (b4 * b6) u H locs ls hw (lv_sub hl [1, 0] rfl) hf
      · have hf := it_neg z hf
        refine lv_lload hx hb dX10_work_246 (lv_at hl 2 rfl) ?_
        refine lv_lneg hx hb dX10_work_248 ?_
        refine lv_lload hx hb dX10_work_249 (lv_at hl 3 rfl) ?_
        refine lv_lmul hx hb dX10_work_251 ?_
        refine lv_goto (tgt := 260) hx hb dX10_work_252 (by decide) ?_
        exact wL260 q0 ((-b4) * b6) u H locs ls hw (lv_sub hl [1, 0] rfl) hf
    · have hf := it_pos z hf
      refine lv_lconst (v := (1 : Int64)) hx hb dX10_work_235 (by decide) ?_
      refine lv_goto (tgt := 260) hx hb dX10_work_236 (by decide) ?_
      exact wL260 q0 (1 : Int64) u H locs ls hw (lv_sub hl [1, 0] rfl) hf
  have wL204 : ∀ (b2 : Int64) (b4 : Int64) (b6 : Int64) (b8 : Int64) (q0 : Int32) (u : SS) (H : Heap) (locs : List Loc) (ls : Array Slot), VW wdM ev s u H locs → lv_has ls 16 [(0, .ref (ev.2.1 0)), (2, .long b2), (4, .long b4), (6, .long b6), (8, .long b8)] → f_X10_work_L204 b2 b4 b6 b8 q0 u = some u' → W p l e (rmk 1) s m av below meth cd H locs 0 0 (ZV wdM ev s below av u') (F0 m 204 ls [.int q0, .ref (ev.2.1 0)]) := by
    intro b2 b4 b6 b8 q0 u H locs ls hw hl hf
    unfold f_X10_work_L204 at hf
    obtain ⟨z, hf⟩ := it_none hf
    refine pM0_32 hc hw fl_X10_231 (bo_nar z) (bo_fit z) dX10_work_204 (fun H locs hw => ?_)
    obtain ⟨u16, eu16, hf⟩ := lt_some hf
    have hw := VW.nm eu16 hw
    refine lv_lload hx hb dX10_work_207 (lv_at hl 3 rfl) ?_
    refine lv_lconst (v := (0 : Int64)) hx hb dX10_work_209 (by decide) ?_
    refine W.lcmp hx hb dX10_work_210 ?_
    refine lv_if_ge (tgt := 222) hx hb dX10_work_211 (by decide) (fun z => ?_) (fun z => ?_)
    · have hf := it_pos z hf
      refine lv_lload_n hx hb dX10_work_222 rfl (lv_at hl 1 rfl) ?_
      refine lv_lload hx hb dX10_work_223 (lv_at hl 4 rfl) ?_
      refine lv_lmul hx hb dX10_work_225 ?_
      exact wL226 b4 b6 (b2 * b8) u16 H locs ls hw (lv_sub hl [0, 2, 3] rfl) hf
    · have hf := it_neg z hf
      refine lv_lload_n hx hb dX10_work_214 rfl (lv_at hl 1 rfl) ?_
      refine lv_lneg hx hb dX10_work_215 ?_
      refine lv_lload hx hb dX10_work_216 (lv_at hl 4 rfl) ?_
      refine lv_lmul hx hb dX10_work_218 ?_
      refine lv_goto (tgt := 226) hx hb dX10_work_219 (by decide) ?_
      exact wL226 b4 b6 ((-b2) * b8) u16 H locs ls hw (lv_sub hl [0, 2, 3] rfl) hf
  have wL199 : ∀ (b2 : Int64) (b4 : Int64) (b6 : Int64) (b8 : Int64) (u : SS) (H : Heap) (locs : List Loc) (ls : Array Slot), VW wdM ev s u H locs → lv_has ls 16 [(0, .ref (ev.2.1 0)), (2, .long b2), (4, .long b4), (6, .long b6), (8, .long b8)] → f_X10_work_L199 b2 b4 b6 b8 u = some u' → W p l e (rmk 1) s m av below meth cd H locs 0 0 (ZV wdM ev s below av u') (F0 m 199 ls [.ref (ev.2.1 0)]) := by
    intro b2 b4 b6 b8 u H locs ls hw hl hf
    unfold f_X10_work_L199 at hf
    refine lv_iconst (v := (1 : Int32)) hx hb dX10_work_199 (by decide) ?_
    refine lv_goto (tgt := 204) hx hb dX10_work_200 (by decide) ?_
    exact wL204 b2 b4 b6 b8 (1 : Int32) u H locs ls hw (lv_sub hl [0, 1, 2, 3, 4] rfl) hf
  unfold f_X10_work at hf
  refine lv_aload_n hx hb dX10_work_0 rfl (lv_at hl 0 rfl) ?_
  refine gM0_24 hc hw fl_X10_67 dX10_work_1 ?_
  refine lv_aload_n hx hb dX10_work_4 rfl (lv_at hl 0 rfl) ?_
  refine gM0_26 hc hw fl_X10_228 dX10_work_5 ?_
  refine lv_iconst (v := (2 : Int32)) hx hb dX10_work_8 (by decide) ?_
  refine lv_isub hx hb dX10_work_9 ?_
  obtain ⟨z, hf⟩ := oi_some hf
  refine aM17 hc hw z dX10_work_10 ?_
  obtain ⟨x1, ex1, hf⟩ := lt_some hf
  refine topel ex1 ?_
  refine lv_lstore_n (lv' := [(2, .long x1), (0, .ref (ev.2.1 0)), (1, .int a1)]) hx hb dX10_work_11 rfl hl (by decide) rfl (fun ls hl => ?_)
  refine lv_aload_n hx hb dX10_work_12 rfl (lv_at hl 1 rfl) ?_
  refine gM0_25 hc hw fl_X10_70 dX10_work_13 ?_
  refine lv_aload_n hx hb dX10_work_16 rfl (lv_at hl 1 rfl) ?_
  refine gM0_26 hc hw fl_X10_228 dX10_work_17 ?_
  refine lv_iconst (v := (2 : Int32)) hx hb dX10_work_20 (by decide) ?_
  refine lv_isub hx hb dX10_work_21 ?_
  obtain ⟨z, hf⟩ := oi_some hf
  refine aM18 hc hw z dX10_work_22 ?_
  obtain ⟨x2, ex2, hf⟩ := lt_some hf
  refine topel ex2 ?_
  refine lv_lstore (lv' := [(4, .long x2), (2, .long x1), (0, .ref (ev.2.1 0)), (1, .int a1)]) hx hb dX10_work_23 hl (by decide) rfl (fun ls hl => ?_)
  refine lv_aload_n hx hb dX10_work_25 rfl (lv_at hl 2 rfl) ?_
  refine gM0_24 hc hw fl_X10_67 dX10_work_26 ?_
  refine lv_aload_n hx hb dX10_work_29 rfl (lv_at hl 2 rfl) ?_
  refine gM0_26 hc hw fl_X10_228 dX10_work_30 ?_
  refine lv_iconst (v := (1 : Int32)) hx hb dX10_work_33 (by decide) ?_
  refine lv_isub hx hb dX10_work_34 ?_
  obtain ⟨z, hf⟩ := oi_some hf
  refine aM17 hc hw z dX10_work_35 ?_
  obtain ⟨x3, ex3, hf⟩ := lt_some hf
  refine topel ex3 ?_
  refine lv_lstore (lv' := [(6, .long x3), (4, .long x2), (2, .long x1), (0, .ref (ev.2.1 0)), (1, .int a1)]) hx hb dX10_work_36 hl (by decide) rfl (fun ls hl => ?_)
  refine lv_aload_n hx hb dX10_work_38 rfl (lv_at hl 3 rfl) ?_
  refine gM0_25 hc hw fl_X10_70 dX10_work_39 ?_
  refine lv_aload_n hx hb dX10_work_42 rfl (lv_at hl 3 rfl) ?_
  refine gM0_26 hc hw fl_X10_228 dX10_work_43 ?_
  refine lv_iconst (v := (1 : Int32)) hx hb dX10_work_46 (by decide) ?_
  refine lv_isub hx hb dX10_work_47 ?_
  obtain ⟨z, hf⟩ := oi_some hf
  refine aM18 hc hw z dX10_work_48 ?_
  obtain ⟨x4, ex4, hf⟩ := lt_some hf
  refine topel ex4 ?_
  refine lv_lstore (lv' := [(8, .long x4), (6, .long x3), (4, .long x2), (2, .long x1), (0, .ref (ev.2.1 0)), (1, .int a1)]) hx hb dX10_work_49 hl (by decide) rfl (fun ls hl => ?_)
  refine lv_aload_n hx hb dX10_work_51 rfl (lv_at hl 4 rfl) ?_
  refine lv_dup hx hb dX10_work_52 rfl ?_
  refine gM0_26 hc hw fl_X10_228 dX10_work_53 ?_
  refine lv_iconst (v := (1 : Int32)) hx hb dX10_work_56 (by decide) ?_
  refine lv_isub hx hb dX10_work_57 ?_
  refine pM0_26 hc hw fl_X10_228 dX10_work_58 (fun H locs hw => ?_)
  obtain ⟨u5, eu5, hf⟩ := lt_some hf
  have hw := VW.nm eu5 hw
  refine lv_lconst (v := (0 : Int64)) hx hb dX10_work_61 (by decide) ?_
  refine lv_lstore (lv' := [(10, .long (0 : Int64)), (8, .long x4), (6, .long x3), (4, .long x2), (2, .long x1), (0, .ref (ev.2.1 0)), (1, .int a1)]) hx hb dX10_work_62 hl (by decide) rfl (fun ls hl => ?_)
  refine lv_lconst (v := (1 : Int64)) hx hb dX10_work_64 (by decide) ?_
  refine lv_lstore (lv' := [(12, .long (1 : Int64)), (10, .long (0 : Int64)), (8, .long x4), (6, .long x3), (4, .long x2), (2, .long x1), (0, .ref (ev.2.1 0)), (1, .int a1)]) hx hb dX10_work_65 hl (by decide) rfl (fun ls hl => ?_)
  refine lv_iload_n hx hb dX10_work_67 rfl (lv_at hl 7 rfl) ?_
  refine lv_bipush (v := (60 : Int32)) hx hb dX10_work_68 (by decide) ?_
  refine lv_icmp_eq (tgt := 79) hx hb dX10_work_70 (by decide) (fun z => ?_) (fun z => ?_)
  · have hf := it_pos z hf
    exact wL79 a1 x1 x2 x3 x4 u5 H locs ls hw (lv_sub hl [6, 7, 5, 4, 3, 2] rfl) hf
  · have hf := it_neg z hf
    refine lv_iload_n hx hb dX10_work_73 rfl (lv_at hl 7 rfl) ?_
    refine lv_bipush (v := (62 : Int32)) hx hb dX10_work_74 (by decide) ?_
    refine lv_icmp_ne (tgt := 156) hx hb dX10_work_76 (by decide) (fun z => ?_) (fun z => ?_)
    · have hf := it_neg z hf
      refine lv_iload_n hx hb dX10_work_156 rfl (lv_at hl 7 rfl) ?_
      refine lv_bipush (v := (42 : Int32)) hx hb dX10_work_157 (by decide) ?_
      refine lv_icmp_ne (tgt := 178) hx hb dX10_work_159 (by decide) (fun z => ?_) (fun z => ?_)
      · have hf := it_neg z hf
        refine lv_iload_n hx hb dX10_work_178 rfl (lv_at hl 7 rfl) ?_
        refine lv_bipush (v := (47 : Int32)) hx hb dX10_work_179 (by decide) ?_
        refine lv_icmp_ne (tgt := 265) hx hb dX10_work_181 (by decide) (fun z => ?_) (fun z => ?_)
        · have hf := it_neg z hf
          refine lv_iload_n hx hb dX10_work_265 rfl (lv_at hl 7 rfl) ?_
          refine lv_bipush (v := (43 : Int32)) hx hb dX10_work_266 (by decide) ?_
          refine lv_icmp_ne (tgt := 284) hx hb dX10_work_268 (by decide) (fun z => ?_) (fun z => ?_)
          · have hf := it_neg z hf
            refine lv_lload_n hx hb dX10_work_284 rfl (lv_at hl 5 rfl) ?_
            refine lv_lload hx hb dX10_work_285 (lv_at hl 2 rfl) ?_
            refine lv_lmul hx hb dX10_work_287 ?_
            refine lv_lload hx hb dX10_work_288 (lv_at hl 3 rfl) ?_
            refine lv_lload hx hb dX10_work_290 (lv_at hl 4 rfl) ?_
            refine lv_lmul hx hb dX10_work_292 ?_
            refine lv_lsub hx hb dX10_work_293 ?_
            exact wL294 x2 x4 ((x1 * x4) - (x3 * x2)) u5 H locs ls hw (lv_sub hl [6, 4, 2] rfl) hf
          · have hf := it_pos z hf
            refine lv_lload_n hx hb dX10_work_271 rfl (lv_at hl 5 rfl) ?_
            refine lv_lload hx hb dX10_work_272 (lv_at hl 2 rfl) ?_
            refine lv_lmul hx hb dX10_work_274 ?_
            refine lv_lload hx hb dX10_work_275 (lv_at hl 3 rfl) ?_
            refine lv_lload hx hb dX10_work_277 (lv_at hl 4 rfl) ?_
            refine lv_lmul hx hb dX10_work_279 ?_
            refine lv_ladd hx hb dX10_work_280 ?_
            refine lv_goto (tgt := 294) hx hb dX10_work_281 (by decide) ?_
            exact wL294 x2 x4 ((x1 * x4) + (x3 * x2)) u5 H locs ls hw (lv_sub hl [6, 4, 2] rfl) hf
        · have hf := it_pos z hf
          refine lv_aload_n hx hb dX10_work_184 rfl (lv_at hl 6 rfl) ?_
          refine lv_aload_n hx hb dX10_work_185 rfl (lv_at hl 6 rfl) ?_
          refine gM0_32 hc hw fl_X10_231 dX10_work_186 ?_
          refine lv_if_ne (tgt := 199) hx hb dX10_work_189 (by decide) (fun z => ?_) (fun z => ?_)
          · have hf := it_neg z hf
            exact wL199 x1 x2 x3 x4 u5 H locs ls hw (lv_sub hl [6, 5, 4, 3, 2] rfl) hf
          · have hf := it_pos z hf
            refine lv_lload hx hb dX10_work_192 (lv_at hl 3 rfl) ?_
            refine lv_lconst (v := (0 : Int64)) hx hb dX10_work_194 (by decide) ?_
            refine W.lcmp hx hb dX10_work_195 ?_
            refine lv_if_ne (tgt := 203) hx hb dX10_work_196 (by decide) (fun z => ?_) (fun z => ?_)
            · have hf := it_neg z hf
              refine lv_iconst (v := (0 : Int32)) hx hb dX10_work_203 (by decide) ?_
              exact wL204 x1 x2 x3 x4 (0 : Int32) u5 H locs ls hw (lv_sub hl [6, 5, 4, 3, 2] rfl) hf
            · have hf := it_pos z hf
              exact wL199 x1 x2 x3 x4 u5 H locs ls hw (lv_sub hl [6, 5, 4, 3, 2] rfl) hf
      · have hf := it_pos z hf
        refine lv_lload_n hx hb dX10_work_162 rfl (lv_at hl 5 rfl) ?_
        refine lv_lload hx hb dX10_work_163 (lv_at hl 3 rfl) ?_
        refine lv_lmul hx hb dX10_work_165 ?_
        obtain ⟨x17, ex17, hf⟩ := lt_some hf
        refine topel ex17 ?_
        refine lv_lstore (lv' := [(10, .long x17), (12, .long (1 : Int64)), (8, .long x4), (6, .long x3), (4, .long x2), (2, .long x1), (0, .ref (ev.2.1 0)), (1, .int a1)]) hx hb dX10_work_166 hl (by decide) rfl (fun ls hl => ?_)
        refine lv_lload hx hb dX10_work_168 (lv_at hl 4 rfl) ?_
        refine lv_lload hx hb dX10_work_170 (lv_at hl 2 rfl) ?_
        refine lv_lmul hx hb dX10_work_172 ?_
        obtain ⟨x18, ex18, hf⟩ := lt_some hf
        refine topel ex18 ?_
        refine lv_lstore (lv' := [(12, .long x18), (10, .long x17), (8, .long x4), (6, .long x3), (4, .long x2), (2, .long x1), (0, .ref (ev.2.1 0)), (1, .int a1)]) hx hb dX10_work_173 hl (by decide) rfl (fun ls hl => ?_)
        refine lv_goto (tgt := 303) hx hb dX10_work_175 (by decide) ?_
        exact wL303 x17 x18 u5 H locs ls hw (lv_sub hl [6, 1, 0] rfl) hf
    · have hf := it_pos z hf
      exact wL79 a1 x1 x2 x3 x4 u5 H locs ls hw (lv_sub hl [6, 7, 5, 4, 3, 2] rfl) hf
def f_X10_topSign (u : SS) : Option (Int32 × SS) :=
  if (gI u 9) = 0 then (some ((0 : Int32), u)) else (oi ((gI u 9) - (1 : Int32)) 100 (some ((gA u 14 ((gI u 9) - (1 : Int32)).toNatClampNeg), u)))
set_option maxHeartbeats 4000000 in
set_option maxRecDepth 100000 in
theorem c_X10_topSign (l : Launch) (ev : EV) (u : SS) {r : Int32} {u' : SS} (hf : f_X10_topSign  u = some (r, u')) : MI wdM l yX10_topSign cX10_topSign 1 (some .int) 0 ev [.ref (ev.2.1 0)] u r u' := by
  refine bodyI (by decide +kernel) rfl (Nat.le_of_ble_eq_true rfl) ?_
  intro p e s m below meth cd ls H locs hc hr hlk hw hl
  generalize hav : (List.toArray [.ref (ev.2.1 0)] : Array Value) = av at hc ⊢
  obtain ⟨hx, hb, hml, hown, hts, hK, hZ⟩ := id hc
  have hl : lv_has ls 1 [(0, .ref (ev.2.1 0))] := hl
  unfold f_X10_topSign at hf
  refine lv_aload_n hx hb dX10_topSign_0 rfl (lv_at hl 0 rfl) ?_
  refine gM0_28 hc hw fl_X10_238 dX10_topSign_1 ?_
  refine lv_if_ne (tgt := 11) hx hb dX10_topSign_4 (by decide) (fun z => ?_) (fun z => ?_)
  · have hf := it_neg z hf
    refine lv_aload_n hx hb dX10_topSign_11 rfl (lv_at hl 0 rfl) ?_
    refine gM0_27 hc hw fl_X10_73 dX10_topSign_12 ?_
    refine lv_aload_n hx hb dX10_topSign_15 rfl (lv_at hl 0 rfl) ?_
    refine gM0_28 hc hw fl_X10_238 dX10_topSign_16 ?_
    refine lv_iconst (v := (1 : Int32)) hx hb dX10_topSign_19 (by decide) ?_
    refine lv_isub hx hb dX10_topSign_20 ?_
    obtain ⟨z, hf⟩ := oi_some hf
    refine aM19 hc hw z dX10_topSign_21 ?_
    exact retI hc hr hlk hw hf dX10_topSign_22
  · have hf := it_pos z hf
    refine lv_iconst (v := (0 : Int32)) hx hb dX10_topSign_7 (by decide) ?_
    refine lv_goto (tgt := 22) hx hb dX10_topSign_8 (by decide) ?_
    exact retI hc hr hlk hw hf dX10_topSign_22
def f_X10_settle_L40 (k0 : Int32 → SS → Option SS) (b1 : Int32) (u : SS) : Option SS :=
  ob (f_X10_topSign u) fun r6 u5 => ov (f_X10_work r6 u5) fun u8 => lt (sI u8 9 ((gI u8 9) - (1 : Int32))) fun u9 => k0 b1 u9
def b_X10_settle_L0 (k0 : Int32 → SS → Option SS) (b1 : Int32) (u : SS) : Option SS :=
  ob (f_X10_topSign u) fun r3 u2 => if r3 = (42 : Int32) then (f_X10_settle_L40 k0 b1 u2) else (ob (f_X10_topSign u2) fun r12 u11 => if r12 = (47 : Int32) then (f_X10_settle_L40 k0 b1 u11) else (if b1 = 0 then (some u11) else (ob (f_X10_topSign u11) fun r15 u14 => if r15 = (43 : Int32) then (f_X10_settle_L40 k0 b1 u14) else (ob (f_X10_topSign u14) fun r18 u17 => if r18 = (45 : Int32) then (f_X10_settle_L40 k0 b1 u17) else (some u17)))))
def f_X10_settle_L0 : Nat → Int32 → SS → Option SS
  | 0 => fun _ _ => none
  | n + 1 => b_X10_settle_L0 (f_X10_settle_L0 n)
def f_X10_settle (a1 : Int32) (u : SS) : Option SS :=
  f_X10_settle_L0 FU a1 u
set_option maxHeartbeats 4000000 in
set_option maxRecDepth 100000 in
theorem c_X10_settle (l : Launch) (ev : EV) (a1 : Int32) (u : SS) {u' : SS} (hf : f_X10_settle a1 u = some u') : MV wdM l yX10_settle cX10_settle 2 none 2 ev [.ref (ev.2.1 0), .int a1] u u' := by
  refine bodyV (by decide +kernel) rfl (Nat.le_of_ble_eq_true rfl) ?_
  intro p e s m below meth cd ls H locs hc hr hlk hw hl
  generalize hav : (List.toArray [.ref (ev.2.1 0), .int a1] : Array Value) = av at hc ⊢
  obtain ⟨hx, hb, hml, hown, hts, hK, hZ⟩ := id hc
  have hl : lv_has ls 2 [(0, .ref (ev.2.1 0)), (1, .int a1)] := hl
  have wL40 : ∀ (k0 : Int32 → SS → Option SS) (hk0 : ∀ (b1 : Int32) (u : SS) (H : Heap) (locs : List Loc) (ls : Array Slot), VW wdM ev s u H locs → lv_has ls 2 [(0, .ref (ev.2.1 0)), (1, .int b1)] → k0 b1 u = some u' → W p l e (rmk 2) s m av below meth cd H locs 0 0 (ZV wdM ev s below av u') (F0 m 0 ls [])) (b1 : Int32) (u : SS) (H : Heap) (locs : List Loc) (ls : Array Slot), VW wdM ev s u H locs → lv_has ls 2 [(0, .ref (ev.2.1 0)), (1, .int b1)] → f_X10_settle_L40 k0 b1 u = some u' → W p l e (rmk 2) s m av below meth cd H locs 0 0 (ZV wdM ev s below av u') (F0 m 40 ls []) := by
    intro k0 hk0 b1 u H locs ls hw hl hf
    unfold f_X10_settle_L40 at hf
    refine lv_aload_n hx hb dX10_settle_40 rfl (lv_at hl 0 rfl) ?_
    refine lv_aload_n hx hb dX10_settle_41 rfl (lv_at hl 0 rfl) ?_
    obtain ⟨r6, u5, h4, hf⟩ := ob_some hf
    refine endI okM hw (runV_ok (As := []) (rest := [.ref (ev.2.1 0)]) okM hc hw (c_X10_topSign l ev u h4 H.size) kv_X10_topSign ml_X10_241 (rvM0 ev u) hl.1 rfl rfl (Nat.le_of_ble_eq_true rfl) (rm_le (by decide) (by decide)) dX10_settle_42) (fun H locs hw => ?_)
    obtain ⟨u8, h7, hf⟩ := ov_some hf
    refine endV okM hw (runV_ok (As := [.int r6]) (rest := []) okM hc hw (c_X10_work l ev r6 u5 h7 H.size) kv_X10_work ml_X10_245 (rvM0 ev u5) hl.1 rfl rfl (Nat.le_of_ble_eq_true rfl) (rm_le (by decide) (by decide)) dX10_settle_45) (fun H locs hw => ?_)
    refine lv_aload_n hx hb dX10_settle_48 rfl (lv_at hl 0 rfl) ?_
    refine lv_dup hx hb dX10_settle_49 rfl ?_
    refine gM0_28 hc hw fl_X10_238 dX10_settle_50 ?_
    refine lv_iconst (v := (1 : Int32)) hx hb dX10_settle_53 (by decide) ?_
    refine lv_isub hx hb dX10_settle_54 ?_
    refine pM0_28 hc hw fl_X10_238 dX10_settle_55 (fun H locs hw => ?_)
    obtain ⟨u9, eu9, hf⟩ := lt_some hf
    have hw := VW.nm eu9 hw
    refine lv_goto (tgt := 0) hx hb dX10_settle_58 (by decide) ?_
    exact hk0 b1 u9 H locs ls hw (lv_sub hl [0, 1] rfl) hf
  have wL0 : ∀ (n : Nat) (b1 : Int32) (u : SS) (H : Heap) (locs : List Loc) (ls : Array Slot), VW wdM ev s u H locs → lv_has ls 2 [(0, .ref (ev.2.1 0)), (1, .int b1)] → f_X10_settle_L0 n b1 u = some u' → W p l e (rmk 2) s m av below meth cd H locs 0 0 (ZV wdM ev s below av u') (F0 m 0 ls []) := by
    intro n
    induction n with
    | zero =>
      intro b1 u H locs ls hw hl hf
      cases hf
    | succ n hk0 =>
      intro b1 u H locs ls hw hl hf
      have hf : b_X10_settle_L0 (f_X10_settle_L0 n) b1 u = some u' := hf
      unfold b_X10_settle_L0 at hf
      refine lv_aload_n hx hb dX10_settle_0 rfl (lv_at hl 0 rfl) ?_
      obtain ⟨r3, u2, h1, hf⟩ := ob_some hf
      refine endI okM hw (runV_ok (As := []) (rest := []) okM hc hw (c_X10_topSign l ev u h1 H.size) kv_X10_topSign ml_X10_241 (rvM0 ev u) hl.1 rfl rfl (Nat.le_of_ble_eq_true rfl) (rm_le (by decide) (by decide)) dX10_settle_1) (fun H locs hw => ?_)
      refine lv_bipush (v := (42 : Int32)) hx hb dX10_settle_4 (by decide) ?_
      refine lv_icmp_eq (tgt := 40) hx hb dX10_settle_6 (by decide) (fun z => ?_) (fun z => ?_)
      · have hf := it_pos z hf
        exact wL40 (f_X10_settle_L0 n) hk0 b1 u2 H locs ls hw (lv_sub hl [0, 1] rfl) hf
      · have hf := it_neg z hf
        refine lv_aload_n hx hb dX10_settle_9 rfl (lv_at hl 0 rfl) ?_
        obtain ⟨r12, u11, h10, hf⟩ := ob_some hf
        refine endI okM hw (runV_ok (As := []) (rest := []) okM hc hw (c_X10_topSign l ev u2 h10 H.size) kv_X10_topSign ml_X10_241 (rvM0 ev u2) hl.1 rfl rfl (Nat.le_of_ble_eq_true rfl) (rm_le (by decide) (by decide)) dX10_settle_10) (fun H locs hw => ?_)
        refine lv_bipush (v := (47 : Int32)) hx hb dX10_settle_13 (by decide) ?_
        refine lv_icmp_eq (tgt := 40) hx hb dX10_settle_15 (by decide) (fun z => ?_) (fun z => ?_)
        · have hf := it_pos z hf
          exact wL40 (f_X10_settle_L0 n) hk0 b1 u11 H locs ls hw (lv_sub hl [0, 1] rfl) hf
        · have hf := it_neg z hf
          refine lv_iload_n hx hb dX10_settle_18 rfl (lv_at hl 1 rfl) ?_
          refine lv_if_eq (tgt := 61) hx hb dX10_settle_19 (by decide) (fun z => ?_) (fun z => ?_)
          · have hf := it_pos z hf
            exact retV hc hr hlk hw hf dX10_settle_61
          · have hf := it_neg z hf
            refine lv_aload_n hx hb dX10_settle_22 rfl (lv_at hl 0 rfl) ?_
            obtain ⟨r15, u14, h13, hf⟩ := ob_some hf
            refine endI okM hw (runV_ok (As := []) (rest := []) okM hc hw (c_X10_topSign l ev u11 h13 H.size) kv_X10_topSign ml_X10_241 (rvM0 ev u11) hl.1 rfl rfl (Nat.le_of_ble_eq_true rfl) (rm_le (by decide) (by decide)) dX10_settle_23) (fun H locs hw => ?_)
            refine lv_bipush (v := (43 : Int32)) hx hb dX10_settle_26 (by decide) ?_
            refine lv_icmp_eq (tgt := 40) hx hb dX10_settle_28 (by decide) (fun z => ?_) (fun z => ?_)
            · have hf := it_pos z hf
              exact wL40 (f_X10_settle_L0 n) hk0 b1 u14 H locs ls hw (lv_sub hl [0, 1] rfl) hf
            · have hf := it_neg z hf
              refine lv_aload_n hx hb dX10_settle_31 rfl (lv_at hl 0 rfl) ?_
              obtain ⟨r18, u17, h16, hf⟩ := ob_some hf
              refine endI okM hw (runV_ok (As := []) (rest := []) okM hc hw (c_X10_topSign l ev u14 h16 H.size) kv_X10_topSign ml_X10_241 (rvM0 ev u14) hl.1 rfl rfl (Nat.le_of_ble_eq_true rfl) (rm_le (by decide) (by decide)) dX10_settle_32) (fun H locs hw => ?_)
              refine lv_bipush (v := (45 : Int32)) hx hb dX10_settle_35 (by decide) ?_
              refine lv_icmp_ne (tgt := 61) hx hb dX10_settle_37 (by decide) (fun z => ?_) (fun z => ?_)
              · have hf := it_neg z hf
                exact retV hc hr hlk hw hf dX10_settle_61
              · have hf := it_pos z hf
                exact wL40 (f_X10_settle_L0 n) hk0 b1 u17 H locs ls hw (lv_sub hl [0, 1] rfl) hf
  unfold f_X10_settle at hf
  exact wL0 FU a1 u H locs ls hw (lv_sub hl [0, 1] rfl) hf
def f_X10_push (a1 : Int64) (a3 : Int64) (u : SS) : Option SS :=
  oi (gI u 8) 100 (lt (tL u 2 (gI u 8) a1) fun u1 => oi (gI u1 8) 100 (lt (tL u1 3 (gI u1 8) a3) fun u2 => lt (sI u2 8 ((gI u2 8) + (1 : Int32))) fun u3 => lt (sI u3 14 ((gI u3 14) + (1 : Int32))) fun u4 => some u4))
set_option maxHeartbeats 4000000 in
set_option maxRecDepth 100000 in
theorem c_X10_push (l : Launch) (ev : EV) (a1 : Int64) (a3 : Int64) (u : SS) {u' : SS} (hf : f_X10_push a1 a3 u = some u') : MV wdM l yX10_push cX10_push 5 none 0 ev [.ref (ev.2.1 0), .long a1, .long a3] u u' := by
  refine bodyV (by decide +kernel) rfl (Nat.le_of_ble_eq_true rfl) ?_
  intro p e s m below meth cd ls H locs hc hr hlk hw hl
  generalize hav : (List.toArray [.ref (ev.2.1 0), .long a1, .long a3] : Array Value) = av at hc ⊢
  obtain ⟨hx, hb, hml, hown, hts, hK, hZ⟩ := id hc
  have hl : lv_has ls 5 [(0, .ref (ev.2.1 0)), (1, .long a1), (3, .long a3)] := hl
  unfold f_X10_push at hf
  refine lv_aload_n hx hb dX10_push_0 rfl (lv_at hl 0 rfl) ?_
  refine gM0_24 hc hw fl_X10_67 dX10_push_1 ?_
  refine lv_aload_n hx hb dX10_push_4 rfl (lv_at hl 0 rfl) ?_
  refine gM0_26 hc hw fl_X10_228 dX10_push_5 ?_
  refine lv_lload_n hx hb dX10_push_8 rfl (lv_at hl 1 rfl) ?_
  obtain ⟨z, hf⟩ := oi_some hf
  refine tM17 hc hw z dX10_push_9 (fun H locs hw => ?_)
  obtain ⟨u1, eu1, hf⟩ := lt_some hf
  have hw := VW.nm eu1 hw
  refine lv_aload_n hx hb dX10_push_10 rfl (lv_at hl 0 rfl) ?_
  refine gM0_25 hc hw fl_X10_70 dX10_push_11 ?_
  refine lv_aload_n hx hb dX10_push_14 rfl (lv_at hl 0 rfl) ?_
  refine gM0_26 hc hw fl_X10_228 dX10_push_15 ?_
  refine lv_lload_n hx hb dX10_push_18 rfl (lv_at hl 2 rfl) ?_
  obtain ⟨z, hf⟩ := oi_some hf
  refine tM18 hc hw z dX10_push_19 (fun H locs hw => ?_)
  obtain ⟨u2, eu2, hf⟩ := lt_some hf
  have hw := VW.nm eu2 hw
  refine lv_aload_n hx hb dX10_push_20 rfl (lv_at hl 0 rfl) ?_
  refine lv_dup hx hb dX10_push_21 rfl ?_
  refine gM0_26 hc hw fl_X10_228 dX10_push_22 ?_
  refine lv_iconst (v := (1 : Int32)) hx hb dX10_push_25 (by decide) ?_
  refine lv_iadd hx hb dX10_push_26 ?_
  refine pM0_26 hc hw fl_X10_228 dX10_push_27 (fun H locs hw => ?_)
  obtain ⟨u3, eu3, hf⟩ := lt_some hf
  have hw := VW.nm eu3 hw
  refine lv_aload_n hx hb dX10_push_30 rfl (lv_at hl 0 rfl) ?_
  refine lv_dup hx hb dX10_push_31 rfl ?_
  refine gM0_33 hc hw fl_X10_249 dX10_push_32 ?_
  refine lv_iconst (v := (1 : Int32)) hx hb dX10_push_35 (by decide) ?_
  refine lv_iadd hx hb dX10_push_36 ?_
  refine pM0_33 hc hw fl_X10_249 dX10_push_37 (fun H locs hw => ?_)
  obtain ⟨u4, eu4, hf⟩ := lt_some hf
  have hw := VW.nm eu4 hw
  exact retV hc hr hlk hw hf dX10_push_40
