def f_X9_judge_L15 (u : SS) : Option (Int32 × SS) :=
  ob (f_X9_refuse (-1 : Int32) u) fun r3 u2 => some (r3, u2)
def f_X9_judge (a1 : Int32) (a2 : Int32) (u : SS) : Option (Int32 × SS) :=
  if a1 < 0 then (f_X9_judge_L15 u) else (if a1 < (gI u 17) then (ob (f_X0_holds a1 u) fun r6 u5 => if r6 = 0 then (ob (f_X9_refuse (-3 : Int32) u5) fun r13 u12 => some (r13, u12)) else (oi a1 20 (lt (tZ u5 28 a1 (1 : Int32)) fun u7 => if a2 = 0 then (some ((1 : Int32), u7)) else (oi a1 20 (oi a1 20 (ov (f_X9_makeAnew (gA u7 26 a1.toNatClampNeg) (gA u7 27 a1.toNatClampNeg) u7) fun u9 => lt (sI u9 15 (0 : Int32)) fun u10 => some ((1 : Int32), u10))))))) else (f_X9_judge_L15 u))
set_option maxHeartbeats 4000000 in
set_option maxRecDepth 100000 in
theorem c_X9_judge (l : Launch) (ev : EV) (a1 : Int32) (a2 : Int32) (u : SS) {r : Int32} {u' : SS} (hf : f_X9_judge a1 a2 u = some (r, u')) : MI wdB l yX9_judge cX9_judge 3 (some .int) 4 ev [.ref (ev.2.1 0), .int a1, .int a2] u r u' := by
  refine bodyI (by decide +kernel) rfl (Nat.le_of_ble_eq_true rfl) ?_
  intro p e s m below meth cd ls H locs hc hr hlk hw hl
  generalize hav : (List.toArray [.ref (ev.2.1 0), .int a1, .int a2] : Array Value) = av at hc ⊢
  obtain ⟨hx, hb, hml, hown, hts, hK, hZ⟩ := id hc
  have hl : lv_has ls 3 [(0, .ref (ev.2.1 0)), (1, .int a1), (2, .int a2)] := hl
  have wL15 : ∀ (u : SS) (H : Heap) (locs : List Loc) (ls : Array Slot), VW wdB ev s u H locs → lv_has ls 3 [(0, .ref (ev.2.1 0))] → f_X9_judge_L15  u = some (r, u') → W p l e (rmk 4) s m av below meth cd H locs 0 0 (ZI wdB ev s below av r u') (F0 m 15 ls []) := by
    intro  u H locs ls hw hl hf
    unfold f_X9_judge_L15 at hf
    refine lv_aload_n hx hb dX9_judge_15 rfl (lv_at hl 0 rfl) ?_
    refine lv_iconst (v := (-1 : Int32)) hx hb dX9_judge_16 (by decide) ?_
    obtain ⟨r3, u2, h1, hf⟩ := ob_some hf
    refine endI okB hw (runV_ok (As := [.int (-1 : Int32)]) (rest := []) okB hc hw (c_X9_refuse l ev (-1 : Int32) u h1 H.size) kv_X9_refuse ml_X9_62 (rvB0 ev u) hl.1 rfl rfl (Nat.le_of_ble_eq_true rfl) (rm_le (by decide) (by decide)) dX9_judge_17) (fun H locs hw => ?_)
    exact retI hc hr hlk hw hf dX9_judge_20
  unfold f_X9_judge at hf
  refine lv_iload_n hx hb dX9_judge_0 rfl (lv_at hl 1 rfl) ?_
  refine lv_if_lt (tgt := 15) hx hb dX9_judge_1 (by decide) (fun z => ?_) (fun z => ?_)
  · have hf := it_pos z hf
    exact wL15 u H locs ls hw (lv_sub hl [0] rfl) hf
  · have hf := it_neg z hf
    refine lv_iload_n hx hb dX9_judge_4 rfl (lv_at hl 1 rfl) ?_
    refine lv_aload_n hx hb dX9_judge_5 rfl (lv_at hl 0 rfl) ?_
    refine gB0_5 hc hw fl_X9_47 dX9_judge_6 ?_
    refine gB6_2 hc hw fl_X9_284 dX9_judge_9 ?_
    refine lv_icmp_lt (tgt := 21) hx hb dX9_judge_12 (by decide) (fun z => ?_) (fun z => ?_)
    · have hf := it_pos z hf
      refine lv_aload_n hx hb dX9_judge_21 rfl (lv_at hl 0 rfl) ?_
      refine gB0_5 hc hw fl_X9_47 dX9_judge_22 ?_
      refine lv_iload_n hx hb dX9_judge_25 rfl (lv_at hl 1 rfl) ?_
      obtain ⟨r6, u5, h4, hf⟩ := ob_some hf
      refine endI okB hw (runV_ok (As := [.int a1]) (rest := []) okB hc hw (c_X0_holds l ev a1 u h4 H.size) kv_X0_holds ml_X9_290 (rvB6 ev u) hl.1 rfl rfl (Nat.le_of_ble_eq_true rfl) (rm_le (by decide) (by decide)) dX9_judge_26) (fun H locs hw => ?_)
      refine lv_if_ne (tgt := 39) hx hb dX9_judge_29 (by decide) (fun z => ?_) (fun z => ?_)
      · have hf := it_neg z hf
        refine lv_aload_n hx hb dX9_judge_39 rfl (lv_at hl 0 rfl) ?_
        refine gB0_5 hc hw fl_X9_47 dX9_judge_40 ?_
        refine gB6_6 hc hw fl_X9_293 dX9_judge_43 ?_
        refine lv_iload_n hx hb dX9_judge_46 rfl (lv_at hl 1 rfl) ?_
        refine lv_iconst (v := (1 : Int32)) hx hb dX9_judge_47 (by decide) ?_
        obtain ⟨z, hf⟩ := oi_some hf
        refine tB45 hc hw z dX9_judge_48 (fun H locs hw => ?_)
        obtain ⟨u7, eu7, hf⟩ := lt_some hf
        have hw := VW.nm eu7 hw
        refine lv_iload_n hx hb dX9_judge_49 rfl (lv_at hl 2 rfl) ?_
        refine lv_if_eq (tgt := 83) hx hb dX9_judge_50 (by decide) (fun z => ?_) (fun z => ?_)
        · have hf := it_pos z hf
          refine lv_iconst (v := (1 : Int32)) hx hb dX9_judge_83 (by decide) ?_
          exact retI hc hr hlk hw hf dX9_judge_84
        · have hf := it_neg z hf
          refine lv_aload_n hx hb dX9_judge_53 rfl (lv_at hl 0 rfl) ?_
          refine lv_aload_n hx hb dX9_judge_54 rfl (lv_at hl 0 rfl) ?_
          refine gB0_5 hc hw fl_X9_47 dX9_judge_55 ?_
          refine gB6_4 hc hw fl_X9_296 dX9_judge_58 ?_
          refine lv_iload_n hx hb dX9_judge_61 rfl (lv_at hl 1 rfl) ?_
          obtain ⟨z, hf⟩ := oi_some hf
          refine aB43 hc hw z dX9_judge_62 ?_
          refine lv_aload_n hx hb dX9_judge_63 rfl (lv_at hl 0 rfl) ?_
          refine gB0_5 hc hw fl_X9_47 dX9_judge_64 ?_
          refine gB6_5 hc hw fl_X9_299 dX9_judge_67 ?_
          refine lv_iload_n hx hb dX9_judge_70 rfl (lv_at hl 1 rfl) ?_
          obtain ⟨z, hf⟩ := oi_some hf
          refine aB44 hc hw z dX9_judge_71 ?_
          obtain ⟨u9, h8, hf⟩ := ov_some hf
          refine endV okB hw (runV_ok (As := [.int (gA u7 26 a1.toNatClampNeg), .int (gA u7 27 a1.toNatClampNeg)]) (rest := []) okB hc hw (c_X9_makeAnew l ev (gA u7 26 a1.toNatClampNeg) (gA u7 27 a1.toNatClampNeg) u7 h8 H.size) kv_X9_makeAnew ml_X9_302 (rvB0 ev u7) hl.1 rfl rfl (Nat.le_of_ble_eq_true rfl) (rm_le (by decide) (by decide)) dX9_judge_72) (fun H locs hw => ?_)
          refine lv_aload_n hx hb dX9_judge_75 rfl (lv_at hl 0 rfl) ?_
          refine gB0_5 hc hw fl_X9_47 dX9_judge_76 ?_
          refine lv_iconst (v := (0 : Int32)) hx hb dX9_judge_79 (by decide) ?_
          refine pB6_0 hc hw fl_X9_266 nz0 fz0 dX9_judge_80 (fun H locs hw => ?_)
          obtain ⟨u10, eu10, hf⟩ := lt_some hf
          have hw := VW.nm eu10 hw
          refine lv_iconst (v := (1 : Int32)) hx hb dX9_judge_83 (by decide) ?_
          exact retI hc hr hlk hw hf dX9_judge_84
      · have hf := it_pos z hf
        refine lv_aload_n hx hb dX9_judge_32 rfl (lv_at hl 0 rfl) ?_
        refine lv_bipush (v := (-3 : Int32)) hx hb dX9_judge_33 (by decide) ?_
        obtain ⟨r13, u12, h11, hf⟩ := ob_some hf
        refine endI okB hw (runV_ok (As := [.int (-3 : Int32)]) (rest := []) okB hc hw (c_X9_refuse l ev (-3 : Int32) u5 h11 H.size) kv_X9_refuse ml_X9_62 (rvB0 ev u5) hl.1 rfl rfl (Nat.le_of_ble_eq_true rfl) (rm_le (by decide) (by decide)) dX9_judge_35) (fun H locs hw => ?_)
        exact retI hc hr hlk hw hf dX9_judge_38
    · have hf := it_neg z hf
      exact wL15 u H locs ls hw (lv_sub hl [0] rfl) hf
def f_X0_countHolding_L29 (k4 : Int32 → Int32 → SS → Option (Int32 × SS)) (b1 : Int32) (b2 : Int32) (u : SS) : Option (Int32 × SS) :=
  lt (b2 + (1 : Int32)) fun x4 => k4 b1 x4 u
def b_X0_countHolding_L4 (k4 : Int32 → Int32 → SS → Option (Int32 × SS)) (b1 : Int32) (b2 : Int32) (u : SS) : Option (Int32 × SS) :=
  if (gI u 17) ≤ b2 then (some (b1, u)) else (if (20 : Int32) ≤ b2 then (some (b1, u)) else (ob (f_X0_holds b2 u) fun r3 u2 => if r3 = 0 then (f_X0_countHolding_L29 k4 b1 b2 u2) else (lt (b1 + (1 : Int32)) fun x5 => f_X0_countHolding_L29 k4 x5 b2 u2)))
def f_X0_countHolding_L4 : Nat → Int32 → Int32 → SS → Option (Int32 × SS)
  | 0 => fun _ _ _ => none
  | n + 1 => b_X0_countHolding_L4 (f_X0_countHolding_L4 n)
def f_X0_countHolding (u : SS) : Option (Int32 × SS) :=
  f_X0_countHolding_L4 FU (0 : Int32) (0 : Int32) u
set_option maxHeartbeats 4000000 in
set_option maxRecDepth 100000 in
theorem c_X0_countHolding (l : Launch) (ev : EV) (u : SS) {r : Int32} {u' : SS} (hf : f_X0_countHolding  u = some (r, u')) : MI wdB l yX0_countHolding cX0_countHolding 3 (some .int) 1 ev [.ref (ev.2.1 6)] u r u' := by
  refine bodyI (by decide +kernel) rfl (Nat.le_of_ble_eq_true rfl) ?_
  intro p e s m below meth cd ls H locs hc hr hlk hw hl
  generalize hav : (List.toArray [.ref (ev.2.1 6)] : Array Value) = av at hc ⊢
  obtain ⟨hx, hb, hml, hown, hts, hK, hZ⟩ := id hc
  have hl : lv_has ls 3 [(0, .ref (ev.2.1 6))] := hl
  have wL29 : ∀ (k4 : Int32 → Int32 → SS → Option (Int32 × SS)) (hk4 : ∀ (b1 : Int32) (b2 : Int32) (u : SS) (H : Heap) (locs : List Loc) (ls : Array Slot), VW wdB ev s u H locs → lv_has ls 3 [(0, .ref (ev.2.1 6)), (1, .int b1), (2, .int b2)] → k4 b1 b2 u = some (r, u') → W p l e (rmk 1) s m av below meth cd H locs 0 0 (ZI wdB ev s below av r u') (F0 m 4 ls [])) (b1 : Int32) (b2 : Int32) (u : SS) (H : Heap) (locs : List Loc) (ls : Array Slot), VW wdB ev s u H locs → lv_has ls 3 [(0, .ref (ev.2.1 6)), (1, .int b1), (2, .int b2)] → f_X0_countHolding_L29 k4 b1 b2 u = some (r, u') → W p l e (rmk 1) s m av below meth cd H locs 0 0 (ZI wdB ev s below av r u') (F0 m 29 ls []) := by
    intro k4 hk4 b1 b2 u H locs ls hw hl hf
    unfold f_X0_countHolding_L29 at hf
    obtain ⟨x4, ex4, hf⟩ := lt_some hf
    refine lv_iinc (v := x4) (lv' := [(2, .int x4), (0, .ref (ev.2.1 6)), (1, .int b1)]) hx hb dX0_countHolding_29 hl (k := 2) rfl (by rw [ex4]; rfl) (by decide) rfl (fun ls hl => ?_)
    refine lv_goto (tgt := 4) hx hb dX0_countHolding_32 (by decide) ?_
    exact hk4 b1 x4 u H locs ls hw (lv_sub hl [1, 2, 0] rfl) hf
  have wL4 : ∀ (n : Nat) (b1 : Int32) (b2 : Int32) (u : SS) (H : Heap) (locs : List Loc) (ls : Array Slot), VW wdB ev s u H locs → lv_has ls 3 [(0, .ref (ev.2.1 6)), (1, .int b1), (2, .int b2)] → f_X0_countHolding_L4 n b1 b2 u = some (r, u') → W p l e (rmk 1) s m av below meth cd H locs 0 0 (ZI wdB ev s below av r u') (F0 m 4 ls []) := by
    intro n
    induction n with
    | zero =>
      intro b1 b2 u H locs ls hw hl hf
      cases hf
    | succ n hk4 =>
      intro b1 b2 u H locs ls hw hl hf
      have hf : b_X0_countHolding_L4 (f_X0_countHolding_L4 n) b1 b2 u = some (r, u') := hf
      unfold b_X0_countHolding_L4 at hf
      refine lv_iload_n hx hb dX0_countHolding_4 rfl (lv_at hl 2 rfl) ?_
      refine lv_aload_n hx hb dX0_countHolding_5 rfl (lv_at hl 0 rfl) ?_
      refine gB6_2 hc hw fl_X0_46 dX0_countHolding_6 ?_
      refine lv_icmp_ge (tgt := 35) hx hb dX0_countHolding_9 (by decide) (fun z => ?_) (fun z => ?_)
      · have hf := it_pos z hf
        refine lv_iload_n hx hb dX0_countHolding_35 rfl (lv_at hl 1 rfl) ?_
        exact retI hc hr hlk hw hf dX0_countHolding_36
      · have hf := it_neg z hf
        refine lv_iload_n hx hb dX0_countHolding_12 rfl (lv_at hl 2 rfl) ?_
        refine lv_bipush (v := (20 : Int32)) hx hb dX0_countHolding_13 (by decide) ?_
        refine lv_icmp_ge (tgt := 35) hx hb dX0_countHolding_15 (by decide) (fun z => ?_) (fun z => ?_)
        · have hf := it_pos z hf
          refine lv_iload_n hx hb dX0_countHolding_35 rfl (lv_at hl 1 rfl) ?_
          exact retI hc hr hlk hw hf dX0_countHolding_36
        · have hf := it_neg z hf
          refine lv_aload_n hx hb dX0_countHolding_18 rfl (lv_at hl 0 rfl) ?_
          refine lv_iload_n hx hb dX0_countHolding_19 rfl (lv_at hl 2 rfl) ?_
          obtain ⟨r3, u2, h1, hf⟩ := ob_some hf
          refine endI okB hw (runV_ok (As := [.int b2]) (rest := []) okB hc hw (c_X0_holds l ev b2 u h1 H.size) kv_X0_holds ml_X0_49 (rvB6 ev u) hl.1 rfl rfl (Nat.le_of_ble_eq_true rfl) (rm_le (by decide) (by decide)) dX0_countHolding_20) (fun H locs hw => ?_)
          refine lv_if_eq (tgt := 29) hx hb dX0_countHolding_23 (by decide) (fun z => ?_) (fun z => ?_)
          · have hf := it_pos z hf
            exact wL29 (f_X0_countHolding_L4 n) hk4 b1 b2 u2 H locs ls hw (lv_sub hl [0, 1, 2] rfl) hf
          · have hf := it_neg z hf
            obtain ⟨x5, ex5, hf⟩ := lt_some hf
            refine lv_iinc (v := x5) (lv' := [(1, .int x5), (0, .ref (ev.2.1 6)), (2, .int b2)]) hx hb dX0_countHolding_26 hl (k := 1) rfl (by rw [ex5]; rfl) (by decide) rfl (fun ls hl => ?_)
            exact wL29 (f_X0_countHolding_L4 n) hk4 x5 b2 u2 H locs ls hw (lv_sub hl [1, 0, 2] rfl) hf
  unfold f_X0_countHolding at hf
  refine lv_iconst (v := (0 : Int32)) hx hb dX0_countHolding_0 (by decide) ?_
  refine lv_istore_n (lv' := [(1, .int (0 : Int32)), (0, .ref (ev.2.1 6))]) hx hb dX0_countHolding_1 rfl hl (by decide) rfl (fun ls hl => ?_)
  refine lv_iconst (v := (0 : Int32)) hx hb dX0_countHolding_2 (by decide) ?_
  refine lv_istore_n (lv' := [(2, .int (0 : Int32)), (1, .int (0 : Int32)), (0, .ref (ev.2.1 6))]) hx hb dX0_countHolding_3 rfl hl (by decide) rfl (fun ls hl => ?_)
  exact wL4 FU (0 : Int32) (0 : Int32) u H locs ls hw (lv_sub hl [2, 1, 0] rfl) hf
def f_X9_sign_L47 (u : SS) : Option (Int32 × SS) :=
  ob (f_X9_refuse (-3 : Int32) u) fun r3 u2 => some (r3, u2)
def f_X9_sign (u : SS) : Option (Int32 × SS) :=
  if (gI u 15) = 0 then (f_X9_sign_L47 u) else (if (gI u 16) = 0 then (ob (f_X0_isStandstillOver (gI u 0) u) fun r6 u5 => if r6 = 0 then (f_X9_sign_L47 u5) else (ob (f_X0_countHolding u5) fun r9 u8 => if r9 ≤ 0 then (lt (sI u8 16 (1 : Int32)) fun u10 => some ((1 : Int32), u10)) else (f_X9_sign_L47 u8))) else (f_X9_sign_L47 u))
set_option maxHeartbeats 4000000 in
set_option maxRecDepth 100000 in
theorem c_X9_sign (l : Launch) (ev : EV) (u : SS) {r : Int32} {u' : SS} (hf : f_X9_sign  u = some (r, u')) : MI wdB l yX9_sign cX9_sign 1 (some .int) 2 ev [.ref (ev.2.1 0)] u r u' := by
  refine bodyI (by decide +kernel) rfl (Nat.le_of_ble_eq_true rfl) ?_
  intro p e s m below meth cd ls H locs hc hr hlk hw hl
  generalize hav : (List.toArray [.ref (ev.2.1 0)] : Array Value) = av at hc ⊢
  obtain ⟨hx, hb, hml, hown, hts, hK, hZ⟩ := id hc
  have hl : lv_has ls 1 [(0, .ref (ev.2.1 0))] := hl
  have wL47 : ∀ (u : SS) (H : Heap) (locs : List Loc) (ls : Array Slot), VW wdB ev s u H locs → lv_has ls 1 [(0, .ref (ev.2.1 0))] → f_X9_sign_L47  u = some (r, u') → W p l e (rmk 2) s m av below meth cd H locs 0 0 (ZI wdB ev s below av r u') (F0 m 47 ls []) := by
    intro  u H locs ls hw hl hf
    unfold f_X9_sign_L47 at hf
    refine lv_aload_n hx hb dX9_sign_47 rfl (lv_at hl 0 rfl) ?_
    refine lv_bipush (v := (-3 : Int32)) hx hb dX9_sign_48 (by decide) ?_
    obtain ⟨r3, u2, h1, hf⟩ := ob_some hf
    refine endI okB hw (runV_ok (As := [.int (-3 : Int32)]) (rest := []) okB hc hw (c_X9_refuse l ev (-3 : Int32) u h1 H.size) kv_X9_refuse ml_X9_62 (rvB0 ev u) hl.1 rfl rfl (Nat.le_of_ble_eq_true rfl) (rm_le (by decide) (by decide)) dX9_sign_50) (fun H locs hw => ?_)
    exact retI hc hr hlk hw hf dX9_sign_53
  unfold f_X9_sign at hf
  refine lv_aload_n hx hb dX9_sign_0 rfl (lv_at hl 0 rfl) ?_
  refine gB0_5 hc hw fl_X9_47 dX9_sign_1 ?_
  refine gB6_0 hc hw fl_X9_266 dX9_sign_4 ?_
  refine lv_if_eq (tgt := 47) hx hb dX9_sign_7 (by decide) (fun z => ?_) (fun z => ?_)
  · have hf := it_pos z hf
    exact wL47 u H locs ls hw (lv_sub hl [0] rfl) hf
  · have hf := it_neg z hf
    refine lv_aload_n hx hb dX9_sign_10 rfl (lv_at hl 0 rfl) ?_
    refine gB0_5 hc hw fl_X9_47 dX9_sign_11 ?_
    refine gB6_1 hc hw fl_X9_278 dX9_sign_14 ?_
    refine lv_if_ne (tgt := 47) hx hb dX9_sign_17 (by decide) (fun z => ?_) (fun z => ?_)
    · have hf := it_neg z hf
      exact wL47 u H locs ls hw (lv_sub hl [0] rfl) hf
    · have hf := it_pos z hf
      refine lv_aload_n hx hb dX9_sign_20 rfl (lv_at hl 0 rfl) ?_
      refine gB0_5 hc hw fl_X9_47 dX9_sign_21 ?_
      refine lv_aload_n hx hb dX9_sign_24 rfl (lv_at hl 0 rfl) ?_
      refine gB0_0 hc hw fl_X9_12 dX9_sign_25 ?_
      refine gB1_9 hc hw fl_X9_67 dX9_sign_28 ?_
      obtain ⟨r6, u5, h4, hf⟩ := ob_some hf
      refine endI okB hw (runV_ok (As := [.int (gI u 0)]) (rest := []) okB hc hw (c_X0_isStandstillOver l ev (gI u 0) u h4 H.size) kv_X0_isStandstillOver ml_X9_281 (rvB6 ev u) hl.1 rfl rfl (Nat.le_of_ble_eq_true rfl) (rm_le (by decide) (by decide)) dX9_sign_31) (fun H locs hw => ?_)
      refine lv_if_eq (tgt := 47) hx hb dX9_sign_34 (by decide) (fun z => ?_) (fun z => ?_)
      · have hf := it_pos z hf
        exact wL47 u5 H locs ls hw (lv_sub hl [0] rfl) hf
      · have hf := it_neg z hf
        refine lv_aload_n hx hb dX9_sign_37 rfl (lv_at hl 0 rfl) ?_
        refine gB0_5 hc hw fl_X9_47 dX9_sign_38 ?_
        obtain ⟨r9, u8, h7, hf⟩ := ob_some hf
        refine endI okB hw (runV_ok (As := []) (rest := []) okB hc hw (c_X0_countHolding l ev u5 h7 H.size) kv_X0_countHolding ml_X9_306 (rvB6 ev u5) hl.1 rfl rfl (Nat.le_of_ble_eq_true rfl) (rm_le (by decide) (by decide)) dX9_sign_41) (fun H locs hw => ?_)
        refine lv_if_le (tgt := 54) hx hb dX9_sign_44 (by decide) (fun z => ?_) (fun z => ?_)
        · have hf := it_pos z hf
          refine lv_aload_n hx hb dX9_sign_54 rfl (lv_at hl 0 rfl) ?_
          refine gB0_5 hc hw fl_X9_47 dX9_sign_55 ?_
          refine lv_iconst (v := (1 : Int32)) hx hb dX9_sign_58 (by decide) ?_
          refine pB6_1 hc hw fl_X9_278 nz1 fz1 dX9_sign_59 (fun H locs hw => ?_)
          obtain ⟨u10, eu10, hf⟩ := lt_some hf
          have hw := VW.nm eu10 hw
          refine lv_iconst (v := (1 : Int32)) hx hb dX9_sign_62 (by decide) ?_
          exact retI hc hr hlk hw hf dX9_sign_63
        · have hf := it_neg z hf
          exact wL47 u8 H locs ls hw (lv_sub hl [0] rfl) hf
def f_X0_addChange (a1 : Int32) (a2 : Int32) (a3 : Int32) (u : SS) : Option (Int32 × SS) :=
  oi a1 6 (lt ((gL u 8 a1.toNatClampNeg) + (a2.toInt64)) fun x1 => oi a1 6 (if (lg_cmp (x1 * (100 : Int64)) ((a3.toInt64) * ((gA u 30 a1.toNatClampNeg).toInt64))) ≤ 0 then (oi a1 6 (lt (tL u 8 a1 x1) fun u2 => some (x1.toInt32, u2))) else (some ((-9 : Int32), u))))
set_option maxHeartbeats 4000000 in
set_option maxRecDepth 100000 in
theorem c_X0_addChange (l : Launch) (ev : EV) (a1 : Int32) (a2 : Int32) (a3 : Int32) (u : SS) {r : Int32} {u' : SS} (hf : f_X0_addChange a1 a2 a3 u = some (r, u')) : MI wdB l yX0_addChange cX0_addChange 6 (some .int) 0 ev [.ref (ev.2.1 6), .int a1, .int a2, .int a3] u r u' := by
  refine bodyI (by decide +kernel) rfl (Nat.le_of_ble_eq_true rfl) ?_
  intro p e s m below meth cd ls H locs hc hr hlk hw hl
  generalize hav : (List.toArray [.ref (ev.2.1 6), .int a1, .int a2, .int a3] : Array Value) = av at hc ⊢
  obtain ⟨hx, hb, hml, hown, hts, hK, hZ⟩ := id hc
  have hl : lv_has ls 6 [(0, .ref (ev.2.1 6)), (1, .int a1), (2, .int a2), (3, .int a3)] := hl
  unfold f_X0_addChange at hf
  refine lv_aload_n hx hb dX0_addChange_0 rfl (lv_at hl 0 rfl) ?_
  refine gB6_9 hc hw fl_X0_31 dX0_addChange_1 ?_
  refine lv_iload_n hx hb dX0_addChange_4 rfl (lv_at hl 1 rfl) ?_
  obtain ⟨z, hf⟩ := oi_some hf
  refine aB48 hc hw z dX0_addChange_5 ?_
  refine lv_iload_n hx hb dX0_addChange_6 rfl (lv_at hl 2 rfl) ?_
  refine lv_i2l (v := a2.toInt64) hx hb dX0_addChange_7 rfl ?_
  refine lv_ladd hx hb dX0_addChange_8 ?_
  obtain ⟨x1, ex1, hf⟩ := lt_some hf
  refine topel ex1 ?_
  refine lv_lstore (lv' := [(4, .long x1), (0, .ref (ev.2.1 6)), (1, .int a1), (2, .int a2), (3, .int a3)]) hx hb dX0_addChange_9 hl (by decide) rfl (fun ls hl => ?_)
  refine lv_lload hx hb dX0_addChange_11 (lv_at hl 0 rfl) ?_
  refine lv_ldc2 (v := (100 : Int64)) hx hb hown (hts _ ct_X0_53) dX0_addChange_13 ?_
  refine lv_lmul hx hb dX0_addChange_16 ?_
  refine lv_iload_n hx hb dX0_addChange_17 rfl (lv_at hl 4 rfl) ?_
  refine lv_i2l (v := a3.toInt64) hx hb dX0_addChange_18 rfl ?_
  refine lv_aload_n hx hb dX0_addChange_19 rfl (lv_at hl 1 rfl) ?_
  refine gB6_8 hc hw fl_X0_28 dX0_addChange_20 ?_
  refine lv_iload_n hx hb dX0_addChange_23 rfl (lv_at hl 2 rfl) ?_
  obtain ⟨z, hf⟩ := oi_some hf
  refine aB47 hc hw z dX0_addChange_24 ?_
  refine lv_i2l (v := (gA u 30 a1.toNatClampNeg).toInt64) hx hb dX0_addChange_25 rfl ?_
  refine lv_lmul hx hb dX0_addChange_26 ?_
  refine W.lcmp hx hb dX0_addChange_27 ?_
  refine lv_if_le (tgt := 34) hx hb dX0_addChange_28 (by decide) (fun z => ?_) (fun z => ?_)
  · have hf := it_pos z hf
    refine lv_aload_n hx hb dX0_addChange_34 rfl (lv_at hl 1 rfl) ?_
    refine gB6_9 hc hw fl_X0_31 dX0_addChange_35 ?_
    refine lv_iload_n hx hb dX0_addChange_38 rfl (lv_at hl 2 rfl) ?_
    refine lv_lload hx hb dX0_addChange_39 (lv_at hl 0 rfl) ?_
    obtain ⟨z, hf⟩ := oi_some hf
    refine tB48 hc hw z dX0_addChange_41 (fun H locs hw => ?_)
    obtain ⟨u2, eu2, hf⟩ := lt_some hf
    have hw := VW.nm eu2 hw
    refine lv_lload hx hb dX0_addChange_42 (lv_at hl 0 rfl) ?_
    refine lv_l2i (v := x1.toInt32) hx hb dX0_addChange_44 rfl ?_
    exact retI hc hr hlk hw hf dX0_addChange_45
  · have hf := it_neg z hf
    refine lv_bipush (v := (-9 : Int32)) hx hb dX0_addChange_31 (by decide) ?_
    exact retI hc hr hlk hw hf dX0_addChange_33
def f_X9_change_L38 (u : SS) : Option (Int32 × SS) :=
  ob (f_X9_refuse (-3 : Int32) u) fun r6 u5 => some (r6, u5)
def f_X9_change (a1 : Int32) (a2 : Int32) (u : SS) : Option (Int32 × SS) :=
  ob (f_X9_noLot a1 u) fun r3 u2 => if r3 = 0 then (if (gI u2 16) = 0 then (f_X9_change_L38 u2) else (oi a1 6 (if (gA u2 25 a1.toNatClampNeg) = (-9 : Int32) then (f_X9_change_L38 u2) else (ob (f_X9_inRange a2 (1 : Int32) (999999 : Int32) u2) fun r9 u8 => if r9 = 0 then (oi (3 : Int32) 4 (ob (f_X0_addChange a1 a2 (gA u8 1 (3 : Int32).toNatClampNeg) u8) fun r12 u11 => some (r12, u11))) else (ob (f_X9_refuse r9 u8) fun r15 u14 => some (r15, u14)))))) else (ob (f_X9_refuse (-1 : Int32) u2) fun r18 u17 => some (r18, u17))
set_option maxHeartbeats 4000000 in
set_option maxRecDepth 100000 in
theorem c_X9_change (l : Launch) (ev : EV) (a1 : Int32) (a2 : Int32) (u : SS) {r : Int32} {u' : SS} (hf : f_X9_change a1 a2 u = some (r, u')) : MI wdB l yX9_change cX9_change 4 (some .int) 1 ev [.ref (ev.2.1 0), .int a1, .int a2] u r u' := by
  refine bodyI (by decide +kernel) rfl (Nat.le_of_ble_eq_true rfl) ?_
  intro p e s m below meth cd ls H locs hc hr hlk hw hl
  generalize hav : (List.toArray [.ref (ev.2.1 0), .int a1, .int a2] : Array Value) = av at hc ⊢
  obtain ⟨hx, hb, hml, hown, hts, hK, hZ⟩ := id hc
  have hl : lv_has ls 4 [(0, .ref (ev.2.1 0)), (1, .int a1), (2, .int a2)] := hl
  have wL38 : ∀ (u : SS) (H : Heap) (locs : List Loc) (ls : Array Slot), VW wdB ev s u H locs → lv_has ls 4 [(0, .ref (ev.2.1 0))] → f_X9_change_L38  u = some (r, u') → W p l e (rmk 1) s m av below meth cd H locs 0 0 (ZI wdB ev s below av r u') (F0 m 38 ls []) := by
    intro  u H locs ls hw hl hf
    unfold f_X9_change_L38 at hf
    refine lv_aload_n hx hb dX9_change_38 rfl (lv_at hl 0 rfl) ?_
    refine lv_bipush (v := (-3 : Int32)) hx hb dX9_change_39 (by decide) ?_
    obtain ⟨r6, u5, h4, hf⟩ := ob_some hf
    refine endI okB hw (runV_ok (As := [.int (-3 : Int32)]) (rest := []) okB hc hw (c_X9_refuse l ev (-3 : Int32) u h4 H.size) kv_X9_refuse ml_X9_62 (rvB0 ev u) hl.1 rfl rfl (Nat.le_of_ble_eq_true rfl) (rm_le (by decide) (by decide)) dX9_change_41) (fun H locs hw => ?_)
    exact retI hc hr hlk hw hf dX9_change_44
  unfold f_X9_change at hf
  refine lv_aload_n hx hb dX9_change_0 rfl (lv_at hl 0 rfl) ?_
  refine lv_iload_n hx hb dX9_change_1 rfl (lv_at hl 1 rfl) ?_
  obtain ⟨r3, u2, h1, hf⟩ := ob_some hf
  refine endI okB hw (runV_ok (As := [.int a1]) (rest := []) okB hc hw (c_X9_noLot l ev a1 u h1 H.size) kv_X9_noLot ml_X9_193 (rvB0 ev u) hl.1 rfl rfl (Nat.le_of_ble_eq_true rfl) (rm_le (by decide) (by decide)) dX9_change_2) (fun H locs hw => ?_)
  refine lv_if_eq (tgt := 14) hx hb dX9_change_5 (by decide) (fun z => ?_) (fun z => ?_)
  · have hf := it_pos z hf
    refine lv_aload_n hx hb dX9_change_14 rfl (lv_at hl 0 rfl) ?_
    refine gB0_5 hc hw fl_X9_47 dX9_change_15 ?_
    refine gB6_1 hc hw fl_X9_278 dX9_change_18 ?_
    refine lv_if_eq (tgt := 38) hx hb dX9_change_21 (by decide) (fun z => ?_) (fun z => ?_)
    · have hf := it_pos z hf
      exact wL38 u2 H locs ls hw (lv_sub hl [0] rfl) hf
    · have hf := it_neg z hf
      refine lv_aload_n hx hb dX9_change_24 rfl (lv_at hl 0 rfl) ?_
      refine gB0_5 hc hw fl_X9_47 dX9_change_25 ?_
      refine gB6_3 hc hw fl_X9_277 dX9_change_28 ?_
      refine lv_iload_n hx hb dX9_change_31 rfl (lv_at hl 1 rfl) ?_
      obtain ⟨z, hf⟩ := oi_some hf
      refine aB42 hc hw z dX9_change_32 ?_
      refine lv_bipush (v := (-9 : Int32)) hx hb dX9_change_33 (by decide) ?_
      refine lv_icmp_ne (tgt := 45) hx hb dX9_change_35 (by decide) (fun z => ?_) (fun z => ?_)
      · have hf := it_neg z hf
        refine lv_iload_n hx hb dX9_change_45 rfl (lv_at hl 2 rfl) ?_
        refine lv_iconst (v := (1 : Int32)) hx hb dX9_change_46 (by decide) ?_
        refine lv_ldc (v := (999999 : Int32)) hx hb hown (hts _ ct_X9_66) dX9_change_47 ?_
        obtain ⟨r9, u8, h7, hf⟩ := ob_some hf
        refine endI okB hw (runS_ok (As := [.int a2, .int (1 : Int32), .int (999999 : Int32)]) (rest := []) okB hc hw (c_X9_inRange l ev a2 (1 : Int32) (999999 : Int32) u2 h7 H.size) ks_X9_inRange ml_X9_76 hl.1 rfl rfl (Nat.le_of_ble_eq_true rfl) (rm_le (by decide) (by decide)) dX9_change_49) (fun H locs hw => ?_)
        refine lv_istore_n (lv' := [(3, .int r9), (0, .ref (ev.2.1 0)), (1, .int a1), (2, .int a2)]) hx hb dX9_change_52 rfl hl (by decide) rfl (fun ls hl => ?_)
        refine lv_iload_n hx hb dX9_change_53 rfl (lv_at hl 0 rfl) ?_
        refine lv_if_eq (tgt := 63) hx hb dX9_change_54 (by decide) (fun z => ?_) (fun z => ?_)
        · have hf := it_pos z hf
          refine lv_aload_n hx hb dX9_change_63 rfl (lv_at hl 1 rfl) ?_
          refine gB0_5 hc hw fl_X9_47 dX9_change_64 ?_
          refine lv_iload_n hx hb dX9_change_67 rfl (lv_at hl 2 rfl) ?_
          refine lv_iload_n hx hb dX9_change_68 rfl (lv_at hl 3 rfl) ?_
          refine lv_aload_n hx hb dX9_change_69 rfl (lv_at hl 1 rfl) ?_
          refine gB0_0 hc hw fl_X9_12 dX9_change_70 ?_
          refine gB1_0 hc hw fl_X9_128 dX9_change_73 ?_
          refine lv_iconst (v := (3 : Int32)) hx hb dX9_change_76 (by decide) ?_
          obtain ⟨z, hf⟩ := oi_some hf
          refine aB10 hc hw z dX9_change_77 ?_
          obtain ⟨r12, u11, h10, hf⟩ := ob_some hf
          refine endI okB hw (runV_ok (As := [.int a1, .int a2, .int (gA u8 1 (3 : Int32).toNatClampNeg)]) (rest := []) okB hc hw (c_X0_addChange l ev a1 a2 (gA u8 1 (3 : Int32).toNatClampNeg) u8 h10 H.size) kv_X0_addChange ml_X9_309 (rvB6 ev u8) hl.1 rfl rfl (Nat.le_of_ble_eq_true rfl) (rm_le (by decide) (by decide)) dX9_change_78) (fun H locs hw => ?_)
          exact retI hc hr hlk hw hf dX9_change_81
        · have hf := it_neg z hf
          refine lv_aload_n hx hb dX9_change_57 rfl (lv_at hl 1 rfl) ?_
          refine lv_iload_n hx hb dX9_change_58 rfl (lv_at hl 0 rfl) ?_
          obtain ⟨r15, u14, h13, hf⟩ := ob_some hf
          refine endI okB hw (runV_ok (As := [.int r9]) (rest := []) okB hc hw (c_X9_refuse l ev r9 u8 h13 H.size) kv_X9_refuse ml_X9_62 (rvB0 ev u8) hl.1 rfl rfl (Nat.le_of_ble_eq_true rfl) (rm_le (by decide) (by decide)) dX9_change_59) (fun H locs hw => ?_)
          exact retI hc hr hlk hw hf dX9_change_62
      · have hf := it_pos z hf
        exact wL38 u2 H locs ls hw (lv_sub hl [0] rfl) hf
  · have hf := it_neg z hf
    refine lv_aload_n hx hb dX9_change_8 rfl (lv_at hl 0 rfl) ?_
    refine lv_iconst (v := (-1 : Int32)) hx hb dX9_change_9 (by decide) ?_
    obtain ⟨r18, u17, h16, hf⟩ := ob_some hf
    refine endI okB hw (runV_ok (As := [.int (-1 : Int32)]) (rest := []) okB hc hw (c_X9_refuse l ev (-1 : Int32) u2 h16 H.size) kv_X9_refuse ml_X9_62 (rvB0 ev u2) hl.1 rfl rfl (Nat.le_of_ble_eq_true rfl) (rm_le (by decide) (by decide)) dX9_change_10) (fun H locs hw => ?_)
    exact retI hc hr hlk hw hf dX9_change_13
def f_X6_likenessInOrder (a1 : Int32) (a2 : Int32) (a3 : Int32) (a4 : Int32) (a5 : Int32) (u : SS) : Option (Int64 × SS) :=
  ob (f_X1_itemSum a1 u) fun r3 u2 => lt (r3.toInt64) fun x4 => ob (f_X1_itemSum a2 u2) fun r7 u6 => lt (r7.toInt64) fun x8 => lt (a1 * (4 : Int32)) fun x9 => lt (a2 * (4 : Int32)) fun x10 => lt ((((6 : Int32) - a3) - a4) - a5) fun x11 => oi x9 192 (oi (x10 + a3) 192 (oi (x9 + (1 : Int32)) 192 (oi (x10 + a4) 192 (oi (x9 + (2 : Int32)) 192 (oi (x10 + a5) 192 (oi (x9 + (3 : Int32)) 192 (oi (x10 + x11) 192 (some (((((if 0 < ((((gA u6 6 x9.toNatClampNeg).toInt64) * x8) - (((gA u6 6 (x10 + a3).toNatClampNeg).toInt64) * x4)) then ((((gA u6 6 x9.toNatClampNeg).toInt64) * x8) - (((gA u6 6 (x10 + a3).toNatClampNeg).toInt64) * x4)) else -((((gA u6 6 x9.toNatClampNeg).toInt64) * x8) - (((gA u6 6 (x10 + a3).toNatClampNeg).toInt64) * x4))) + (if 0 < ((((gA u6 6 (x9 + (1 : Int32)).toNatClampNeg).toInt64) * x8) - (((gA u6 6 (x10 + a4).toNatClampNeg).toInt64) * x4)) then ((((gA u6 6 (x9 + (1 : Int32)).toNatClampNeg).toInt64) * x8) - (((gA u6 6 (x10 + a4).toNatClampNeg).toInt64) * x4)) else -((((gA u6 6 (x9 + (1 : Int32)).toNatClampNeg).toInt64) * x8) - (((gA u6 6 (x10 + a4).toNatClampNeg).toInt64) * x4)))) + (if 0 < ((((gA u6 6 (x9 + (2 : Int32)).toNatClampNeg).toInt64) * x8) - (((gA u6 6 (x10 + a5).toNatClampNeg).toInt64) * x4)) then ((((gA u6 6 (x9 + (2 : Int32)).toNatClampNeg).toInt64) * x8) - (((gA u6 6 (x10 + a5).toNatClampNeg).toInt64) * x4)) else -((((gA u6 6 (x9 + (2 : Int32)).toNatClampNeg).toInt64) * x8) - (((gA u6 6 (x10 + a5).toNatClampNeg).toInt64) * x4)))) + (if 0 < ((((gA u6 6 (x9 + (3 : Int32)).toNatClampNeg).toInt64) * x8) - (((gA u6 6 (x10 + x11).toNatClampNeg).toInt64) * x4)) then ((((gA u6 6 (x9 + (3 : Int32)).toNatClampNeg).toInt64) * x8) - (((gA u6 6 (x10 + x11).toNatClampNeg).toInt64) * x4)) else -((((gA u6 6 (x9 + (3 : Int32)).toNatClampNeg).toInt64) * x8) - (((gA u6 6 (x10 + x11).toNatClampNeg).toInt64) * x4)))), u6)))))))))
set_option maxHeartbeats 4000000 in
set_option maxRecDepth 100000 in
theorem c_X6_likenessInOrder (l : Launch) (ev : EV) (a1 : Int32) (a2 : Int32) (a3 : Int32) (a4 : Int32) (a5 : Int32) (u : SS) {r : Int64} {u' : SS} (hf : f_X6_likenessInOrder a1 a2 a3 a4 a5 u = some (r, u')) : ML wdB l yX6_likenessInOrder cX6_likenessInOrder 13 (some .long) 1 ev [.ref (ev.2.1 1), .int a1, .int a2, .int a3, .int a4, .int a5] u r u' := by
  refine bodyL (by decide +kernel) rfl (Nat.le_of_ble_eq_true rfl) ?_
  intro p e s m below meth cd ls H locs hc hr hlk hw hl
  generalize hav : (List.toArray [.ref (ev.2.1 1), .int a1, .int a2, .int a3, .int a4, .int a5] : Array Value) = av at hc ⊢
  obtain ⟨hx, hb, hml, hown, hts, hK, hZ⟩ := id hc
  have hl : lv_has ls 13 [(0, .ref (ev.2.1 1)), (1, .int a1), (2, .int a2), (3, .int a3), (4, .int a4), (5, .int a5)] := hl
  unfold f_X6_likenessInOrder at hf
  refine lv_aload_n hx hb dX6_likenessInOrder_0 rfl (lv_at hl 0 rfl) ?_
  refine lv_iload_n hx hb dX6_likenessInOrder_1 rfl (lv_at hl 1 rfl) ?_
  obtain ⟨r3, u2, h1, hf⟩ := ob_some hf
  refine endI okB hw (runV_ok (As := [.int a1]) (rest := []) okB hc hw (c_X1_itemSum l ev a1 u h1 H.size) kv_X1_itemSum ml_X6_15 (rvB1 ev u) hl.1 rfl rfl (Nat.le_of_ble_eq_true rfl) (rm_le (by decide) (by decide)) dX6_likenessInOrder_2) (fun H locs hw => ?_)
  refine lv_i2l (v := r3.toInt64) hx hb dX6_likenessInOrder_5 rfl ?_
  obtain ⟨x4, ex4, hf⟩ := lt_some hf
  refine topel ex4 ?_
  refine lv_lstore (lv' := [(6, .long x4), (0, .ref (ev.2.1 1)), (1, .int a1), (2, .int a2), (3, .int a3), (4, .int a4), (5, .int a5)]) hx hb dX6_likenessInOrder_6 hl (by decide) rfl (fun ls hl => ?_)
  refine lv_aload_n hx hb dX6_likenessInOrder_8 rfl (lv_at hl 1 rfl) ?_
  refine lv_iload_n hx hb dX6_likenessInOrder_9 rfl (lv_at hl 3 rfl) ?_
  obtain ⟨r7, u6, h5, hf⟩ := ob_some hf
  refine endI okB hw (runV_ok (As := [.int a2]) (rest := []) okB hc hw (c_X1_itemSum l ev a2 u2 h5 H.size) kv_X1_itemSum ml_X6_15 (rvB1 ev u2) hl.1 rfl rfl (Nat.le_of_ble_eq_true rfl) (rm_le (by decide) (by decide)) dX6_likenessInOrder_10) (fun H locs hw => ?_)
  refine lv_i2l (v := r7.toInt64) hx hb dX6_likenessInOrder_13 rfl ?_
  obtain ⟨x8, ex8, hf⟩ := lt_some hf
  refine topel ex8 ?_
  refine lv_lstore (lv' := [(8, .long x8), (6, .long x4), (0, .ref (ev.2.1 1)), (1, .int a1), (2, .int a2), (3, .int a3), (4, .int a4), (5, .int a5)]) hx hb dX6_likenessInOrder_14 hl (by decide) rfl (fun ls hl => ?_)
  refine lv_iload_n hx hb dX6_likenessInOrder_16 rfl (lv_at hl 3 rfl) ?_
  refine lv_iconst (v := (4 : Int32)) hx hb dX6_likenessInOrder_17 (by decide) ?_
  refine lv_imul hx hb dX6_likenessInOrder_18 ?_
  obtain ⟨x9, ex9, hf⟩ := lt_some hf
  refine tope ex9 ?_
  refine lv_istore (lv' := [(10, .int x9), (8, .long x8), (6, .long x4), (0, .ref (ev.2.1 1)), (1, .int a1), (2, .int a2), (3, .int a3), (4, .int a4), (5, .int a5)]) hx hb dX6_likenessInOrder_19 hl (by decide) rfl (fun ls hl => ?_)
  refine lv_iload_n hx hb dX6_likenessInOrder_21 rfl (lv_at hl 5 rfl) ?_
  refine lv_iconst (v := (4 : Int32)) hx hb dX6_likenessInOrder_22 (by decide) ?_
  refine lv_imul hx hb dX6_likenessInOrder_23 ?_
  obtain ⟨x10, ex10, hf⟩ := lt_some hf
  refine tope ex10 ?_
  refine lv_istore (lv' := [(11, .int x10), (10, .int x9), (8, .long x8), (6, .long x4), (0, .ref (ev.2.1 1)), (1, .int a1), (2, .int a2), (3, .int a3), (4, .int a4), (5, .int a5)]) hx hb dX6_likenessInOrder_24 hl (by decide) rfl (fun ls hl => ?_)
  refine lv_bipush (v := (6 : Int32)) hx hb dX6_likenessInOrder_26 (by decide) ?_
  refine lv_iload_n hx hb dX6_likenessInOrder_28 rfl (lv_at hl 7 rfl) ?_
  refine lv_isub hx hb dX6_likenessInOrder_29 ?_
  refine lv_iload hx hb dX6_likenessInOrder_30 (lv_at hl 8 rfl) ?_
  refine lv_isub hx hb dX6_likenessInOrder_32 ?_
  refine lv_iload hx hb dX6_likenessInOrder_33 (lv_at hl 9 rfl) ?_
  refine lv_isub hx hb dX6_likenessInOrder_35 ?_
  obtain ⟨x11, ex11, hf⟩ := lt_some hf
  refine tope ex11 ?_
  refine lv_istore (lv' := [(12, .int x11), (11, .int x10), (10, .int x9), (8, .long x8), (6, .long x4), (0, .ref (ev.2.1 1)), (1, .int a1), (2, .int a2), (3, .int a3), (4, .int a4), (5, .int a5)]) hx hb dX6_likenessInOrder_36 hl (by decide) rfl (fun ls hl => ?_)
  refine lv_aload_n hx hb dX6_likenessInOrder_38 rfl (lv_at hl 5 rfl) ?_
  refine gB1_5 hc hw fl_X6_21 dX6_likenessInOrder_39 ?_
  refine lv_iload hx hb dX6_likenessInOrder_42 (lv_at hl 2 rfl) ?_
  obtain ⟨z, hf⟩ := oi_some hf
  refine aB15 hc hw z dX6_likenessInOrder_44 ?_
  refine lv_i2l (v := (gA u6 6 x9.toNatClampNeg).toInt64) hx hb dX6_likenessInOrder_45 rfl ?_
  refine lv_lload hx hb dX6_likenessInOrder_46 (lv_at hl 3 rfl) ?_
  refine lv_lmul hx hb dX6_likenessInOrder_48 ?_
  refine lv_aload_n hx hb dX6_likenessInOrder_49 rfl (lv_at hl 5 rfl) ?_
  refine gB1_5 hc hw fl_X6_21 dX6_likenessInOrder_50 ?_
  refine lv_iload hx hb dX6_likenessInOrder_53 (lv_at hl 1 rfl) ?_
  refine lv_iload_n hx hb dX6_likenessInOrder_55 rfl (lv_at hl 8 rfl) ?_
  refine lv_iadd hx hb dX6_likenessInOrder_56 ?_
  obtain ⟨z, hf⟩ := oi_some hf
  refine aB15 hc hw z dX6_likenessInOrder_57 ?_
  refine lv_i2l (v := (gA u6 6 (x10 + a3).toNatClampNeg).toInt64) hx hb dX6_likenessInOrder_58 rfl ?_
  refine lv_lload hx hb dX6_likenessInOrder_59 (lv_at hl 4 rfl) ?_
  refine lv_lmul hx hb dX6_likenessInOrder_61 ?_
  refine lv_lsub hx hb dX6_likenessInOrder_62 ?_
  refine va_mabs_long hx hb (hml.trans hl.1.symm) hown (hts _ ml_X6_25) (hts _ va_mabs_long_st) (hts _ math_in) (hts _ va_mabs_long_cd) (by decide) (Nat.le_of_ble_eq_true rfl) (Nat.zero_le _) (Nat.zero_le _) dX6_likenessInOrder_63 ?_
  refine lv_aload_n hx hb dX6_likenessInOrder_66 rfl (lv_at hl 5 rfl) ?_
  refine gB1_5 hc hw fl_X6_21 dX6_likenessInOrder_67 ?_
  refine lv_iload hx hb dX6_likenessInOrder_70 (lv_at hl 2 rfl) ?_
  refine lv_iconst (v := (1 : Int32)) hx hb dX6_likenessInOrder_72 (by decide) ?_
  refine lv_iadd hx hb dX6_likenessInOrder_73 ?_
  obtain ⟨z, hf⟩ := oi_some hf
  refine aB15 hc hw z dX6_likenessInOrder_74 ?_
  refine lv_i2l (v := (gA u6 6 (x9 + (1 : Int32)).toNatClampNeg).toInt64) hx hb dX6_likenessInOrder_75 rfl ?_
  refine lv_lload hx hb dX6_likenessInOrder_76 (lv_at hl 3 rfl) ?_
  refine lv_lmul hx hb dX6_likenessInOrder_78 ?_
  refine lv_aload_n hx hb dX6_likenessInOrder_79 rfl (lv_at hl 5 rfl) ?_
  refine gB1_5 hc hw fl_X6_21 dX6_likenessInOrder_80 ?_
  refine lv_iload hx hb dX6_likenessInOrder_83 (lv_at hl 1 rfl) ?_
  refine lv_iload hx hb dX6_likenessInOrder_85 (lv_at hl 9 rfl) ?_
  refine lv_iadd hx hb dX6_likenessInOrder_87 ?_
  obtain ⟨z, hf⟩ := oi_some hf
  refine aB15 hc hw z dX6_likenessInOrder_88 ?_
  refine lv_i2l (v := (gA u6 6 (x10 + a4).toNatClampNeg).toInt64) hx hb dX6_likenessInOrder_89 rfl ?_
  refine lv_lload hx hb dX6_likenessInOrder_90 (lv_at hl 4 rfl) ?_
  refine lv_lmul hx hb dX6_likenessInOrder_92 ?_
  refine lv_lsub hx hb dX6_likenessInOrder_93 ?_
  refine va_mabs_long hx hb (hml.trans hl.1.symm) hown (hts _ ml_X6_25) (hts _ va_mabs_long_st) (hts _ math_in) (hts _ va_mabs_long_cd) (by decide) (Nat.le_of_ble_eq_true rfl) (Nat.zero_le _) (Nat.zero_le _) dX6_likenessInOrder_94 ?_
  refine lv_ladd hx hb dX6_likenessInOrder_97 ?_
  refine lv_aload_n hx hb dX6_likenessInOrder_98 rfl (lv_at hl 5 rfl) ?_
  refine gB1_5 hc hw fl_X6_21 dX6_likenessInOrder_99 ?_
  refine lv_iload hx hb dX6_likenessInOrder_102 (lv_at hl 2 rfl) ?_
  refine lv_iconst (v := (2 : Int32)) hx hb dX6_likenessInOrder_104 (by decide) ?_
  refine lv_iadd hx hb dX6_likenessInOrder_105 ?_
  obtain ⟨z, hf⟩ := oi_some hf
  refine aB15 hc hw z dX6_likenessInOrder_106 ?_
  refine lv_i2l (v := (gA u6 6 (x9 + (2 : Int32)).toNatClampNeg).toInt64) hx hb dX6_likenessInOrder_107 rfl ?_
  refine lv_lload hx hb dX6_likenessInOrder_108 (lv_at hl 3 rfl) ?_
  refine lv_lmul hx hb dX6_likenessInOrder_110 ?_
  refine lv_aload_n hx hb dX6_likenessInOrder_111 rfl (lv_at hl 5 rfl) ?_
  refine gB1_5 hc hw fl_X6_21 dX6_likenessInOrder_112 ?_
  refine lv_iload hx hb dX6_likenessInOrder_115 (lv_at hl 1 rfl) ?_
  refine lv_iload hx hb dX6_likenessInOrder_117 (lv_at hl 10 rfl) ?_
  refine lv_iadd hx hb dX6_likenessInOrder_119 ?_
  obtain ⟨z, hf⟩ := oi_some hf
  refine aB15 hc hw z dX6_likenessInOrder_120 ?_
  refine lv_i2l (v := (gA u6 6 (x10 + a5).toNatClampNeg).toInt64) hx hb dX6_likenessInOrder_121 rfl ?_
  refine lv_lload hx hb dX6_likenessInOrder_122 (lv_at hl 4 rfl) ?_
  refine lv_lmul hx hb dX6_likenessInOrder_124 ?_
  refine lv_lsub hx hb dX6_likenessInOrder_125 ?_
  refine va_mabs_long hx hb (hml.trans hl.1.symm) hown (hts _ ml_X6_25) (hts _ va_mabs_long_st) (hts _ math_in) (hts _ va_mabs_long_cd) (by decide) (Nat.le_of_ble_eq_true rfl) (Nat.zero_le _) (Nat.zero_le _) dX6_likenessInOrder_126 ?_
  refine lv_ladd hx hb dX6_likenessInOrder_129 ?_
  refine lv_aload_n hx hb dX6_likenessInOrder_130 rfl (lv_at hl 5 rfl) ?_
  refine gB1_5 hc hw fl_X6_21 dX6_likenessInOrder_131 ?_
  refine lv_iload hx hb dX6_likenessInOrder_134 (lv_at hl 2 rfl) ?_
  refine lv_iconst (v := (3 : Int32)) hx hb dX6_likenessInOrder_136 (by decide) ?_
  refine lv_iadd hx hb dX6_likenessInOrder_137 ?_
  obtain ⟨z, hf⟩ := oi_some hf
  refine aB15 hc hw z dX6_likenessInOrder_138 ?_
  refine lv_i2l (v := (gA u6 6 (x9 + (3 : Int32)).toNatClampNeg).toInt64) hx hb dX6_likenessInOrder_139 rfl ?_
  refine lv_lload hx hb dX6_likenessInOrder_140 (lv_at hl 3 rfl) ?_
  refine lv_lmul hx hb dX6_likenessInOrder_142 ?_
  refine lv_aload_n hx hb dX6_likenessInOrder_143 rfl (lv_at hl 5 rfl) ?_
  refine gB1_5 hc hw fl_X6_21 dX6_likenessInOrder_144 ?_
  refine lv_iload hx hb dX6_likenessInOrder_147 (lv_at hl 1 rfl) ?_
  refine lv_iload hx hb dX6_likenessInOrder_149 (lv_at hl 0 rfl) ?_
  refine lv_iadd hx hb dX6_likenessInOrder_151 ?_
  obtain ⟨z, hf⟩ := oi_some hf
  refine aB15 hc hw z dX6_likenessInOrder_152 ?_
  refine lv_i2l (v := (gA u6 6 (x10 + x11).toNatClampNeg).toInt64) hx hb dX6_likenessInOrder_153 rfl ?_
  refine lv_lload hx hb dX6_likenessInOrder_154 (lv_at hl 4 rfl) ?_
  refine lv_lmul hx hb dX6_likenessInOrder_156 ?_
  refine lv_lsub hx hb dX6_likenessInOrder_157 ?_
  refine va_mabs_long hx hb (hml.trans hl.1.symm) hown (hts _ ml_X6_25) (hts _ va_mabs_long_st) (hts _ math_in) (hts _ va_mabs_long_cd) (by decide) (Nat.le_of_ble_eq_true rfl) (Nat.zero_le _) (Nat.zero_le _) dX6_likenessInOrder_158 ?_
  refine lv_ladd hx hb dX6_likenessInOrder_161 ?_
  exact retL hc hr hlk hw hf dX6_likenessInOrder_162
def f_X6_likenessOf (a1 : Int32) (a2 : Int32) (u : SS) : Option (Int64 × SS) :=
  ob (f_X6_likenessInOrder a1 a2 (0 : Int32) (1 : Int32) (2 : Int32) u) fun r3 u2 => some (r3, u2)
set_option maxHeartbeats 4000000 in
set_option maxRecDepth 100000 in
theorem c_X6_likenessOf (l : Launch) (ev : EV) (a1 : Int32) (a2 : Int32) (u : SS) {r : Int64} {u' : SS} (hf : f_X6_likenessOf a1 a2 u = some (r, u')) : ML wdB l yX6_likenessOf cX6_likenessOf 3 (some .long) 2 ev [.ref (ev.2.1 1), .int a1, .int a2] u r u' := by
  refine bodyL (by decide +kernel) rfl (Nat.le_of_ble_eq_true rfl) ?_
  intro p e s m below meth cd ls H locs hc hr hlk hw hl
  generalize hav : (List.toArray [.ref (ev.2.1 1), .int a1, .int a2] : Array Value) = av at hc ⊢
  obtain ⟨hx, hb, hml, hown, hts, hK, hZ⟩ := id hc
  have hl : lv_has ls 3 [(0, .ref (ev.2.1 1)), (1, .int a1), (2, .int a2)] := hl
  unfold f_X6_likenessOf at hf
  refine lv_aload_n hx hb dX6_likenessOf_0 rfl (lv_at hl 0 rfl) ?_
  refine lv_iload_n hx hb dX6_likenessOf_1 rfl (lv_at hl 1 rfl) ?_
  refine lv_iload_n hx hb dX6_likenessOf_2 rfl (lv_at hl 2 rfl) ?_
  refine lv_iconst (v := (0 : Int32)) hx hb dX6_likenessOf_3 (by decide) ?_
  refine lv_iconst (v := (1 : Int32)) hx hb dX6_likenessOf_4 (by decide) ?_
  refine lv_iconst (v := (2 : Int32)) hx hb dX6_likenessOf_5 (by decide) ?_
  obtain ⟨r3, u2, h1, hf⟩ := ob_some hf
  refine endL okB hw (runS_ok (As := [.ref (ev.2.1 1), .int a1, .int a2, .int (0 : Int32), .int (1 : Int32), .int (2 : Int32)]) (rest := []) okB hc hw (c_X6_likenessInOrder l ev a1 a2 (0 : Int32) (1 : Int32) (2 : Int32) u h1 H.size) ks_X6_likenessInOrder ml_X6_9 hl.1 rfl rfl (Nat.le_of_ble_eq_true rfl) (rm_le (by decide) (by decide)) dX6_likenessOf_6) (fun H locs hw => ?_)
  exact retL hc hr hlk hw hf dX6_likenessOf_9
def f_X9_likeness_L48 (u : SS) : Option (Int64 × SS) :=
  ob (f_X9_refuseLong (-5 : Int32) u) fun r9 u8 => some (r9, u8)
def f_X9_likeness (a1 : Int32) (a2 : Int32) (a3 : Int32) (u : SS) : Option (Int64 × SS) :=
  ob (f_X9_noPair a1 a2 a3 u) fun r3 u2 => if r3 = 0 then (ob (f_X9_cell a2 a1 u2) fun r6 u5 => oi r6 48 (if (gA u5 3 r6.toNatClampNeg) = 0 then (f_X9_likeness_L48 u5) else (ob (f_X9_cell a3 a1 u5) fun r12 u11 => oi r12 48 (if (gA u11 3 r12.toNatClampNeg) = 0 then (f_X9_likeness_L48 u11) else (ob (f_X9_cell a2 a1 u11) fun r15 u14 => ob (f_X9_cell a3 a1 u14) fun r18 u17 => ob (f_X6_likenessOf r15 r18 u17) fun r21 u20 => some (r21, u20)))))) else (ob (f_X9_refuseLong (-1 : Int32) u2) fun r24 u23 => some (r24, u23))
set_option maxHeartbeats 4000000 in
set_option maxRecDepth 100000 in
theorem c_X9_likeness (l : Launch) (ev : EV) (a1 : Int32) (a2 : Int32) (a3 : Int32) (u : SS) {r : Int64} {u' : SS} (hf : f_X9_likeness a1 a2 a3 u = some (r, u')) : ML wdB l yX9_likeness cX9_likeness 4 (some .long) 3 ev [.ref (ev.2.1 0), .int a1, .int a2, .int a3] u r u' := by
  refine bodyL (by decide +kernel) rfl (Nat.le_of_ble_eq_true rfl) ?_
  intro p e s m below meth cd ls H locs hc hr hlk hw hl
  generalize hav : (List.toArray [.ref (ev.2.1 0), .int a1, .int a2, .int a3] : Array Value) = av at hc ⊢
  obtain ⟨hx, hb, hml, hown, hts, hK, hZ⟩ := id hc
  have hl : lv_has ls 4 [(0, .ref (ev.2.1 0)), (1, .int a1), (2, .int a2), (3, .int a3)] := hl
  have wL48 : ∀ (u : SS) (H : Heap) (locs : List Loc) (ls : Array Slot), VW wdB ev s u H locs → lv_has ls 4 [(0, .ref (ev.2.1 0))] → f_X9_likeness_L48  u = some (r, u') → W p l e (rmk 3) s m av below meth cd H locs 0 0 (ZL wdB ev s below av r u') (F0 m 48 ls []) := by
    intro  u H locs ls hw hl hf
    unfold f_X9_likeness_L48 at hf
    refine lv_aload_n hx hb dX9_likeness_48 rfl (lv_at hl 0 rfl) ?_
    refine lv_bipush (v := (-5 : Int32)) hx hb dX9_likeness_49 (by decide) ?_
    obtain ⟨r9, u8, h7, hf⟩ := ob_some hf
    refine endL okB hw (runV_ok (As := [.int (-5 : Int32)]) (rest := []) okB hc hw (c_X9_refuseLong l ev (-5 : Int32) u h7 H.size) kv_X9_refuseLong ml_X9_176 (rvB0 ev u) hl.1 rfl rfl (Nat.le_of_ble_eq_true rfl) (rm_le (by decide) (by decide)) dX9_likeness_51) (fun H locs hw => ?_)
    exact retL hc hr hlk hw hf dX9_likeness_54
  unfold f_X9_likeness at hf
  refine lv_aload_n hx hb dX9_likeness_0 rfl (lv_at hl 0 rfl) ?_
  refine lv_iload_n hx hb dX9_likeness_1 rfl (lv_at hl 1 rfl) ?_
  refine lv_iload_n hx hb dX9_likeness_2 rfl (lv_at hl 2 rfl) ?_
  refine lv_iload_n hx hb dX9_likeness_3 rfl (lv_at hl 3 rfl) ?_
  obtain ⟨r3, u2, h1, hf⟩ := ob_some hf
  refine endI okB hw (runV_ok (As := [.int a1, .int a2, .int a3]) (rest := []) okB hc hw (c_X9_noPair l ev a1 a2 a3 u h1 H.size) kv_X9_noPair ml_X9_223 (rvB0 ev u) hl.1 rfl rfl (Nat.le_of_ble_eq_true rfl) (rm_le (by decide) (by decide)) dX9_likeness_4) (fun H locs hw => ?_)
  refine lv_if_eq (tgt := 16) hx hb dX9_likeness_7 (by decide) (fun z => ?_) (fun z => ?_)
  · have hf := it_pos z hf
    refine lv_aload_n hx hb dX9_likeness_16 rfl (lv_at hl 0 rfl) ?_
    refine gB0_0 hc hw fl_X9_12 dX9_likeness_17 ?_
    refine gB1_2 hc hw fl_X9_113 dX9_likeness_20 ?_
    refine lv_iload_n hx hb dX9_likeness_23 rfl (lv_at hl 2 rfl) ?_
    refine lv_iload_n hx hb dX9_likeness_24 rfl (lv_at hl 1 rfl) ?_
    obtain ⟨r6, u5, h4, hf⟩ := ob_some hf
    refine endI okB hw (runS_ok (As := [.int a2, .int a1]) (rest := [.ref (ev.2.1 12)]) okB hc hw (c_X9_cell l ev a2 a1 u2 h4 H.size) ks_X9_cell ml_X9_110 hl.1 rfl rfl (Nat.le_of_ble_eq_true rfl) (rm_le (by decide) (by decide)) dX9_likeness_25) (fun H locs hw => ?_)
    obtain ⟨z, hf⟩ := oi_some hf
    refine aB12 hc hw z dX9_likeness_28 ?_
    refine lv_if_eq (tgt := 48) hx hb dX9_likeness_29 (by decide) (fun z => ?_) (fun z => ?_)
    · have hf := it_pos z hf
      exact wL48 u5 H locs ls hw (lv_sub hl [0] rfl) hf
    · have hf := it_neg z hf
      refine lv_aload_n hx hb dX9_likeness_32 rfl (lv_at hl 0 rfl) ?_
      refine gB0_0 hc hw fl_X9_12 dX9_likeness_33 ?_
      refine gB1_2 hc hw fl_X9_113 dX9_likeness_36 ?_
      refine lv_iload_n hx hb dX9_likeness_39 rfl (lv_at hl 3 rfl) ?_
      refine lv_iload_n hx hb dX9_likeness_40 rfl (lv_at hl 1 rfl) ?_
      obtain ⟨r12, u11, h10, hf⟩ := ob_some hf
      refine endI okB hw (runS_ok (As := [.int a3, .int a1]) (rest := [.ref (ev.2.1 12)]) okB hc hw (c_X9_cell l ev a3 a1 u5 h10 H.size) ks_X9_cell ml_X9_110 hl.1 rfl rfl (Nat.le_of_ble_eq_true rfl) (rm_le (by decide) (by decide)) dX9_likeness_41) (fun H locs hw => ?_)
      obtain ⟨z, hf⟩ := oi_some hf
      refine aB12 hc hw z dX9_likeness_44 ?_
      refine lv_if_ne (tgt := 55) hx hb dX9_likeness_45 (by decide) (fun z => ?_) (fun z => ?_)
      · have hf := it_neg z hf
        refine lv_aload_n hx hb dX9_likeness_55 rfl (lv_at hl 0 rfl) ?_
        refine gB0_0 hc hw fl_X9_12 dX9_likeness_56 ?_
        refine lv_iload_n hx hb dX9_likeness_59 rfl (lv_at hl 2 rfl) ?_
        refine lv_iload_n hx hb dX9_likeness_60 rfl (lv_at hl 1 rfl) ?_
        obtain ⟨r15, u14, h13, hf⟩ := ob_some hf
        refine endI okB hw (runS_ok (As := [.int a2, .int a1]) (rest := [.ref (ev.2.1 1)]) okB hc hw (c_X9_cell l ev a2 a1 u11 h13 H.size) ks_X9_cell ml_X9_110 hl.1 rfl rfl (Nat.le_of_ble_eq_true rfl) (rm_le (by decide) (by decide)) dX9_likeness_61) (fun H locs hw => ?_)
        refine lv_iload_n hx hb dX9_likeness_64 rfl (lv_at hl 3 rfl) ?_
        refine lv_iload_n hx hb dX9_likeness_65 rfl (lv_at hl 1 rfl) ?_
        obtain ⟨r18, u17, h16, hf⟩ := ob_some hf
        refine endI okB hw (runS_ok (As := [.int a3, .int a1]) (rest := [.int r15, .ref (ev.2.1 1)]) okB hc hw (c_X9_cell l ev a3 a1 u14 h16 H.size) ks_X9_cell ml_X9_110 hl.1 rfl rfl (Nat.le_of_ble_eq_true rfl) (rm_le (by decide) (by decide)) dX9_likeness_66) (fun H locs hw => ?_)
        obtain ⟨r21, u20, h19, hf⟩ := ob_some hf
        refine endL okB hw (runS_ok (As := [.ref (ev.2.1 1), .int r15, .int r18]) (rest := []) okB hc hw (c_X6_likenessOf l ev r15 r18 u17 h19 H.size) ks_X6_likenessOf ml_X9_312 hl.1 rfl rfl (Nat.le_of_ble_eq_true rfl) (rm_le (by decide) (by decide)) dX9_likeness_69) (fun H locs hw => ?_)
        exact retL hc hr hlk hw hf dX9_likeness_72
      · have hf := it_pos z hf
        exact wL48 u11 H locs ls hw (lv_sub hl [0] rfl) hf
  · have hf := it_neg z hf
    refine lv_aload_n hx hb dX9_likeness_10 rfl (lv_at hl 0 rfl) ?_
    refine lv_iconst (v := (-1 : Int32)) hx hb dX9_likeness_11 (by decide) ?_
    obtain ⟨r24, u23, h22, hf⟩ := ob_some hf
    refine endL okB hw (runV_ok (As := [.int (-1 : Int32)]) (rest := []) okB hc hw (c_X9_refuseLong l ev (-1 : Int32) u2 h22 H.size) kv_X9_refuseLong ml_X9_176 (rvB0 ev u2) hl.1 rfl rfl (Nat.le_of_ble_eq_true rfl) (rm_le (by decide) (by decide)) dX9_likeness_12) (fun H locs hw => ?_)
    exact retL hc hr hlk hw hf dX9_likeness_15
def f_X6_chanceOf_L90 (k31 : Int32 → Int32 → Int64 → Int32 → Int32 → Int32 → Int32 → SS → Option (Int32 × SS)) (b1 : Int32) (b2 : Int32) (b3 : Int64) (b5 : Int32) (b6 : Int32) (b7 : Int32) (b8 : Int32) (u : SS) : Option (Int32 × SS) :=
  lt (b8 + (1 : Int32)) fun x6 => k31 b1 b2 b3 b5 b6 b7 x6 u
def f_X6_chanceOf_L63 (k31 : Int32 → Int32 → Int64 → Int32 → Int32 → Int32 → Int32 → SS → Option (Int32 × SS)) (b1 : Int32) (b2 : Int32) (b3 : Int64) (b5 : Int32) (b6 : Int32) (b7 : Int32) (b8 : Int32) (q0 : Int32) (u : SS) : Option (Int32 × SS) :=
  if q0 = 0 then (f_X6_chanceOf_L90 k31 b1 b2 b3 b5 b6 b7 b8 u) else (ob (f_X6_likenessInOrder b1 b2 b6 b7 b8 u) fun r9 u8 => if 0 < (lg_cmp r9 b3) then (f_X6_chanceOf_L90 k31 b1 b2 b3 b5 b6 b7 b8 u8) else (lt (b5 + (1 : Int32)) fun x10 => f_X6_chanceOf_L90 k31 b1 b2 b3 x10 b6 b7 b8 u8))
def f_X6_chanceOf_L62 (k31 : Int32 → Int32 → Int64 → Int32 → Int32 → Int32 → Int32 → SS → Option (Int32 × SS)) (b1 : Int32) (b2 : Int32) (b3 : Int64) (b5 : Int32) (b6 : Int32) (b7 : Int32) (b8 : Int32) (u : SS) : Option (Int32 × SS) :=
  f_X6_chanceOf_L63 k31 b1 b2 b3 b5 b6 b7 b8 (0 : Int32) u
def b_X6_chanceOf_L31 (k22 : Int32 → Int32 → Int64 → Int32 → Int32 → Int32 → SS → Option (Int32 × SS)) (k31 : Int32 → Int32 → Int64 → Int32 → Int32 → Int32 → Int32 → SS → Option (Int32 × SS)) (b1 : Int32) (b2 : Int32) (b3 : Int64) (b5 : Int32) (b6 : Int32) (b7 : Int32) (b8 : Int32) (u : SS) : Option (Int32 × SS) :=
  if (4 : Int32) ≤ b8 then (lt (b7 + (1 : Int32)) fun x5 => k22 b1 b2 b3 b5 b6 x5 u) else (if b6 = b7 then (f_X6_chanceOf_L62 k31 b1 b2 b3 b5 b6 b7 b8 u) else (if b6 = b8 then (f_X6_chanceOf_L62 k31 b1 b2 b3 b5 b6 b7 b8 u) else (if b7 = b8 then (f_X6_chanceOf_L62 k31 b1 b2 b3 b5 b6 b7 b8 u) else (f_X6_chanceOf_L63 k31 b1 b2 b3 b5 b6 b7 b8 (1 : Int32) u))))
def f_X6_chanceOf_L31 (k22 : Int32 → Int32 → Int64 → Int32 → Int32 → Int32 → SS → Option (Int32 × SS)) : Nat → Int32 → Int32 → Int64 → Int32 → Int32 → Int32 → Int32 → SS → Option (Int32 × SS)
  | 0 => fun _ _ _ _ _ _ _ _ => none
  | n + 1 => b_X6_chanceOf_L31 k22 (f_X6_chanceOf_L31 k22 n)
def b_X6_chanceOf_L22 (k13 : Int32 → Int32 → Int64 → Int32 → Int32 → SS → Option (Int32 × SS)) (k22 : Int32 → Int32 → Int64 → Int32 → Int32 → Int32 → SS → Option (Int32 × SS)) (b1 : Int32) (b2 : Int32) (b3 : Int64) (b5 : Int32) (b6 : Int32) (b7 : Int32) (u : SS) : Option (Int32 × SS) :=
  if (4 : Int32) ≤ b7 then (lt (b6 + (1 : Int32)) fun x4 => k13 b1 b2 b3 b5 x4 u) else (f_X6_chanceOf_L31 k22 FU b1 b2 b3 b5 b6 b7 (0 : Int32) u)
def f_X6_chanceOf_L22 (k13 : Int32 → Int32 → Int64 → Int32 → Int32 → SS → Option (Int32 × SS)) : Nat → Int32 → Int32 → Int64 → Int32 → Int32 → Int32 → SS → Option (Int32 × SS)
  | 0 => fun _ _ _ _ _ _ _ => none
  | n + 1 => b_X6_chanceOf_L22 k13 (f_X6_chanceOf_L22 k13 n)
def b_X6_chanceOf_L13 (k13 : Int32 → Int32 → Int64 → Int32 → Int32 → SS → Option (Int32 × SS)) (b1 : Int32) (b2 : Int32) (b3 : Int64) (b5 : Int32) (b6 : Int32) (u : SS) : Option (Int32 × SS) :=
  if (4 : Int32) ≤ b6 then (some (b5, u)) else (f_X6_chanceOf_L22 k13 FU b1 b2 b3 b5 b6 (0 : Int32) u)
def f_X6_chanceOf_L13 : Nat → Int32 → Int32 → Int64 → Int32 → Int32 → SS → Option (Int32 × SS)
  | 0 => fun _ _ _ _ _ _ => none
  | n + 1 => b_X6_chanceOf_L13 (f_X6_chanceOf_L13 n)
def f_X6_chanceOf (a1 : Int32) (a2 : Int32) (u : SS) : Option (Int32 × SS) :=
  ob (f_X6_likenessOf a1 a2 u) fun r3 u2 => f_X6_chanceOf_L13 FU a1 a2 r3 (0 : Int32) (0 : Int32) u2
set_option maxHeartbeats 4000000 in
set_option maxRecDepth 100000 in
theorem c_X6_chanceOf (l : Launch) (ev : EV) (a1 : Int32) (a2 : Int32) (u : SS) {r : Int32} {u' : SS} (hf : f_X6_chanceOf a1 a2 u = some (r, u')) : MI wdB l yX6_chanceOf cX6_chanceOf 10 (some .int) 3 ev [.ref (ev.2.1 1), .int a1, .int a2] u r u' := by
  refine bodyI (by decide +kernel) rfl (Nat.le_of_ble_eq_true rfl) ?_
  intro p e s m below meth cd ls H locs hc hr hlk hw hl
  generalize hav : (List.toArray [.ref (ev.2.1 1), .int a1, .int a2] : Array Value) = av at hc ⊢
  obtain ⟨hx, hb, hml, hown, hts, hK, hZ⟩ := id hc
  have hl : lv_has ls 10 [(0, .ref (ev.2.1 1)), (1, .int a1), (2, .int a2)] := hl
  have wL90 : ∀ (k31 : Int32 → Int32 → Int64 → Int32 → Int32 → Int32 → Int32 → SS → Option (Int32 × SS)) (hk31 : ∀ (b1 : Int32) (b2 : Int32) (b3 : Int64) (b5 : Int32) (b6 : Int32) (b7 : Int32) (b8 : Int32) (u : SS) (H : Heap) (locs : List Loc) (ls : Array Slot), VW wdB ev s u H locs → lv_has ls 10 [(0, .ref (ev.2.1 1)), (1, .int b1), (2, .int b2), (3, .long b3), (5, .int b5), (6, .int b6), (7, .int b7), (8, .int b8)] → k31 b1 b2 b3 b5 b6 b7 b8 u = some (r, u') → W p l e (rmk 3) s m av below meth cd H locs 0 0 (ZI wdB ev s below av r u') (F0 m 31 ls [])) (b1 : Int32) (b2 : Int32) (b3 : Int64) (b5 : Int32) (b6 : Int32) (b7 : Int32) (b8 : Int32) (u : SS) (H : Heap) (locs : List Loc) (ls : Array Slot), VW wdB ev s u H locs → lv_has ls 10 [(0, .ref (ev.2.1 1)), (1, .int b1), (2, .int b2), (3, .long b3), (5, .int b5), (6, .int b6), (7, .int b7), (8, .int b8)] → f_X6_chanceOf_L90 k31 b1 b2 b3 b5 b6 b7 b8 u = some (r, u') → W p l e (rmk 3) s m av below meth cd H locs 0 0 (ZI wdB ev s below av r u') (F0 m 90 ls []) := by
    intro k31 hk31 b1 b2 b3 b5 b6 b7 b8 u H locs ls hw hl hf
    unfold f_X6_chanceOf_L90 at hf
    obtain ⟨x6, ex6, hf⟩ := lt_some hf
    refine lv_iinc (v := x6) (lv' := [(8, .int x6), (0, .ref (ev.2.1 1)), (1, .int b1), (2, .int b2), (3, .long b3), (5, .int b5), (6, .int b6), (7, .int b7)]) hx hb dX6_chanceOf_90 hl (k := 7) rfl (by rw [ex6]; rfl) (by decide) rfl (fun ls hl => ?_)
    refine lv_goto (tgt := 31) hx hb dX6_chanceOf_93 (by decide) ?_
    exact hk31 b1 b2 b3 b5 b6 b7 x6 u H locs ls hw (lv_sub hl [1, 2, 3, 4, 5, 6, 7, 0] rfl) hf
  have wL63 : ∀ (k31 : Int32 → Int32 → Int64 → Int32 → Int32 → Int32 → Int32 → SS → Option (Int32 × SS)) (hk31 : ∀ (b1 : Int32) (b2 : Int32) (b3 : Int64) (b5 : Int32) (b6 : Int32) (b7 : Int32) (b8 : Int32) (u : SS) (H : Heap) (locs : List Loc) (ls : Array Slot), VW wdB ev s u H locs → lv_has ls 10 [(0, .ref (ev.2.1 1)), (1, .int b1), (2, .int b2), (3, .long b3), (5, .int b5), (6, .int b6), (7, .int b7), (8, .int b8)] → k31 b1 b2 b3 b5 b6 b7 b8 u = some (r, u') → W p l e (rmk 3) s m av below meth cd H locs 0 0 (ZI wdB ev s below av r u') (F0 m 31 ls [])) (b1 : Int32) (b2 : Int32) (b3 : Int64) (b5 : Int32) (b6 : Int32) (b7 : Int32) (b8 : Int32) (q0 : Int32) (u : SS) (H : Heap) (locs : List Loc) (ls : Array Slot), VW wdB ev s u H locs → lv_has ls 10 [(0, .ref (ev.2.1 1)), (1, .int b1), (2, .int b2), (3, .long b3), (5, .int b5), (6, .int b6), (7, .int b7), (8, .int b8)] → f_X6_chanceOf_L63 k31 b1 b2 b3 b5 b6 b7 b8 q0 u = some (r, u') → W p l e (rmk 3) s m av below meth cd H locs 0 0 (ZI wdB ev s below av r u') (F0 m 63 ls [.int q0]) := by
    intro k31 hk31 b1 b2 b3 b5 b6 b7 b8 q0 u H locs ls hw hl hf
    unfold f_X6_chanceOf_L63 at hf
    refine lv_istore (lv' := [(9, .int q0), (0, .ref (ev.2.1 1)), (1, .int b1), (2, .int b2), (3, .long b3), (5, .int b5), (6, .int b6), (7, .int b7), (8, .int b8)]) hx hb dX6_chanceOf_63 hl (by decide) rfl (fun ls hl => ?_)
    refine lv_iload hx hb dX6_chanceOf_65 (lv_at hl 0 rfl) ?_
    refine lv_if_eq (tgt := 90) hx hb dX6_chanceOf_67 (by decide) (fun z => ?_) (fun z => ?_)
    · have hf := it_pos z hf
      exact wL90 k31 hk31 b1 b2 b3 b5 b6 b7 b8 u H locs ls hw (lv_sub hl [1, 2, 3, 4, 5, 6, 7, 8] rfl) hf
    · have hf := it_neg z hf
      refine lv_aload_n hx hb dX6_chanceOf_70 rfl (lv_at hl 1 rfl) ?_
      refine lv_iload_n hx hb dX6_chanceOf_71 rfl (lv_at hl 2 rfl) ?_
      refine lv_iload_n hx hb dX6_chanceOf_72 rfl (lv_at hl 3 rfl) ?_
      refine lv_iload hx hb dX6_chanceOf_73 (lv_at hl 6 rfl) ?_
      refine lv_iload hx hb dX6_chanceOf_75 (lv_at hl 7 rfl) ?_
      refine lv_iload hx hb dX6_chanceOf_77 (lv_at hl 8 rfl) ?_
      obtain ⟨r9, u8, h7, hf⟩ := ob_some hf
      refine endL okB hw (runS_ok (As := [.ref (ev.2.1 1), .int b1, .int b2, .int b6, .int b7, .int b8]) (rest := []) okB hc hw (c_X6_likenessInOrder l ev b1 b2 b6 b7 b8 u h7 H.size) ks_X6_likenessInOrder ml_X6_9 hl.1 rfl rfl (Nat.le_of_ble_eq_true rfl) (rm_le (by decide) (by decide)) dX6_chanceOf_79) (fun H locs hw => ?_)
      refine lv_lload_n hx hb dX6_chanceOf_82 rfl (lv_at hl 4 rfl) ?_
      refine W.lcmp hx hb dX6_chanceOf_83 ?_
      refine lv_if_gt (tgt := 90) hx hb dX6_chanceOf_84 (by decide) (fun z => ?_) (fun z => ?_)
      · have hf := it_pos z hf
        exact wL90 k31 hk31 b1 b2 b3 b5 b6 b7 b8 u8 H locs ls hw (lv_sub hl [1, 2, 3, 4, 5, 6, 7, 8] rfl) hf
      · have hf := it_neg z hf
        obtain ⟨x10, ex10, hf⟩ := lt_some hf
        refine lv_iinc (v := x10) (lv' := [(5, .int x10), (9, .int q0), (0, .ref (ev.2.1 1)), (1, .int b1), (2, .int b2), (3, .long b3), (6, .int b6), (7, .int b7), (8, .int b8)]) hx hb dX6_chanceOf_87 hl (k := 5) rfl (by rw [ex10]; rfl) (by decide) rfl (fun ls hl => ?_)
        exact wL90 k31 hk31 b1 b2 b3 x10 b6 b7 b8 u8 H locs ls hw (lv_sub hl [2, 3, 4, 5, 0, 6, 7, 8] rfl) hf
  have wL62 : ∀ (k31 : Int32 → Int32 → Int64 → Int32 → Int32 → Int32 → Int32 → SS → Option (Int32 × SS)) (hk31 : ∀ (b1 : Int32) (b2 : Int32) (b3 : Int64) (b5 : Int32) (b6 : Int32) (b7 : Int32) (b8 : Int32) (u : SS) (H : Heap) (locs : List Loc) (ls : Array Slot), VW wdB ev s u H locs → lv_has ls 10 [(0, .ref (ev.2.1 1)), (1, .int b1), (2, .int b2), (3, .long b3), (5, .int b5), (6, .int b6), (7, .int b7), (8, .int b8)] → k31 b1 b2 b3 b5 b6 b7 b8 u = some (r, u') → W p l e (rmk 3) s m av below meth cd H locs 0 0 (ZI wdB ev s below av r u') (F0 m 31 ls [])) (b1 : Int32) (b2 : Int32) (b3 : Int64) (b5 : Int32) (b6 : Int32) (b7 : Int32) (b8 : Int32) (u : SS) (H : Heap) (locs : List Loc) (ls : Array Slot), VW wdB ev s u H locs → lv_has ls 10 [(0, .ref (ev.2.1 1)), (1, .int b1), (2, .int b2), (3, .long b3), (5, .int b5), (6, .int b6), (7, .int b7), (8, .int b8)] → f_X6_chanceOf_L62 k31 b1 b2 b3 b5 b6 b7 b8 u = some (r, u') → W p l e (rmk 3) s m av below meth cd H locs 0 0 (ZI wdB ev s below av r u') (F0 m 62 ls []) := by
    intro k31 hk31 b1 b2 b3 b5 b6 b7 b8 u H locs ls hw hl hf
    unfold f_X6_chanceOf_L62 at hf
    refine lv_iconst (v := (0 : Int32)) hx hb dX6_chanceOf_62 (by decide) ?_
    exact wL63 k31 hk31 b1 b2 b3 b5 b6 b7 b8 (0 : Int32) u H locs ls hw (lv_sub hl [0, 1, 2, 3, 4, 5, 6, 7] rfl) hf
  have wL31 : ∀ (k22 : Int32 → Int32 → Int64 → Int32 → Int32 → Int32 → SS → Option (Int32 × SS)) (hk22 : ∀ (b1 : Int32) (b2 : Int32) (b3 : Int64) (b5 : Int32) (b6 : Int32) (b7 : Int32) (u : SS) (H : Heap) (locs : List Loc) (ls : Array Slot), VW wdB ev s u H locs → lv_has ls 10 [(0, .ref (ev.2.1 1)), (1, .int b1), (2, .int b2), (3, .long b3), (5, .int b5), (6, .int b6), (7, .int b7)] → k22 b1 b2 b3 b5 b6 b7 u = some (r, u') → W p l e (rmk 3) s m av below meth cd H locs 0 0 (ZI wdB ev s below av r u') (F0 m 22 ls [])) (n : Nat) (b1 : Int32) (b2 : Int32) (b3 : Int64) (b5 : Int32) (b6 : Int32) (b7 : Int32) (b8 : Int32) (u : SS) (H : Heap) (locs : List Loc) (ls : Array Slot), VW wdB ev s u H locs → lv_has ls 10 [(0, .ref (ev.2.1 1)), (1, .int b1), (2, .int b2), (3, .long b3), (5, .int b5), (6, .int b6), (7, .int b7), (8, .int b8)] → f_X6_chanceOf_L31 k22 n b1 b2 b3 b5 b6 b7 b8 u = some (r, u') → W p l e (rmk 3) s m av below meth cd H locs 0 0 (ZI wdB ev s below av r u') (F0 m 31 ls []) := by
    intro k22 hk22 n
    induction n with
    | zero =>
      intro b1 b2 b3 b5 b6 b7 b8 u H locs ls hw hl hf
      cases hf
    | succ n hk31 =>
      intro b1 b2 b3 b5 b6 b7 b8 u H locs ls hw hl hf
      have hf : b_X6_chanceOf_L31 k22 (f_X6_chanceOf_L31 k22 n) b1 b2 b3 b5 b6 b7 b8 u = some (r, u') := hf
      unfold b_X6_chanceOf_L31 at hf
      refine lv_iload hx hb dX6_chanceOf_31 (lv_at hl 7 rfl) ?_
      refine lv_iconst (v := (4 : Int32)) hx hb dX6_chanceOf_33 (by decide) ?_
      refine lv_icmp_ge (tgt := 96) hx hb dX6_chanceOf_34 (by decide) (fun z => ?_) (fun z => ?_)
      · have hf := it_pos z hf
        obtain ⟨x5, ex5, hf⟩ := lt_some hf
        refine lv_iinc (v := x5) (lv' := [(7, .int x5), (0, .ref (ev.2.1 1)), (1, .int b1), (2, .int b2), (3, .long b3), (5, .int b5), (6, .int b6), (8, .int b8)]) hx hb dX6_chanceOf_96 hl (k := 6) rfl (by rw [ex5]; rfl) (by decide) rfl (fun ls hl => ?_)
        refine lv_goto (tgt := 22) hx hb dX6_chanceOf_99 (by decide) ?_
        exact hk22 b1 b2 b3 b5 b6 x5 u H locs ls hw (lv_sub hl [1, 2, 3, 4, 5, 6, 0] rfl) hf
      · have hf := it_neg z hf
        refine lv_iload hx hb dX6_chanceOf_37 (lv_at hl 5 rfl) ?_
        refine lv_iload hx hb dX6_chanceOf_39 (lv_at hl 6 rfl) ?_
        refine lv_icmp_eq (tgt := 62) hx hb dX6_chanceOf_41 (by decide) (fun z => ?_) (fun z => ?_)
        · have hf := it_pos z hf
          exact wL62 (f_X6_chanceOf_L31 k22 n) hk31 b1 b2 b3 b5 b6 b7 b8 u H locs ls hw (lv_sub hl [0, 1, 2, 3, 4, 5, 6, 7] rfl) hf
        · have hf := it_neg z hf
          refine lv_iload hx hb dX6_chanceOf_44 (lv_at hl 5 rfl) ?_
          refine lv_iload hx hb dX6_chanceOf_46 (lv_at hl 7 rfl) ?_
          refine lv_icmp_eq (tgt := 62) hx hb dX6_chanceOf_48 (by decide) (fun z => ?_) (fun z => ?_)
          · have hf := it_pos z hf
            exact wL62 (f_X6_chanceOf_L31 k22 n) hk31 b1 b2 b3 b5 b6 b7 b8 u H locs ls hw (lv_sub hl [0, 1, 2, 3, 4, 5, 6, 7] rfl) hf
          · have hf := it_neg z hf
            refine lv_iload hx hb dX6_chanceOf_51 (lv_at hl 6 rfl) ?_
            refine lv_iload hx hb dX6_chanceOf_53 (lv_at hl 7 rfl) ?_
            refine lv_icmp_eq (tgt := 62) hx hb dX6_chanceOf_55 (by decide) (fun z => ?_) (fun z => ?_)
            · have hf := it_pos z hf
              exact wL62 (f_X6_chanceOf_L31 k22 n) hk31 b1 b2 b3 b5 b6 b7 b8 u H locs ls hw (lv_sub hl [0, 1, 2, 3, 4, 5, 6, 7] rfl) hf
            · have hf := it_neg z hf
              refine lv_iconst (v := (1 : Int32)) hx hb dX6_chanceOf_58 (by decide) ?_
              refine lv_goto (tgt := 63) hx hb dX6_chanceOf_59 (by decide) ?_
              exact wL63 (f_X6_chanceOf_L31 k22 n) hk31 b1 b2 b3 b5 b6 b7 b8 (1 : Int32) u H locs ls hw (lv_sub hl [0, 1, 2, 3, 4, 5, 6, 7] rfl) hf
  have wL22 : ∀ (k13 : Int32 → Int32 → Int64 → Int32 → Int32 → SS → Option (Int32 × SS)) (hk13 : ∀ (b1 : Int32) (b2 : Int32) (b3 : Int64) (b5 : Int32) (b6 : Int32) (u : SS) (H : Heap) (locs : List Loc) (ls : Array Slot), VW wdB ev s u H locs → lv_has ls 10 [(0, .ref (ev.2.1 1)), (1, .int b1), (2, .int b2), (3, .long b3), (5, .int b5), (6, .int b6)] → k13 b1 b2 b3 b5 b6 u = some (r, u') → W p l e (rmk 3) s m av below meth cd H locs 0 0 (ZI wdB ev s below av r u') (F0 m 13 ls [])) (n : Nat) (b1 : Int32) (b2 : Int32) (b3 : Int64) (b5 : Int32) (b6 : Int32) (b7 : Int32) (u : SS) (H : Heap) (locs : List Loc) (ls : Array Slot), VW wdB ev s u H locs → lv_has ls 10 [(0, .ref (ev.2.1 1)), (1, .int b1), (2, .int b2), (3, .long b3), (5, .int b5), (6, .int b6), (7, .int b7)] → f_X6_chanceOf_L22 k13 n b1 b2 b3 b5 b6 b7 u = some (r, u') → W p l e (rmk 3) s m av below meth cd H locs 0 0 (ZI wdB ev s below av r u') (F0 m 22 ls []) := by
    intro k13 hk13 n
    induction n with
    | zero =>
      intro b1 b2 b3 b5 b6 b7 u H locs ls hw hl hf
      cases hf
    | succ n hk22 =>
      intro b1 b2 b3 b5 b6 b7 u H locs ls hw hl hf
      have hf : b_X6_chanceOf_L22 k13 (f_X6_chanceOf_L22 k13 n) b1 b2 b3 b5 b6 b7 u = some (r, u') := hf
      unfold b_X6_chanceOf_L22 at hf
      refine lv_iload hx hb dX6_chanceOf_22 (lv_at hl 6 rfl) ?_
      refine lv_iconst (v := (4 : Int32)) hx hb dX6_chanceOf_24 (by decide) ?_
      refine lv_icmp_ge (tgt := 102) hx hb dX6_chanceOf_25 (by decide) (fun z => ?_) (fun z => ?_)
      · have hf := it_pos z hf
        obtain ⟨x4, ex4, hf⟩ := lt_some hf
        refine lv_iinc (v := x4) (lv' := [(6, .int x4), (0, .ref (ev.2.1 1)), (1, .int b1), (2, .int b2), (3, .long b3), (5, .int b5), (7, .int b7)]) hx hb dX6_chanceOf_102 hl (k := 5) rfl (by rw [ex4]; rfl) (by decide) rfl (fun ls hl => ?_)
        refine lv_goto (tgt := 13) hx hb dX6_chanceOf_105 (by decide) ?_
        exact hk13 b1 b2 b3 b5 x4 u H locs ls hw (lv_sub hl [1, 2, 3, 4, 5, 0] rfl) hf
      · have hf := it_neg z hf
        refine lv_iconst (v := (0 : Int32)) hx hb dX6_chanceOf_28 (by decide) ?_
        refine lv_istore (lv' := [(8, .int (0 : Int32)), (0, .ref (ev.2.1 1)), (1, .int b1), (2, .int b2), (3, .long b3), (5, .int b5), (6, .int b6), (7, .int b7)]) hx hb dX6_chanceOf_29 hl (by decide) rfl (fun ls hl => ?_)
        exact wL31 (f_X6_chanceOf_L22 k13 n) hk22 FU b1 b2 b3 b5 b6 b7 (0 : Int32) u H locs ls hw (lv_sub hl [1, 2, 3, 4, 5, 6, 7, 0] rfl) hf
  have wL13 : ∀ (n : Nat) (b1 : Int32) (b2 : Int32) (b3 : Int64) (b5 : Int32) (b6 : Int32) (u : SS) (H : Heap) (locs : List Loc) (ls : Array Slot), VW wdB ev s u H locs → lv_has ls 10 [(0, .ref (ev.2.1 1)), (1, .int b1), (2, .int b2), (3, .long b3), (5, .int b5), (6, .int b6)] → f_X6_chanceOf_L13 n b1 b2 b3 b5 b6 u = some (r, u') → W p l e (rmk 3) s m av below meth cd H locs 0 0 (ZI wdB ev s below av r u') (F0 m 13 ls []) := by
    intro n
    induction n with
    | zero =>
      intro b1 b2 b3 b5 b6 u H locs ls hw hl hf
      cases hf
    | succ n hk13 =>
      intro b1 b2 b3 b5 b6 u H locs ls hw hl hf
      have hf : b_X6_chanceOf_L13 (f_X6_chanceOf_L13 n) b1 b2 b3 b5 b6 u = some (r, u') := hf
      unfold b_X6_chanceOf_L13 at hf
      refine lv_iload hx hb dX6_chanceOf_13 (lv_at hl 5 rfl) ?_
      refine lv_iconst (v := (4 : Int32)) hx hb dX6_chanceOf_15 (by decide) ?_
      refine lv_icmp_ge (tgt := 108) hx hb dX6_chanceOf_16 (by decide) (fun z => ?_) (fun z => ?_)
      · have hf := it_pos z hf
        refine lv_iload hx hb dX6_chanceOf_108 (lv_at hl 4 rfl) ?_
        exact retI hc hr hlk hw hf dX6_chanceOf_110
      · have hf := it_neg z hf
        refine lv_iconst (v := (0 : Int32)) hx hb dX6_chanceOf_19 (by decide) ?_
        refine lv_istore (lv' := [(7, .int (0 : Int32)), (0, .ref (ev.2.1 1)), (1, .int b1), (2, .int b2), (3, .long b3), (5, .int b5), (6, .int b6)]) hx hb dX6_chanceOf_20 hl (by decide) rfl (fun ls hl => ?_)
        exact wL22 (f_X6_chanceOf_L13 n) hk13 FU b1 b2 b3 b5 b6 (0 : Int32) u H locs ls hw (lv_sub hl [1, 2, 3, 4, 5, 6, 0] rfl) hf
  unfold f_X6_chanceOf at hf
  refine lv_aload_n hx hb dX6_chanceOf_0 rfl (lv_at hl 0 rfl) ?_
  refine lv_iload_n hx hb dX6_chanceOf_1 rfl (lv_at hl 1 rfl) ?_
  refine lv_iload_n hx hb dX6_chanceOf_2 rfl (lv_at hl 2 rfl) ?_
  obtain ⟨r3, u2, h1, hf⟩ := ob_some hf
  refine endL okB hw (runS_ok (As := [.ref (ev.2.1 1), .int a1, .int a2]) (rest := []) okB hc hw (c_X6_likenessOf l ev a1 a2 u h1 H.size) ks_X6_likenessOf ml_X6_31 hl.1 rfl rfl (Nat.le_of_ble_eq_true rfl) (rm_le (by decide) (by decide)) dX6_chanceOf_3) (fun H locs hw => ?_)
  refine lv_lstore_n (lv' := [(3, .long r3), (0, .ref (ev.2.1 1)), (1, .int a1), (2, .int a2)]) hx hb dX6_chanceOf_6 rfl hl (by decide) rfl (fun ls hl => ?_)
  refine lv_iconst (v := (0 : Int32)) hx hb dX6_chanceOf_7 (by decide) ?_
  refine lv_istore (lv' := [(5, .int (0 : Int32)), (3, .long r3), (0, .ref (ev.2.1 1)), (1, .int a1), (2, .int a2)]) hx hb dX6_chanceOf_8 hl (by decide) rfl (fun ls hl => ?_)
  refine lv_iconst (v := (0 : Int32)) hx hb dX6_chanceOf_10 (by decide) ?_
  refine lv_istore (lv' := [(6, .int (0 : Int32)), (5, .int (0 : Int32)), (3, .long r3), (0, .ref (ev.2.1 1)), (1, .int a1), (2, .int a2)]) hx hb dX6_chanceOf_11 hl (by decide) rfl (fun ls hl => ?_)
  exact wL13 FU a1 a2 r3 (0 : Int32) (0 : Int32) u2 H locs ls hw (lv_sub hl [3, 4, 5, 2, 1, 0] rfl) hf
def f_X9_chance_L48 (u : SS) : Option (Int32 × SS) :=
  ob (f_X9_refuse (-5 : Int32) u) fun r9 u8 => some (r9, u8)
def f_X9_chance (a1 : Int32) (a2 : Int32) (a3 : Int32) (u : SS) : Option (Int32 × SS) :=
  ob (f_X9_noPair a1 a2 a3 u) fun r3 u2 => if r3 = 0 then (ob (f_X9_cell a2 a1 u2) fun r6 u5 => oi r6 48 (if (gA u5 3 r6.toNatClampNeg) = 0 then (f_X9_chance_L48 u5) else (ob (f_X9_cell a3 a1 u5) fun r12 u11 => oi r12 48 (if (gA u11 3 r12.toNatClampNeg) = 0 then (f_X9_chance_L48 u11) else (ob (f_X9_cell a2 a1 u11) fun r15 u14 => ob (f_X9_cell a3 a1 u14) fun r18 u17 => ob (f_X6_chanceOf r15 r18 u17) fun r21 u20 => some (r21, u20)))))) else (ob (f_X9_refuse (-1 : Int32) u2) fun r24 u23 => some (r24, u23))
set_option maxHeartbeats 4000000 in
set_option maxRecDepth 100000 in
theorem c_X9_chance (l : Launch) (ev : EV) (a1 : Int32) (a2 : Int32) (a3 : Int32) (u : SS) {r : Int32} {u' : SS} (hf : f_X9_chance a1 a2 a3 u = some (r, u')) : MI wdB l yX9_chance cX9_chance 4 (some .int) 4 ev [.ref (ev.2.1 0), .int a1, .int a2, .int a3] u r u' := by
  refine bodyI (by decide +kernel) rfl (Nat.le_of_ble_eq_true rfl) ?_
  intro p e s m below meth cd ls H locs hc hr hlk hw hl
  generalize hav : (List.toArray [.ref (ev.2.1 0), .int a1, .int a2, .int a3] : Array Value) = av at hc ⊢
  obtain ⟨hx, hb, hml, hown, hts, hK, hZ⟩ := id hc
  have hl : lv_has ls 4 [(0, .ref (ev.2.1 0)), (1, .int a1), (2, .int a2), (3, .int a3)] := hl
  have wL48 : ∀ (u : SS) (H : Heap) (locs : List Loc) (ls : Array Slot), VW wdB ev s u H locs → lv_has ls 4 [(0, .ref (ev.2.1 0))] → f_X9_chance_L48  u = some (r, u') → W p l e (rmk 4) s m av below meth cd H locs 0 0 (ZI wdB ev s below av r u') (F0 m 48 ls []) := by
    intro  u H locs ls hw hl hf
    unfold f_X9_chance_L48 at hf
    refine lv_aload_n hx hb dX9_chance_48 rfl (lv_at hl 0 rfl) ?_
    refine lv_bipush (v := (-5 : Int32)) hx hb dX9_chance_49 (by decide) ?_
    obtain ⟨r9, u8, h7, hf⟩ := ob_some hf
    refine endI okB hw (runV_ok (As := [.int (-5 : Int32)]) (rest := []) okB hc hw (c_X9_refuse l ev (-5 : Int32) u h7 H.size) kv_X9_refuse ml_X9_62 (rvB0 ev u) hl.1 rfl rfl (Nat.le_of_ble_eq_true rfl) (rm_le (by decide) (by decide)) dX9_chance_51) (fun H locs hw => ?_)
    exact retI hc hr hlk hw hf dX9_chance_54
  unfold f_X9_chance at hf
  refine lv_aload_n hx hb dX9_chance_0 rfl (lv_at hl 0 rfl) ?_
  refine lv_iload_n hx hb dX9_chance_1 rfl (lv_at hl 1 rfl) ?_
  refine lv_iload_n hx hb dX9_chance_2 rfl (lv_at hl 2 rfl) ?_
  refine lv_iload_n hx hb dX9_chance_3 rfl (lv_at hl 3 rfl) ?_
  obtain ⟨r3, u2, h1, hf⟩ := ob_some hf
  refine endI okB hw (runV_ok (As := [.int a1, .int a2, .int a3]) (rest := []) okB hc hw (c_X9_noPair l ev a1 a2 a3 u h1 H.size) kv_X9_noPair ml_X9_223 (rvB0 ev u) hl.1 rfl rfl (Nat.le_of_ble_eq_true rfl) (rm_le (by decide) (by decide)) dX9_chance_4) (fun H locs hw => ?_)
  refine lv_if_eq (tgt := 16) hx hb dX9_chance_7 (by decide) (fun z => ?_) (fun z => ?_)
  · have hf := it_pos z hf
    refine lv_aload_n hx hb dX9_chance_16 rfl (lv_at hl 0 rfl) ?_
    refine gB0_0 hc hw fl_X9_12 dX9_chance_17 ?_
    refine gB1_2 hc hw fl_X9_113 dX9_chance_20 ?_
    refine lv_iload_n hx hb dX9_chance_23 rfl (lv_at hl 2 rfl) ?_
    refine lv_iload_n hx hb dX9_chance_24 rfl (lv_at hl 1 rfl) ?_
    obtain ⟨r6, u5, h4, hf⟩ := ob_some hf
    refine endI okB hw (runS_ok (As := [.int a2, .int a1]) (rest := [.ref (ev.2.1 12)]) okB hc hw (c_X9_cell l ev a2 a1 u2 h4 H.size) ks_X9_cell ml_X9_110 hl.1 rfl rfl (Nat.le_of_ble_eq_true rfl) (rm_le (by decide) (by decide)) dX9_chance_25) (fun H locs hw => ?_)
    obtain ⟨z, hf⟩ := oi_some hf
    refine aB12 hc hw z dX9_chance_28 ?_
    refine lv_if_eq (tgt := 48) hx hb dX9_chance_29 (by decide) (fun z => ?_) (fun z => ?_)
    · have hf := it_pos z hf
      exact wL48 u5 H locs ls hw (lv_sub hl [0] rfl) hf
    · have hf := it_neg z hf
      refine lv_aload_n hx hb dX9_chance_32 rfl (lv_at hl 0 rfl) ?_
      refine gB0_0 hc hw fl_X9_12 dX9_chance_33 ?_
      refine gB1_2 hc hw fl_X9_113 dX9_chance_36 ?_
      refine lv_iload_n hx hb dX9_chance_39 rfl (lv_at hl 3 rfl) ?_
      refine lv_iload_n hx hb dX9_chance_40 rfl (lv_at hl 1 rfl) ?_
      obtain ⟨r12, u11, h10, hf⟩ := ob_some hf
      refine endI okB hw (runS_ok (As := [.int a3, .int a1]) (rest := [.ref (ev.2.1 12)]) okB hc hw (c_X9_cell l ev a3 a1 u5 h10 H.size) ks_X9_cell ml_X9_110 hl.1 rfl rfl (Nat.le_of_ble_eq_true rfl) (rm_le (by decide) (by decide)) dX9_chance_41) (fun H locs hw => ?_)
      obtain ⟨z, hf⟩ := oi_some hf
      refine aB12 hc hw z dX9_chance_44 ?_
      refine lv_if_ne (tgt := 55) hx hb dX9_chance_45 (by decide) (fun z => ?_) (fun z => ?_)
      · have hf := it_neg z hf
        refine lv_aload_n hx hb dX9_chance_55 rfl (lv_at hl 0 rfl) ?_
        refine gB0_0 hc hw fl_X9_12 dX9_chance_56 ?_
        refine lv_iload_n hx hb dX9_chance_59 rfl (lv_at hl 2 rfl) ?_
        refine lv_iload_n hx hb dX9_chance_60 rfl (lv_at hl 1 rfl) ?_
        obtain ⟨r15, u14, h13, hf⟩ := ob_some hf
        refine endI okB hw (runS_ok (As := [.int a2, .int a1]) (rest := [.ref (ev.2.1 1)]) okB hc hw (c_X9_cell l ev a2 a1 u11 h13 H.size) ks_X9_cell ml_X9_110 hl.1 rfl rfl (Nat.le_of_ble_eq_true rfl) (rm_le (by decide) (by decide)) dX9_chance_61) (fun H locs hw => ?_)
        refine lv_iload_n hx hb dX9_chance_64 rfl (lv_at hl 3 rfl) ?_
        refine lv_iload_n hx hb dX9_chance_65 rfl (lv_at hl 1 rfl) ?_
        obtain ⟨r18, u17, h16, hf⟩ := ob_some hf
        refine endI okB hw (runS_ok (As := [.int a3, .int a1]) (rest := [.int r15, .ref (ev.2.1 1)]) okB hc hw (c_X9_cell l ev a3 a1 u14 h16 H.size) ks_X9_cell ml_X9_110 hl.1 rfl rfl (Nat.le_of_ble_eq_true rfl) (rm_le (by decide) (by decide)) dX9_chance_66) (fun H locs hw => ?_)
        obtain ⟨r21, u20, h19, hf⟩ := ob_some hf
        refine endI okB hw (runS_ok (As := [.ref (ev.2.1 1), .int r15, .int r18]) (rest := []) okB hc hw (c_X6_chanceOf l ev r15 r18 u17 h19 H.size) ks_X6_chanceOf ml_X9_318 hl.1 rfl rfl (Nat.le_of_ble_eq_true rfl) (rm_le (by decide) (by decide)) dX9_chance_69) (fun H locs hw => ?_)
        exact retI hc hr hlk hw hf dX9_chance_72
      · have hf := it_pos z hf
        exact wL48 u11 H locs ls hw (lv_sub hl [0] rfl) hf
  · have hf := it_neg z hf
    refine lv_aload_n hx hb dX9_chance_10 rfl (lv_at hl 0 rfl) ?_
    refine lv_iconst (v := (-1 : Int32)) hx hb dX9_chance_11 (by decide) ?_
    obtain ⟨r24, u23, h22, hf⟩ := ob_some hf
    refine endI okB hw (runV_ok (As := [.int (-1 : Int32)]) (rest := []) okB hc hw (c_X9_refuse l ev (-1 : Int32) u2 h22 H.size) kv_X9_refuse ml_X9_62 (rvB0 ev u2) hl.1 rfl rfl (Nat.le_of_ble_eq_true rfl) (rm_le (by decide) (by decide)) dX9_chance_12) (fun H locs hw => ?_)
    exact retI hc hr hlk hw hf dX9_chance_15
def f_J6_numberOfTrailingZeros_0f7a4_L62 (b0 : Int32) (b1 : Int32) (u : SS) : Option (Int32 × SS) :=
  if b0 ≤ (4 : Int32) then (some ((b1 + ((b0.toUInt32 >>> ((1 : Int32).toUInt32 &&& Int32.toUInt32 31)).toInt32)), u)) else (lt (b1 + (2 : Int32)) fun x2 => lt ((b0.toUInt32 >>> ((2 : Int32).toUInt32 &&& Int32.toUInt32 31)).toInt32) fun x3 => some ((x2 + ((x3.toUInt32 >>> ((1 : Int32).toUInt32 &&& Int32.toUInt32 31)).toInt32)), u))
def f_J6_numberOfTrailingZeros_0f7a4_L49 (b0 : Int32) (b1 : Int32) (u : SS) : Option (Int32 × SS) :=
  if b0 ≤ (16 : Int32) then (f_J6_numberOfTrailingZeros_0f7a4_L62 b0 b1 u) else (lt (b1 + (4 : Int32)) fun x4 => lt ((b0.toUInt32 >>> ((4 : Int32).toUInt32 &&& Int32.toUInt32 31)).toInt32) fun x5 => f_J6_numberOfTrailingZeros_0f7a4_L62 x5 x4 u)
def f_J6_numberOfTrailingZeros_0f7a4_L34 (b0 : Int32) (b1 : Int32) (u : SS) : Option (Int32 × SS) :=
  if b0 ≤ (256 : Int32) then (f_J6_numberOfTrailingZeros_0f7a4_L49 b0 b1 u) else (lt (b1 + (8 : Int32)) fun x6 => lt ((b0.toUInt32 >>> ((8 : Int32).toUInt32 &&& Int32.toUInt32 31)).toInt32) fun x7 => f_J6_numberOfTrailingZeros_0f7a4_L49 x7 x6 u)
def f_J6_numberOfTrailingZeros_0f7a4 (a0 : Int32) (u : SS) : Option (Int32 × SS) :=
  lt ((a0 ^^^ (-1 : Int32)) &&& (a0 - (1 : Int32))) fun x1 => if 0 < x1 then (if x1 ≤ (65536 : Int32) then (f_J6_numberOfTrailingZeros_0f7a4_L34 x1 (1 : Int32) u) else (lt ((1 : Int32) + (16 : Int32)) fun x8 => lt ((x1.toUInt32 >>> ((16 : Int32).toUInt32 &&& Int32.toUInt32 31)).toInt32) fun x9 => f_J6_numberOfTrailingZeros_0f7a4_L34 x9 x8 u)) else (some ((x1 &&& (32 : Int32)), u))
set_option maxHeartbeats 4000000 in
set_option maxRecDepth 100000 in
theorem c_J6_numberOfTrailingZeros_0f7a4 (l : Launch) (ev : EV) (a0 : Int32) (u : SS) {r : Int32} {u' : SS} (hf : f_J6_numberOfTrailingZeros_0f7a4 a0 u = some (r, u')) : MI wdB l yJ6_numberOfTrailingZeros_0f7a4 cJ6_numberOfTrailingZeros_0f7a4 2 (some .int) 0 ev [.int a0] u r u' := by
  refine bodyI (by decide +kernel) rfl (Nat.le_of_ble_eq_true rfl) ?_
  intro p e s m below meth cd ls H locs hc hr hlk hw hl
  generalize hav : (List.toArray [.int a0] : Array Value) = av at hc ⊢
  obtain ⟨hx, hb, hml, hown, hts, hK, hZ⟩ := id hc
  have hl : lv_has ls 2 [(0, .int a0)] := hl
  have wL62 : ∀ (b0 : Int32) (b1 : Int32) (u : SS) (H : Heap) (locs : List Loc) (ls : Array Slot), VW wdB ev s u H locs → lv_has ls 2 [(0, .int b0), (1, .int b1)] → f_J6_numberOfTrailingZeros_0f7a4_L62 b0 b1 u = some (r, u') → W p l e (rmk 0) s m av below meth cd H locs 0 0 (ZI wdB ev s below av r u') (F0 m 62 ls []) := by
    intro b0 b1 u H locs ls hw hl hf
    unfold f_J6_numberOfTrailingZeros_0f7a4_L62 at hf
    refine lv_iload_n hx hb dJ6_numberOfTrailingZeros_0f7a4_62 rfl (lv_at hl 0 rfl) ?_
    refine lv_iconst (v := (4 : Int32)) hx hb dJ6_numberOfTrailingZeros_0f7a4_63 (by decide) ?_
    refine lv_icmp_le (tgt := 74) hx hb dJ6_numberOfTrailingZeros_0f7a4_64 (by decide) (fun z => ?_) (fun z => ?_)
    · have hf := it_pos z hf
      refine lv_iload_n hx hb dJ6_numberOfTrailingZeros_0f7a4_74 rfl (lv_at hl 1 rfl) ?_
      refine lv_iload_n hx hb dJ6_numberOfTrailingZeros_0f7a4_75 rfl (lv_at hl 0 rfl) ?_
      refine lv_iconst (v := (1 : Int32)) hx hb dJ6_numberOfTrailingZeros_0f7a4_76 (by decide) ?_
      refine lv_iushr (v := (b0.toUInt32 >>> ((1 : Int32).toUInt32 &&& Int32.toUInt32 31)).toInt32) hx hb dJ6_numberOfTrailingZeros_0f7a4_77 rfl ?_
      refine lv_iadd hx hb dJ6_numberOfTrailingZeros_0f7a4_78 ?_
      exact retI hc hr hlk hw hf dJ6_numberOfTrailingZeros_0f7a4_79
    · have hf := it_neg z hf
      obtain ⟨x2, ex2, hf⟩ := lt_some hf
      refine lv_iinc (v := x2) (lv' := [(1, .int x2), (0, .int b0)]) hx hb dJ6_numberOfTrailingZeros_0f7a4_67 hl (k := 1) rfl (by rw [ex2]; rfl) (by decide) rfl (fun ls hl => ?_)
      refine lv_iload_n hx hb dJ6_numberOfTrailingZeros_0f7a4_70 rfl (lv_at hl 1 rfl) ?_
      refine lv_iconst (v := (2 : Int32)) hx hb dJ6_numberOfTrailingZeros_0f7a4_71 (by decide) ?_
      refine lv_iushr (v := (b0.toUInt32 >>> ((2 : Int32).toUInt32 &&& Int32.toUInt32 31)).toInt32) hx hb dJ6_numberOfTrailingZeros_0f7a4_72 rfl ?_
      obtain ⟨x3, ex3, hf⟩ := lt_some hf
      refine tope ex3 ?_
      refine lv_istore_n (lv' := [(0, .int x3), (1, .int x2)]) hx hb dJ6_numberOfTrailingZeros_0f7a4_73 rfl hl (by decide) rfl (fun ls hl => ?_)
      refine lv_iload_n hx hb dJ6_numberOfTrailingZeros_0f7a4_74 rfl (lv_at hl 1 rfl) ?_
      refine lv_iload_n hx hb dJ6_numberOfTrailingZeros_0f7a4_75 rfl (lv_at hl 0 rfl) ?_
      refine lv_iconst (v := (1 : Int32)) hx hb dJ6_numberOfTrailingZeros_0f7a4_76 (by decide) ?_
      refine lv_iushr (v := (x3.toUInt32 >>> ((1 : Int32).toUInt32 &&& Int32.toUInt32 31)).toInt32) hx hb dJ6_numberOfTrailingZeros_0f7a4_77 rfl ?_
      refine lv_iadd hx hb dJ6_numberOfTrailingZeros_0f7a4_78 ?_
      exact retI hc hr hlk hw hf dJ6_numberOfTrailingZeros_0f7a4_79
  have wL49 : ∀ (b0 : Int32) (b1 : Int32) (u : SS) (H : Heap) (locs : List Loc) (ls : Array Slot), VW wdB ev s u H locs → lv_has ls 2 [(0, .int b0), (1, .int b1)] → f_J6_numberOfTrailingZeros_0f7a4_L49 b0 b1 u = some (r, u') → W p l e (rmk 0) s m av below meth cd H locs 0 0 (ZI wdB ev s below av r u') (F0 m 49 ls []) := by
    intro b0 b1 u H locs ls hw hl hf
    unfold f_J6_numberOfTrailingZeros_0f7a4_L49 at hf
    refine lv_iload_n hx hb dJ6_numberOfTrailingZeros_0f7a4_49 rfl (lv_at hl 0 rfl) ?_
    refine lv_bipush (v := (16 : Int32)) hx hb dJ6_numberOfTrailingZeros_0f7a4_50 (by decide) ?_
    refine lv_icmp_le (tgt := 62) hx hb dJ6_numberOfTrailingZeros_0f7a4_52 (by decide) (fun z => ?_) (fun z => ?_)
    · have hf := it_pos z hf
      exact wL62 b0 b1 u H locs ls hw (lv_sub hl [0, 1] rfl) hf
    · have hf := it_neg z hf
      obtain ⟨x4, ex4, hf⟩ := lt_some hf
      refine lv_iinc (v := x4) (lv' := [(1, .int x4), (0, .int b0)]) hx hb dJ6_numberOfTrailingZeros_0f7a4_55 hl (k := 1) rfl (by rw [ex4]; rfl) (by decide) rfl (fun ls hl => ?_)
      refine lv_iload_n hx hb dJ6_numberOfTrailingZeros_0f7a4_58 rfl (lv_at hl 1 rfl) ?_
      refine lv_iconst (v := (4 : Int32)) hx hb dJ6_numberOfTrailingZeros_0f7a4_59 (by decide) ?_
      refine lv_iushr (v := (b0.toUInt32 >>> ((4 : Int32).toUInt32 &&& Int32.toUInt32 31)).toInt32) hx hb dJ6_numberOfTrailingZeros_0f7a4_60 rfl ?_
      obtain ⟨x5, ex5, hf⟩ := lt_some hf
      refine tope ex5 ?_
      refine lv_istore_n (lv' := [(0, .int x5), (1, .int x4)]) hx hb dJ6_numberOfTrailingZeros_0f7a4_61 rfl hl (by decide) rfl (fun ls hl => ?_)
      exact wL62 x5 x4 u H locs ls hw (lv_sub hl [0, 1] rfl) hf
  have wL34 : ∀ (b0 : Int32) (b1 : Int32) (u : SS) (H : Heap) (locs : List Loc) (ls : Array Slot), VW wdB ev s u H locs → lv_has ls 2 [(0, .int b0), (1, .int b1)] → f_J6_numberOfTrailingZeros_0f7a4_L34 b0 b1 u = some (r, u') → W p l e (rmk 0) s m av below meth cd H locs 0 0 (ZI wdB ev s below av r u') (F0 m 34 ls []) := by
    intro b0 b1 u H locs ls hw hl hf
    unfold f_J6_numberOfTrailingZeros_0f7a4_L34 at hf
    refine lv_iload_n hx hb dJ6_numberOfTrailingZeros_0f7a4_34 rfl (lv_at hl 0 rfl) ?_
    refine lv_sipush (v := (256 : Int32)) hx hb dJ6_numberOfTrailingZeros_0f7a4_35 (by decide) ?_
    refine lv_icmp_le (tgt := 49) hx hb dJ6_numberOfTrailingZeros_0f7a4_38 (by decide) (fun z => ?_) (fun z => ?_)
    · have hf := it_pos z hf
      exact wL49 b0 b1 u H locs ls hw (lv_sub hl [0, 1] rfl) hf
    · have hf := it_neg z hf
      obtain ⟨x6, ex6, hf⟩ := lt_some hf
      refine lv_iinc (v := x6) (lv' := [(1, .int x6), (0, .int b0)]) hx hb dJ6_numberOfTrailingZeros_0f7a4_41 hl (k := 1) rfl (by rw [ex6]; rfl) (by decide) rfl (fun ls hl => ?_)
      refine lv_iload_n hx hb dJ6_numberOfTrailingZeros_0f7a4_44 rfl (lv_at hl 1 rfl) ?_
      refine lv_bipush (v := (8 : Int32)) hx hb dJ6_numberOfTrailingZeros_0f7a4_45 (by decide) ?_
      refine lv_iushr (v := (b0.toUInt32 >>> ((8 : Int32).toUInt32 &&& Int32.toUInt32 31)).toInt32) hx hb dJ6_numberOfTrailingZeros_0f7a4_47 rfl ?_
      obtain ⟨x7, ex7, hf⟩ := lt_some hf
      refine tope ex7 ?_
      refine lv_istore_n (lv' := [(0, .int x7), (1, .int x6)]) hx hb dJ6_numberOfTrailingZeros_0f7a4_48 rfl hl (by decide) rfl (fun ls hl => ?_)
      exact wL49 x7 x6 u H locs ls hw (lv_sub hl [0, 1] rfl) hf
  unfold f_J6_numberOfTrailingZeros_0f7a4 at hf
  refine lv_iload_n hx hb dJ6_numberOfTrailingZeros_0f7a4_0 rfl (lv_at hl 0 rfl) ?_
  refine lv_iconst (v := (-1 : Int32)) hx hb dJ6_numberOfTrailingZeros_0f7a4_1 (by decide) ?_
  refine lv_ixor hx hb dJ6_numberOfTrailingZeros_0f7a4_2 ?_
  refine lv_iload_n hx hb dJ6_numberOfTrailingZeros_0f7a4_3 rfl (lv_at hl 0 rfl) ?_
  refine lv_iconst (v := (1 : Int32)) hx hb dJ6_numberOfTrailingZeros_0f7a4_4 (by decide) ?_
  refine lv_isub hx hb dJ6_numberOfTrailingZeros_0f7a4_5 ?_
  refine lv_iand hx hb dJ6_numberOfTrailingZeros_0f7a4_6 ?_
  obtain ⟨x1, ex1, hf⟩ := lt_some hf
  refine tope ex1 ?_
  refine lv_istore_n (lv' := [(0, .int x1)]) hx hb dJ6_numberOfTrailingZeros_0f7a4_7 rfl hl (by decide) rfl (fun ls hl => ?_)
  refine lv_iload_n hx hb dJ6_numberOfTrailingZeros_0f7a4_8 rfl (lv_at hl 0 rfl) ?_
  refine lv_if_gt (tgt := 17) hx hb dJ6_numberOfTrailingZeros_0f7a4_9 (by decide) (fun z => ?_) (fun z => ?_)
  · have hf := it_pos z hf
    refine lv_iconst (v := (1 : Int32)) hx hb dJ6_numberOfTrailingZeros_0f7a4_17 (by decide) ?_
    refine lv_istore_n (lv' := [(1, .int (1 : Int32)), (0, .int x1)]) hx hb dJ6_numberOfTrailingZeros_0f7a4_18 rfl hl (by decide) rfl (fun ls hl => ?_)
    refine lv_iload_n hx hb dJ6_numberOfTrailingZeros_0f7a4_19 rfl (lv_at hl 1 rfl) ?_
    refine lv_ldcw (v := (65536 : Int32)) hx hb hown (hts _ ct_J6_264) dJ6_numberOfTrailingZeros_0f7a4_20 ?_
    refine lv_icmp_le (tgt := 34) hx hb dJ6_numberOfTrailingZeros_0f7a4_23 (by decide) (fun z => ?_) (fun z => ?_)
    · have hf := it_pos z hf
      exact wL34 x1 (1 : Int32) u H locs ls hw (lv_sub hl [1, 0] rfl) hf
    · have hf := it_neg z hf
      obtain ⟨x8, ex8, hf⟩ := lt_some hf
      refine lv_iinc (v := x8) (lv' := [(1, .int x8), (0, .int x1)]) hx hb dJ6_numberOfTrailingZeros_0f7a4_26 hl (k := 0) rfl (by rw [ex8]; rfl) (by decide) rfl (fun ls hl => ?_)
      refine lv_iload_n hx hb dJ6_numberOfTrailingZeros_0f7a4_29 rfl (lv_at hl 1 rfl) ?_
      refine lv_bipush (v := (16 : Int32)) hx hb dJ6_numberOfTrailingZeros_0f7a4_30 (by decide) ?_
      refine lv_iushr (v := (x1.toUInt32 >>> ((16 : Int32).toUInt32 &&& Int32.toUInt32 31)).toInt32) hx hb dJ6_numberOfTrailingZeros_0f7a4_32 rfl ?_
      obtain ⟨x9, ex9, hf⟩ := lt_some hf
      refine tope ex9 ?_
      refine lv_istore_n (lv' := [(0, .int x9), (1, .int x8)]) hx hb dJ6_numberOfTrailingZeros_0f7a4_33 rfl hl (by decide) rfl (fun ls hl => ?_)
      exact wL34 x9 x8 u H locs ls hw (lv_sub hl [0, 1] rfl) hf
  · have hf := it_neg z hf
    refine lv_iload_n hx hb dJ6_numberOfTrailingZeros_0f7a4_12 rfl (lv_at hl 0 rfl) ?_
    refine lv_bipush (v := (32 : Int32)) hx hb dJ6_numberOfTrailingZeros_0f7a4_13 (by decide) ?_
    refine lv_iand hx hb dJ6_numberOfTrailingZeros_0f7a4_15 ?_
    exact retI hc hr hlk hw hf dJ6_numberOfTrailingZeros_0f7a4_16
def f_X6_areJoined (a1 : Int32) (a2 : Int32) (u : SS) : Option (Int32 × SS) :=
  ob (f_X6_likenessOf a1 a2 u) fun r3 u2 => ob (f_X1_itemSum a1 u2) fun r6 u5 => ob (f_X1_itemSum a2 u5) fun r9 u8 => lt ((r6.toInt64) * (r9.toInt64)) fun x10 => if (lg_cmp (r3 * (50 : Int64)) x10) ≤ 0 then (if (lg_cmp r3 (0 : Int64)) = 0 then (some ((1 : Int32), u8)) else (ob (f_X6_chanceOf a1 a2 u8) fun r13 u12 => if r13 = (1 : Int32) then (some ((1 : Int32), u12)) else (some ((0 : Int32), u12)))) else (some ((0 : Int32), u8))
set_option maxHeartbeats 4000000 in
set_option maxRecDepth 100000 in
theorem c_X6_areJoined (l : Launch) (ev : EV) (a1 : Int32) (a2 : Int32) (u : SS) {r : Int32} {u' : SS} (hf : f_X6_areJoined a1 a2 u = some (r, u')) : MI wdB l yX6_areJoined cX6_areJoined 7 (some .boolean) 4 ev [.ref (ev.2.1 1), .int a1, .int a2] u r u' := by
  refine bodyI (by decide +kernel) rfl (Nat.le_of_ble_eq_true rfl) ?_
  intro p e s m below meth cd ls H locs hc hr hlk hw hl
  generalize hav : (List.toArray [.ref (ev.2.1 1), .int a1, .int a2] : Array Value) = av at hc ⊢
  obtain ⟨hx, hb, hml, hown, hts, hK, hZ⟩ := id hc
  have hl : lv_has ls 7 [(0, .ref (ev.2.1 1)), (1, .int a1), (2, .int a2)] := hl
  unfold f_X6_areJoined at hf
  refine lv_aload_n hx hb dX6_areJoined_0 rfl (lv_at hl 0 rfl) ?_
  refine lv_iload_n hx hb dX6_areJoined_1 rfl (lv_at hl 1 rfl) ?_
  refine lv_iload_n hx hb dX6_areJoined_2 rfl (lv_at hl 2 rfl) ?_
  obtain ⟨r3, u2, h1, hf⟩ := ob_some hf
  refine endL okB hw (runS_ok (As := [.ref (ev.2.1 1), .int a1, .int a2]) (rest := []) okB hc hw (c_X6_likenessOf l ev a1 a2 u h1 H.size) ks_X6_likenessOf ml_X6_31 hl.1 rfl rfl (Nat.le_of_ble_eq_true rfl) (rm_le (by decide) (by decide)) dX6_areJoined_3) (fun H locs hw => ?_)
  refine lv_lstore_n (lv' := [(3, .long r3), (0, .ref (ev.2.1 1)), (1, .int a1), (2, .int a2)]) hx hb dX6_areJoined_6 rfl hl (by decide) rfl (fun ls hl => ?_)
  refine lv_aload_n hx hb dX6_areJoined_7 rfl (lv_at hl 1 rfl) ?_
  refine lv_iload_n hx hb dX6_areJoined_8 rfl (lv_at hl 2 rfl) ?_
  obtain ⟨r6, u5, h4, hf⟩ := ob_some hf
  refine endI okB hw (runV_ok (As := [.int a1]) (rest := []) okB hc hw (c_X1_itemSum l ev a1 u2 h4 H.size) kv_X1_itemSum ml_X6_15 (rvB1 ev u2) hl.1 rfl rfl (Nat.le_of_ble_eq_true rfl) (rm_le (by decide) (by decide)) dX6_areJoined_9) (fun H locs hw => ?_)
  refine lv_i2l (v := r6.toInt64) hx hb dX6_areJoined_12 rfl ?_
  refine lv_aload_n hx hb dX6_areJoined_13 rfl (lv_at hl 1 rfl) ?_
  refine lv_iload_n hx hb dX6_areJoined_14 rfl (lv_at hl 3 rfl) ?_
  obtain ⟨r9, u8, h7, hf⟩ := ob_some hf
  refine endI okB hw (runV_ok (As := [.int a2]) (rest := [.long (r6.toInt64)]) okB hc hw (c_X1_itemSum l ev a2 u5 h7 H.size) kv_X1_itemSum ml_X6_15 (rvB1 ev u5) hl.1 rfl rfl (Nat.le_of_ble_eq_true rfl) (rm_le (by decide) (by decide)) dX6_areJoined_15) (fun H locs hw => ?_)
  refine lv_i2l (v := r9.toInt64) hx hb dX6_areJoined_18 rfl ?_
  refine lv_lmul hx hb dX6_areJoined_19 ?_
  obtain ⟨x10, ex10, hf⟩ := lt_some hf
  refine topel ex10 ?_
  refine lv_lstore (lv' := [(5, .long x10), (3, .long r3), (0, .ref (ev.2.1 1)), (1, .int a1), (2, .int a2)]) hx hb dX6_areJoined_20 hl (by decide) rfl (fun ls hl => ?_)
  refine lv_lload_n hx hb dX6_areJoined_22 rfl (lv_at hl 1 rfl) ?_
  refine lv_ldc2 (v := (50 : Int64)) hx hb hown (hts _ ct_X6_35) dX6_areJoined_23 ?_
  refine lv_lmul hx hb dX6_areJoined_26 ?_
  refine lv_lload hx hb dX6_areJoined_27 (lv_at hl 0 rfl) ?_
  refine W.lcmp hx hb dX6_areJoined_29 ?_
  refine lv_if_le (tgt := 35) hx hb dX6_areJoined_30 (by decide) (fun z => ?_) (fun z => ?_)
  · have hf := it_pos z hf
    refine lv_lload_n hx hb dX6_areJoined_35 rfl (lv_at hl 1 rfl) ?_
    refine lv_lconst (v := (0 : Int64)) hx hb dX6_areJoined_36 (by decide) ?_
    refine W.lcmp hx hb dX6_areJoined_37 ?_
    refine lv_if_eq (tgt := 51) hx hb dX6_areJoined_38 (by decide) (fun z => ?_) (fun z => ?_)
    · have hf := it_pos z hf
      refine lv_iconst (v := (1 : Int32)) hx hb dX6_areJoined_51 (by decide) ?_
      refine lv_goto (tgt := 56) hx hb dX6_areJoined_52 (by decide) ?_
      exact retZ hc hr hlk hw nz1 hf dX6_areJoined_56
    · have hf := it_neg z hf
      refine lv_aload_n hx hb dX6_areJoined_41 rfl (lv_at hl 2 rfl) ?_
      refine lv_iload_n hx hb dX6_areJoined_42 rfl (lv_at hl 3 rfl) ?_
      refine lv_iload_n hx hb dX6_areJoined_43 rfl (lv_at hl 4 rfl) ?_
      obtain ⟨r13, u12, h11, hf⟩ := ob_some hf
      refine endI okB hw (runS_ok (As := [.ref (ev.2.1 1), .int a1, .int a2]) (rest := []) okB hc hw (c_X6_chanceOf l ev a1 a2 u8 h11 H.size) ks_X6_chanceOf ml_X6_37 hl.1 rfl rfl (Nat.le_of_ble_eq_true rfl) (rm_le (by decide) (by decide)) dX6_areJoined_44) (fun H locs hw => ?_)
      refine lv_iconst (v := (1 : Int32)) hx hb dX6_areJoined_47 (by decide) ?_
      refine lv_icmp_ne (tgt := 55) hx hb dX6_areJoined_48 (by decide) (fun z => ?_) (fun z => ?_)
      · have hf := it_neg z hf
        refine lv_iconst (v := (0 : Int32)) hx hb dX6_areJoined_55 (by decide) ?_
        exact retZ hc hr hlk hw nz0 hf dX6_areJoined_56
      · have hf := it_pos z hf
        refine lv_iconst (v := (1 : Int32)) hx hb dX6_areJoined_51 (by decide) ?_
        refine lv_goto (tgt := 56) hx hb dX6_areJoined_52 (by decide) ?_
        exact retZ hc hr hlk hw nz1 hf dX6_areJoined_56
  · have hf := it_neg z hf
    refine lv_iconst (v := (0 : Int32)) hx hb dX6_areJoined_33 (by decide) ?_
    exact retZ hc hr hlk hw nz0 hf dX6_areJoined_34
def f_X6_joinedWith_L75 (k6 : Int32 → Int32 → Int32 → Int32 → Int32 → SS → Option (Int32 × SS)) (b1 : Int32) (b2 : Int32) (b3 : Int32) (b4 : Int32) (b5 : Int32) (u : SS) : Option (Int32 × SS) :=
  lt (b5 + (1 : Int32)) fun x4 => k6 b1 b2 b3 b4 x4 u
def f_X6_joinedWith_L35 (k6 : Int32 → Int32 → Int32 → Int32 → Int32 → SS → Option (Int32 × SS)) (b1 : Int32) (b2 : Int32) (b3 : Int32) (b4 : Int32) (b5 : Int32) (b6 : Int32) (q0 : Int32) (u : SS) : Option (Int32 × SS) :=
  if q0 = 0 then (f_X6_joinedWith_L75 k6 b1 b2 b3 b4 b5 u) else (oi b6 48 (if (gA u 3 b6.toNatClampNeg) = 0 then (f_X6_joinedWith_L75 k6 b1 b2 b3 b4 b5 u) else (ob (f_X9_cell b2 b1 u) fun r7 u6 => ob (f_X6_areJoined r7 b6 u6) fun r10 u9 => if r10 = 0 then (f_X6_joinedWith_L75 k6 b1 b2 b3 b4 b5 u9) else (lt (b4 ||| ((1 : Int32) <<< (b5 &&& 31))) fun x11 => f_X6_joinedWith_L75 k6 b1 b2 b3 x11 b5 u9))))
def b_X6_joinedWith_L6 (k6 : Int32 → Int32 → Int32 → Int32 → Int32 → SS → Option (Int32 × SS)) (b1 : Int32) (b2 : Int32) (b3 : Int32) (b4 : Int32) (b5 : Int32) (u : SS) : Option (Int32 × SS) :=
  if (8 : Int32) ≤ b5 then (some (b4, u)) else (ob (f_X9_cell b5 b1 u) fun r3 u2 => if ((b3 >>> (b5 &&& 31)) &&& (1 : Int32)) = 0 then (f_X6_joinedWith_L35 k6 b1 b2 b3 b4 b5 r3 (1 : Int32) u2) else (f_X6_joinedWith_L35 k6 b1 b2 b3 b4 b5 r3 (0 : Int32) u2))
def f_X6_joinedWith_L6 : Nat → Int32 → Int32 → Int32 → Int32 → Int32 → SS → Option (Int32 × SS)
  | 0 => fun _ _ _ _ _ _ => none
  | n + 1 => b_X6_joinedWith_L6 (f_X6_joinedWith_L6 n)
def f_X6_joinedWith (a1 : Int32) (a2 : Int32) (a3 : Int32) (u : SS) : Option (Int32 × SS) :=
  f_X6_joinedWith_L6 FU a1 a2 a3 (0 : Int32) (0 : Int32) u
set_option maxHeartbeats 4000000 in
set_option maxRecDepth 100000 in
theorem c_X6_joinedWith (l : Launch) (ev : EV) (a1 : Int32) (a2 : Int32) (a3 : Int32) (u : SS) {r : Int32} {u' : SS} (hf : f_X6_joinedWith a1 a2 a3 u = some (r, u')) : MI wdB l yX6_joinedWith cX6_joinedWith 8 (some .int) 5 ev [.ref (ev.2.1 1), .int a1, .int a2, .int a3] u r u' := by
  refine bodyI (by decide +kernel) rfl (Nat.le_of_ble_eq_true rfl) ?_
  intro p e s m below meth cd ls H locs hc hr hlk hw hl
  generalize hav : (List.toArray [.ref (ev.2.1 1), .int a1, .int a2, .int a3] : Array Value) = av at hc ⊢
  obtain ⟨hx, hb, hml, hown, hts, hK, hZ⟩ := id hc
  have hl : lv_has ls 8 [(0, .ref (ev.2.1 1)), (1, .int a1), (2, .int a2), (3, .int a3)] := hl
  have wL75 : ∀ (k6 : Int32 → Int32 → Int32 → Int32 → Int32 → SS → Option (Int32 × SS)) (hk6 : ∀ (b1 : Int32) (b2 : Int32) (b3 : Int32) (b4 : Int32) (b5 : Int32) (u : SS) (H : Heap) (locs : List Loc) (ls : Array Slot), VW wdB ev s u H locs → lv_has ls 8 [(0, .ref (ev.2.1 1)), (1, .int b1), (2, .int b2), (3, .int b3), (4, .int b4), (5, .int b5)] → k6 b1 b2 b3 b4 b5 u = some (r, u') → W p l e (rmk 5) s m av below meth cd H locs 0 0 (ZI wdB ev s below av r u') (F0 m 6 ls [])) (b1 : Int32) (b2 : Int32) (b3 : Int32) (b4 : Int32) (b5 : Int32) (u : SS) (H : Heap) (locs : List Loc) (ls : Array Slot), VW wdB ev s u H locs → lv_has ls 8 [(0, .ref (ev.2.1 1)), (1, .int b1), (2, .int b2), (3, .int b3), (4, .int b4), (5, .int b5)] → f_X6_joinedWith_L75 k6 b1 b2 b3 b4 b5 u = some (r, u') → W p l e (rmk 5) s m av below meth cd H locs 0 0 (ZI wdB ev s below av r u') (F0 m 75 ls []) := by
    intro k6 hk6 b1 b2 b3 b4 b5 u H locs ls hw hl hf
    unfold f_X6_joinedWith_L75 at hf
    obtain ⟨x4, ex4, hf⟩ := lt_some hf
    refine lv_iinc (v := x4) (lv' := [(5, .int x4), (0, .ref (ev.2.1 1)), (1, .int b1), (2, .int b2), (3, .int b3), (4, .int b4)]) hx hb dX6_joinedWith_75 hl (k := 5) rfl (by rw [ex4]; rfl) (by decide) rfl (fun ls hl => ?_)
    refine lv_goto (tgt := 6) hx hb dX6_joinedWith_78 (by decide) ?_
    exact hk6 b1 b2 b3 b4 x4 u H locs ls hw (lv_sub hl [1, 2, 3, 4, 5, 0] rfl) hf
  have wL35 : ∀ (k6 : Int32 → Int32 → Int32 → Int32 → Int32 → SS → Option (Int32 × SS)) (hk6 : ∀ (b1 : Int32) (b2 : Int32) (b3 : Int32) (b4 : Int32) (b5 : Int32) (u : SS) (H : Heap) (locs : List Loc) (ls : Array Slot), VW wdB ev s u H locs → lv_has ls 8 [(0, .ref (ev.2.1 1)), (1, .int b1), (2, .int b2), (3, .int b3), (4, .int b4), (5, .int b5)] → k6 b1 b2 b3 b4 b5 u = some (r, u') → W p l e (rmk 5) s m av below meth cd H locs 0 0 (ZI wdB ev s below av r u') (F0 m 6 ls [])) (b1 : Int32) (b2 : Int32) (b3 : Int32) (b4 : Int32) (b5 : Int32) (b6 : Int32) (q0 : Int32) (u : SS) (H : Heap) (locs : List Loc) (ls : Array Slot), VW wdB ev s u H locs → lv_has ls 8 [(0, .ref (ev.2.1 1)), (1, .int b1), (2, .int b2), (3, .int b3), (4, .int b4), (5, .int b5), (6, .int b6)] → f_X6_joinedWith_L35 k6 b1 b2 b3 b4 b5 b6 q0 u = some (r, u') → W p l e (rmk 5) s m av below meth cd H locs 0 0 (ZI wdB ev s below av r u') (F0 m 35 ls [.int q0]) := by
    intro k6 hk6 b1 b2 b3 b4 b5 b6 q0 u H locs ls hw hl hf
    unfold f_X6_joinedWith_L35 at hf
    refine lv_istore (lv' := [(7, .int q0), (0, .ref (ev.2.1 1)), (1, .int b1), (2, .int b2), (3, .int b3), (4, .int b4), (5, .int b5), (6, .int b6)]) hx hb dX6_joinedWith_35 hl (by decide) rfl (fun ls hl => ?_)
    refine lv_iload hx hb dX6_joinedWith_37 (lv_at hl 0 rfl) ?_
    refine lv_if_eq (tgt := 75) hx hb dX6_joinedWith_39 (by decide) (fun z => ?_) (fun z => ?_)
    · have hf := it_pos z hf
      exact wL75 k6 hk6 b1 b2 b3 b4 b5 u H locs ls hw (lv_sub hl [1, 2, 3, 4, 5, 6] rfl) hf
    · have hf := it_neg z hf
      refine lv_aload_n hx hb dX6_joinedWith_42 rfl (lv_at hl 1 rfl) ?_
      refine gB1_2 hc hw fl_X6_54 dX6_joinedWith_43 ?_
      refine lv_iload hx hb dX6_joinedWith_46 (lv_at hl 7 rfl) ?_
      obtain ⟨z, hf⟩ := oi_some hf
      refine aB12 hc hw z dX6_joinedWith_48 ?_
      refine lv_if_eq (tgt := 75) hx hb dX6_joinedWith_49 (by decide) (fun z => ?_) (fun z => ?_)
      · have hf := it_pos z hf
        exact wL75 k6 hk6 b1 b2 b3 b4 b5 u H locs ls hw (lv_sub hl [1, 2, 3, 4, 5, 6] rfl) hf
      · have hf := it_neg z hf
        refine lv_aload_n hx hb dX6_joinedWith_52 rfl (lv_at hl 1 rfl) ?_
        refine lv_iload_n hx hb dX6_joinedWith_53 rfl (lv_at hl 3 rfl) ?_
        refine lv_iload_n hx hb dX6_joinedWith_54 rfl (lv_at hl 2 rfl) ?_
        obtain ⟨r7, u6, h5, hf⟩ := ob_some hf
        refine endI okB hw (runN_ok (As := [.int b2, .int b1]) (rest := [.ref (ev.2.1 1)]) okB hc hw (c_X9_cell l ev b2 b1 u h5 H.size) ks_X9_cell (hZ.2.2 ("BidsJudged$Rings", 50) (by decide)) hl.1 rfl rfl (Nat.le_of_ble_eq_true rfl) (rm_le (by decide) (by decide)) dX6_joinedWith_55) (fun H locs hw => ?_)
        refine lv_iload hx hb dX6_joinedWith_58 (lv_at hl 7 rfl) ?_
        obtain ⟨r10, u9, h8, hf⟩ := ob_some hf
        refine endI okB hw (runS_ok (As := [.ref (ev.2.1 1), .int r7, .int b6]) (rest := []) okB hc hw (c_X6_areJoined l ev r7 b6 u6 h8 H.size) ks_X6_areJoined ml_X6_58 hl.1 rfl rfl (Nat.le_of_ble_eq_true rfl) (rm_le (by decide) (by decide)) dX6_joinedWith_60) (fun H locs hw => ?_)
        refine lv_if_eq (tgt := 75) hx hb dX6_joinedWith_63 (by decide) (fun z => ?_) (fun z => ?_)
        · have hf := it_pos z hf
          exact wL75 k6 hk6 b1 b2 b3 b4 b5 u9 H locs ls hw (lv_sub hl [1, 2, 3, 4, 5, 6] rfl) hf
        · have hf := it_neg z hf
          refine lv_iload hx hb dX6_joinedWith_66 (lv_at hl 5 rfl) ?_
          refine lv_iconst (v := (1 : Int32)) hx hb dX6_joinedWith_68 (by decide) ?_
          refine lv_iload hx hb dX6_joinedWith_69 (lv_at hl 6 rfl) ?_
          refine lv_ishl hx hb dX6_joinedWith_71 ?_
          refine lv_ior hx hb dX6_joinedWith_72 ?_
          obtain ⟨x11, ex11, hf⟩ := lt_some hf
          refine tope ex11 ?_
          refine lv_istore (lv' := [(4, .int x11), (7, .int q0), (0, .ref (ev.2.1 1)), (1, .int b1), (2, .int b2), (3, .int b3), (5, .int b5), (6, .int b6)]) hx hb dX6_joinedWith_73 hl (by decide) rfl (fun ls hl => ?_)
          exact wL75 k6 hk6 b1 b2 b3 x11 b5 u9 H locs ls hw (lv_sub hl [2, 3, 4, 5, 0, 6] rfl) hf
  have wL6 : ∀ (n : Nat) (b1 : Int32) (b2 : Int32) (b3 : Int32) (b4 : Int32) (b5 : Int32) (u : SS) (H : Heap) (locs : List Loc) (ls : Array Slot), VW wdB ev s u H locs → lv_has ls 8 [(0, .ref (ev.2.1 1)), (1, .int b1), (2, .int b2), (3, .int b3), (4, .int b4), (5, .int b5)] → f_X6_joinedWith_L6 n b1 b2 b3 b4 b5 u = some (r, u') → W p l e (rmk 5) s m av below meth cd H locs 0 0 (ZI wdB ev s below av r u') (F0 m 6 ls []) := by
    intro n
    induction n with
    | zero =>
      intro b1 b2 b3 b4 b5 u H locs ls hw hl hf
      cases hf
    | succ n hk6 =>
      intro b1 b2 b3 b4 b5 u H locs ls hw hl hf
      have hf : b_X6_joinedWith_L6 (f_X6_joinedWith_L6 n) b1 b2 b3 b4 b5 u = some (r, u') := hf
      unfold b_X6_joinedWith_L6 at hf
      refine lv_iload hx hb dX6_joinedWith_6 (lv_at hl 5 rfl) ?_
      refine lv_bipush (v := (8 : Int32)) hx hb dX6_joinedWith_8 (by decide) ?_
      refine lv_icmp_ge (tgt := 81) hx hb dX6_joinedWith_10 (by decide) (fun z => ?_) (fun z => ?_)
      · have hf := it_pos z hf
        refine lv_iload hx hb dX6_joinedWith_81 (lv_at hl 4 rfl) ?_
        exact retI hc hr hlk hw hf dX6_joinedWith_83
      · have hf := it_neg z hf
        refine lv_iload hx hb dX6_joinedWith_13 (lv_at hl 5 rfl) ?_
        refine lv_iload_n hx hb dX6_joinedWith_15 rfl (lv_at hl 1 rfl) ?_
        obtain ⟨r3, u2, h1, hf⟩ := ob_some hf
        refine endI okB hw (runN_ok (As := [.int b5, .int b1]) (rest := []) okB hc hw (c_X9_cell l ev b5 b1 u h1 H.size) ks_X9_cell (hZ.2.2 ("BidsJudged$Rings", 50) (by decide)) hl.1 rfl rfl (Nat.le_of_ble_eq_true rfl) (rm_le (by decide) (by decide)) dX6_joinedWith_16) (fun H locs hw => ?_)
        refine lv_istore (lv' := [(6, .int r3), (0, .ref (ev.2.1 1)), (1, .int b1), (2, .int b2), (3, .int b3), (4, .int b4), (5, .int b5)]) hx hb dX6_joinedWith_19 hl (by decide) rfl (fun ls hl => ?_)
        refine lv_iload_n hx hb dX6_joinedWith_21 rfl (lv_at hl 4 rfl) ?_
        refine lv_iload hx hb dX6_joinedWith_22 (lv_at hl 6 rfl) ?_
        refine lv_ishr hx hb dX6_joinedWith_24 ?_
        refine lv_iconst (v := (1 : Int32)) hx hb dX6_joinedWith_25 (by decide) ?_
        refine lv_iand hx hb dX6_joinedWith_26 ?_
        refine lv_if_ne (tgt := 34) hx hb dX6_joinedWith_27 (by decide) (fun z => ?_) (fun z => ?_)
        · have hf := it_neg z hf
          refine lv_iconst (v := (0 : Int32)) hx hb dX6_joinedWith_34 (by decide) ?_
          exact wL35 (f_X6_joinedWith_L6 n) hk6 b1 b2 b3 b4 b5 r3 (0 : Int32) u2 H locs ls hw (lv_sub hl [1, 2, 3, 4, 5, 6, 0] rfl) hf
        · have hf := it_pos z hf
          refine lv_iconst (v := (1 : Int32)) hx hb dX6_joinedWith_30 (by decide) ?_
          refine lv_goto (tgt := 35) hx hb dX6_joinedWith_31 (by decide) ?_
          exact wL35 (f_X6_joinedWith_L6 n) hk6 b1 b2 b3 b4 b5 r3 (1 : Int32) u2 H locs ls hw (lv_sub hl [1, 2, 3, 4, 5, 6, 0] rfl) hf
  unfold f_X6_joinedWith at hf
  refine lv_iconst (v := (0 : Int32)) hx hb dX6_joinedWith_0 (by decide) ?_
  refine lv_istore (lv' := [(4, .int (0 : Int32)), (0, .ref (ev.2.1 1)), (1, .int a1), (2, .int a2), (3, .int a3)]) hx hb dX6_joinedWith_1 hl (by decide) rfl (fun ls hl => ?_)
  refine lv_iconst (v := (0 : Int32)) hx hb dX6_joinedWith_3 (by decide) ?_
  refine lv_istore (lv' := [(5, .int (0 : Int32)), (4, .int (0 : Int32)), (0, .ref (ev.2.1 1)), (1, .int a1), (2, .int a2), (3, .int a3)]) hx hb dX6_joinedWith_4 hl (by decide) rfl (fun ls hl => ?_)
  exact wL6 FU a1 a2 a3 (0 : Int32) (0 : Int32) u H locs ls hw (lv_sub hl [2, 3, 4, 5, 1, 0] rfl) hf
