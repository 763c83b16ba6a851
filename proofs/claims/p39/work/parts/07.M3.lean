def f_X10_open (a1 : Int32) (u : SS) : Option SS :=
  if (gI u 10) = (6 : Int32) then (lt (sI u 12 (1 : Int32)) fun u5 => some u5) else (lt (sI u 10 ((gI u 10) + (1 : Int32))) fun u1 => oi (gI u1 9) 100 (lt (tA u1 14 (gI u1 9) a1) fun u2 => lt (sI u2 9 ((gI u2 9) + (1 : Int32))) fun u3 => lt (sI u3 11 ((gI u3 11) + (1 : Int32))) fun u4 => some u4))
set_option maxHeartbeats 4000000 in
set_option maxRecDepth 100000 in
theorem c_X10_open (l : Launch) (ev : EV) (a1 : Int32) (u : SS) {u' : SS} (hf : f_X10_open a1 u = some u') : MV wdM l yX10_open cX10_open 2 none 0 ev [.ref (ev.2.1 0), .int a1] u u' := by
  refine bodyV (by decide +kernel) rfl (Nat.le_of_ble_eq_true rfl) ?_
  intro p e s m below meth cd ls H locs hc hr hlk hw hl
  generalize hav : (List.toArray [.ref (ev.2.1 0), .int a1] : Array Value) = av at hc ⊢
  obtain ⟨hx, hb, hml, hown, hts, hK, hZ⟩ := id hc
  have hl : lv_has ls 2 [(0, .ref (ev.2.1 0)), (1, .int a1)] := hl
  unfold f_X10_open at hf
  refine lv_aload_n hx hb dX10_open_0 rfl (lv_at hl 0 rfl) ?_
  refine gM0_29 hc hw fl_X10_252 dX10_open_1 ?_
  refine lv_bipush (v := (6 : Int32)) hx hb dX10_open_4 (by decide) ?_
  refine lv_icmp_ne (tgt := 15) hx hb dX10_open_6 (by decide) (fun z => ?_) (fun z => ?_)
  · have hf := it_neg z hf
    refine lv_aload_n hx hb dX10_open_15 rfl (lv_at hl 0 rfl) ?_
    refine lv_dup hx hb dX10_open_16 rfl ?_
    refine gM0_29 hc hw fl_X10_252 dX10_open_17 ?_
    refine lv_iconst (v := (1 : Int32)) hx hb dX10_open_20 (by decide) ?_
    refine lv_iadd hx hb dX10_open_21 ?_
    refine pM0_29 hc hw fl_X10_252 dX10_open_22 (fun H locs hw => ?_)
    obtain ⟨u1, eu1, hf⟩ := lt_some hf
    have hw := VW.nm eu1 hw
    refine lv_aload_n hx hb dX10_open_25 rfl (lv_at hl 0 rfl) ?_
    refine gM0_27 hc hw fl_X10_73 dX10_open_26 ?_
    refine lv_aload_n hx hb dX10_open_29 rfl (lv_at hl 0 rfl) ?_
    refine gM0_28 hc hw fl_X10_238 dX10_open_30 ?_
    refine lv_iload_n hx hb dX10_open_33 rfl (lv_at hl 1 rfl) ?_
    obtain ⟨z, hf⟩ := oi_some hf
    refine tM19 hc hw z dX10_open_34 (fun H locs hw => ?_)
    obtain ⟨u2, eu2, hf⟩ := lt_some hf
    have hw := VW.nm eu2 hw
    refine lv_aload_n hx hb dX10_open_35 rfl (lv_at hl 0 rfl) ?_
    refine lv_dup hx hb dX10_open_36 rfl ?_
    refine gM0_28 hc hw fl_X10_238 dX10_open_37 ?_
    refine lv_iconst (v := (1 : Int32)) hx hb dX10_open_40 (by decide) ?_
    refine lv_iadd hx hb dX10_open_41 ?_
    refine pM0_28 hc hw fl_X10_238 dX10_open_42 (fun H locs hw => ?_)
    obtain ⟨u3, eu3, hf⟩ := lt_some hf
    have hw := VW.nm eu3 hw
    refine lv_aload_n hx hb dX10_open_45 rfl (lv_at hl 0 rfl) ?_
    refine lv_dup hx hb dX10_open_46 rfl ?_
    refine gM0_30 hc hw fl_X10_258 dX10_open_47 ?_
    refine lv_iconst (v := (1 : Int32)) hx hb dX10_open_50 (by decide) ?_
    refine lv_iadd hx hb dX10_open_51 ?_
    refine pM0_30 hc hw fl_X10_258 dX10_open_52 (fun H locs hw => ?_)
    obtain ⟨u4, eu4, hf⟩ := lt_some hf
    have hw := VW.nm eu4 hw
    exact retV hc hr hlk hw hf dX10_open_55
  · have hf := it_pos z hf
    refine lv_aload_n hx hb dX10_open_9 rfl (lv_at hl 0 rfl) ?_
    refine lv_iconst (v := (1 : Int32)) hx hb dX10_open_10 (by decide) ?_
    refine pM0_31 hc hw fl_X10_255 nz1 fz1 dX10_open_11 (fun H locs hw => ?_)
    obtain ⟨u5, eu5, hf⟩ := lt_some hf
    have hw := VW.nm eu5 hw
    exact retV hc hr hlk hw hf dX10_open_14
def f_X10_isDigit (a0 : Int32) (u : SS) : Option (Int32 × SS) :=
  ob (f_X10_in a0 (48 : Int32) (57 : Int32) u) fun r3 u2 => if ¬ (r3 = 0 ∨ r3 = 1) then none else some (r3, u2)
set_option maxHeartbeats 4000000 in
set_option maxRecDepth 100000 in
theorem c_X10_isDigit (l : Launch) (ev : EV) (a0 : Int32) (u : SS) {r : Int32} {u' : SS} (hf : f_X10_isDigit a0 u = some (r, u')) : MI wdM l yX10_isDigit cX10_isDigit 1 (some .boolean) 1 ev [.int a0] u r u' := by
  refine bodyI (by decide +kernel) rfl (Nat.le_of_ble_eq_true rfl) ?_
  intro p e s m below meth cd ls H locs hc hr hlk hw hl
  generalize hav : (List.toArray [.int a0] : Array Value) = av at hc ⊢
  obtain ⟨hx, hb, hml, hown, hts, hK, hZ⟩ := id hc
  have hl : lv_has ls 1 [(0, .int a0)] := hl
  unfold f_X10_isDigit at hf
  refine lv_iload_n hx hb dX10_isDigit_0 rfl (lv_at hl 0 rfl) ?_
  refine lv_bipush (v := (48 : Int32)) hx hb dX10_isDigit_1 (by decide) ?_
  refine lv_bipush (v := (57 : Int32)) hx hb dX10_isDigit_3 (by decide) ?_
  obtain ⟨r3, u2, h1, hf⟩ := ob_some hf
  refine endI okM hw (runS_ok (As := [.int a0, .int (48 : Int32), .int (57 : Int32)]) (rest := []) okM hc hw (c_X10_in l ev a0 (48 : Int32) (57 : Int32) u h1 H.size) ks_X10_in ml_X10_144 hl.1 rfl rfl (Nat.le_of_ble_eq_true rfl) (rm_le (by decide) (by decide)) dX10_isDigit_5) (fun H locs hw => ?_)
  obtain ⟨z, hf⟩ := it_none hf
  exact retZ hc hr hlk hw (bo_nar z) hf dX10_isDigit_8
def f_X10_readSign_L42 (b1 : Int32) (q0 : Int32) (u : SS) : Option (Int32 × SS) :=
  ov (f_X10_settle q0 u) fun u2 => oi (gI u2 9) 100 (lt (tA u2 14 (gI u2 9) b1) fun u3 => lt (sI u3 9 ((gI u3 9) + (1 : Int32))) fun u4 => lt (sI u4 11 ((gI u4 11) + (1 : Int32))) fun u5 => some ((1 : Int32), u5))
def f_X10_readSign_L37 (b1 : Int32) (u : SS) : Option (Int32 × SS) :=
  f_X10_readSign_L42 b1 (1 : Int32) u
def f_X10_readSign_L24 (b1 : Int32) (u : SS) : Option (Int32 × SS) :=
  if b1 = (43 : Int32) then (f_X10_readSign_L37 b1 u) else (if b1 = (45 : Int32) then (f_X10_readSign_L37 b1 u) else (f_X10_readSign_L42 b1 (0 : Int32) u))
def f_X10_readSign_L256 (q0 : Int32) (u : SS) : Option (Int32 × SS) :=
  ov (f_X10_work q0 u) fun u17 => some ((0 : Int32), u17)
def f_X10_readSign_L197 (b2 : Int32) (q0 : Int32) (u : SS) : Option (Int32 × SS) :=
  if ¬ (q0 = 0 ∨ q0 = 1) then none else lt (sI u 12 q0) fun u12 => if (gI u12 12) = 0 then (lt (sI u12 9 ((gI u12 9) - (1 : Int32))) fun u13 => lt (sI u13 10 ((gI u13 10) - (1 : Int32))) fun u14 => lt (sI u14 11 ((gI u14 11) + (1 : Int32))) fun u15 => if b2 = (40 : Int32) then (some ((0 : Int32), u15)) else (if b2 = (1 : Int32) then (f_X10_readSign_L256 (60 : Int32) u15) else (f_X10_readSign_L256 (62 : Int32) u15))) else (some ((0 : Int32), u12))
def f_X10_readSign_L196 (b2 : Int32) (u : SS) : Option (Int32 × SS) :=
  f_X10_readSign_L197 b2 (0 : Int32) u
def f_X10_readSign_L146 (q0 : Int32) (q1 : Int32) (u : SS) : Option (Int32 × SS) :=
  oi q1 100 (lt (tA u 14 q1 q0) fun u27 => lt (sI u27 11 ((gI u27 11) + (1 : Int32))) fun u28 => some ((1 : Int32), u28))
def f_X10_readSign_L112 (q0 : Int32) (u : SS) : Option (Int32 × SS) :=
  if ¬ (q0 = 0 ∨ q0 = 1) then none else lt (sI u 12 q0) fun u23 => if (gI u23 12) = 0 then (ob (f_X10_topSign u23) fun r26 u25 => if r26 = (60 : Int32) then (f_X10_readSign_L146 (1 : Int32) ((gI u23 9) - (1 : Int32)) u25) else (f_X10_readSign_L146 (2 : Int32) ((gI u23 9) - (1 : Int32)) u25)) else (some ((1 : Int32), u23))
def f_X10_readSign_L111 (u : SS) : Option (Int32 × SS) :=
  f_X10_readSign_L112 (0 : Int32) u
def f_X10_readSign (a1 : Int32) (u : SS) : Option (Int32 × SS) :=
  if a1 = (42 : Int32) then (f_X10_readSign_L24 a1 u) else (if a1 = (47 : Int32) then (f_X10_readSign_L24 a1 u) else (if a1 = (43 : Int32) then (f_X10_readSign_L24 a1 u) else (if a1 = (45 : Int32) then (f_X10_readSign_L24 a1 u) else (if a1 = (44 : Int32) then (ov (f_X10_settle (1 : Int32) u) fun u19 => ob (f_X10_topSign u19) fun r22 u21 => if r22 = (60 : Int32) then (f_X10_readSign_L111 u21) else (ob (f_X10_topSign u21) fun r31 u30 => if r31 = (62 : Int32) then (f_X10_readSign_L111 u30) else (f_X10_readSign_L112 (1 : Int32) u30))) else (if a1 = (41 : Int32) then (ov (f_X10_settle (1 : Int32) u) fun u8 => ob (f_X10_topSign u8) fun r11 u10 => if r11 = (40 : Int32) then (f_X10_readSign_L196 r11 u10) else (if r11 = (1 : Int32) then (f_X10_readSign_L196 r11 u10) else (if r11 = (2 : Int32) then (f_X10_readSign_L196 r11 u10) else (f_X10_readSign_L197 r11 (1 : Int32) u10)))) else (lt (sI u 12 (1 : Int32)) fun u6 => some ((0 : Int32), u6)))))))
set_option maxHeartbeats 4000000 in
set_option maxRecDepth 100000 in
theorem c_X10_readSign (l : Launch) (ev : EV) (a1 : Int32) (u : SS) {r : Int32} {u' : SS} (hf : f_X10_readSign a1 u = some (r, u')) : MI wdM l yX10_readSign cX10_readSign 3 (some .boolean) 3 ev [.ref (ev.2.1 0), .int a1] u r u' := by
  refine bodyI (by decide +kernel) rfl (Nat.le_of_ble_eq_true rfl) ?_
  intro p e s m below meth cd ls H locs hc hr hlk hw hl
  generalize hav : (List.toArray [.ref (ev.2.1 0), .int a1] : Array Value) = av at hc ⊢
  obtain ⟨hx, hb, hml, hown, hts, hK, hZ⟩ := id hc
  have hl : lv_has ls 3 [(0, .ref (ev.2.1 0)), (1, .int a1)] := hl
  have wL42 : ∀ (b1 : Int32) (q0 : Int32) (u : SS) (H : Heap) (locs : List Loc) (ls : Array Slot), VW wdM ev s u H locs → lv_has ls 3 [(0, .ref (ev.2.1 0)), (1, .int b1)] → f_X10_readSign_L42 b1 q0 u = some (r, u') → W p l e (rmk 3) s m av below meth cd H locs 0 0 (ZI wdM ev s below av r u') (F0 m 42 ls [.int q0, .ref (ev.2.1 0)]) := by
    intro b1 q0 u H locs ls hw hl hf
    unfold f_X10_readSign_L42 at hf
    obtain ⟨u2, h1, hf⟩ := ov_some hf
    refine endV okM hw (runV_ok (As := [.int q0]) (rest := []) okM hc hw (c_X10_settle l ev q0 u h1 H.size) kv_X10_settle ml_X10_282 (rvM0 ev u) hl.1 rfl rfl (Nat.le_of_ble_eq_true rfl) (rm_le (by decide) (by decide)) dX10_readSign_42) (fun H locs hw => ?_)
    refine lv_aload_n hx hb dX10_readSign_45 rfl (lv_at hl 0 rfl) ?_
    refine gM0_27 hc hw fl_X10_73 dX10_readSign_46 ?_
    refine lv_aload_n hx hb dX10_readSign_49 rfl (lv_at hl 0 rfl) ?_
    refine gM0_28 hc hw fl_X10_238 dX10_readSign_50 ?_
    refine lv_iload_n hx hb dX10_readSign_53 rfl (lv_at hl 1 rfl) ?_
    obtain ⟨z, hf⟩ := oi_some hf
    refine tM19 hc hw z dX10_readSign_54 (fun H locs hw => ?_)
    obtain ⟨u3, eu3, hf⟩ := lt_some hf
    have hw := VW.nm eu3 hw
    refine lv_aload_n hx hb dX10_readSign_55 rfl (lv_at hl 0 rfl) ?_
    refine lv_dup hx hb dX10_readSign_56 rfl ?_
    refine gM0_28 hc hw fl_X10_238 dX10_readSign_57 ?_
    refine lv_iconst (v := (1 : Int32)) hx hb dX10_readSign_60 (by decide) ?_
    refine lv_iadd hx hb dX10_readSign_61 ?_
    refine pM0_28 hc hw fl_X10_238 dX10_readSign_62 (fun H locs hw => ?_)
    obtain ⟨u4, eu4, hf⟩ := lt_some hf
    have hw := VW.nm eu4 hw
    refine lv_aload_n hx hb dX10_readSign_65 rfl (lv_at hl 0 rfl) ?_
    refine lv_dup hx hb dX10_readSign_66 rfl ?_
    refine gM0_30 hc hw fl_X10_258 dX10_readSign_67 ?_
    refine lv_iconst (v := (1 : Int32)) hx hb dX10_readSign_70 (by decide) ?_
    refine lv_iadd hx hb dX10_readSign_71 ?_
    refine pM0_30 hc hw fl_X10_258 dX10_readSign_72 (fun H locs hw => ?_)
    obtain ⟨u5, eu5, hf⟩ := lt_some hf
    have hw := VW.nm eu5 hw
    refine lv_iconst (v := (1 : Int32)) hx hb dX10_readSign_75 (by decide) ?_
    exact retZ hc hr hlk hw nz1 hf dX10_readSign_76
  have wL37 : ∀ (b1 : Int32) (u : SS) (H : Heap) (locs : List Loc) (ls : Array Slot), VW wdM ev s u H locs → lv_has ls 3 [(0, .ref (ev.2.1 0)), (1, .int b1)] → f_X10_readSign_L37 b1 u = some (r, u') → W p l e (rmk 3) s m av below meth cd H locs 0 0 (ZI wdM ev s below av r u') (F0 m 37 ls [.ref (ev.2.1 0)]) := by
    intro b1 u H locs ls hw hl hf
    unfold f_X10_readSign_L37 at hf
    refine lv_iconst (v := (1 : Int32)) hx hb dX10_readSign_37 (by decide) ?_
    refine lv_goto (tgt := 42) hx hb dX10_readSign_38 (by decide) ?_
    exact wL42 b1 (1 : Int32) u H locs ls hw (lv_sub hl [0, 1] rfl) hf
  have wL24 : ∀ (b1 : Int32) (u : SS) (H : Heap) (locs : List Loc) (ls : Array Slot), VW wdM ev s u H locs → lv_has ls 3 [(0, .ref (ev.2.1 0)), (1, .int b1)] → f_X10_readSign_L24 b1 u = some (r, u') → W p l e (rmk 3) s m av below meth cd H locs 0 0 (ZI wdM ev s below av r u') (F0 m 24 ls []) := by
    intro b1 u H locs ls hw hl hf
    unfold f_X10_readSign_L24 at hf
    refine lv_aload_n hx hb dX10_readSign_24 rfl (lv_at hl 0 rfl) ?_
    refine lv_iload_n hx hb dX10_readSign_25 rfl (lv_at hl 1 rfl) ?_
    refine lv_bipush (v := (43 : Int32)) hx hb dX10_readSign_26 (by decide) ?_
    refine lv_icmp_eq (tgt := 37) hx hb dX10_readSign_28 (by decide) (fun z => ?_) (fun z => ?_)
    · have hf := it_pos z hf
      exact wL37 b1 u H locs ls hw (lv_sub hl [0, 1] rfl) hf
    · have hf := it_neg z hf
      refine lv_iload_n hx hb dX10_readSign_31 rfl (lv_at hl 1 rfl) ?_
      refine lv_bipush (v := (45 : Int32)) hx hb dX10_readSign_32 (by decide) ?_
      refine lv_icmp_ne (tgt := 41) hx hb dX10_readSign_34 (by decide) (fun z => ?_) (fun z => ?_)
      · have hf := it_neg z hf
        refine lv_iconst (v := (0 : Int32)) hx hb dX10_readSign_41 (by decide) ?_
        exact wL42 b1 (0 : Int32) u H locs ls hw (lv_sub hl [0, 1] rfl) hf
      · have hf := it_pos z hf
        exact wL37 b1 u H locs ls hw (lv_sub hl [0, 1] rfl) hf
  have wL256 : ∀ (q0 : Int32) (u : SS) (H : Heap) (locs : List Loc) (ls : Array Slot), VW wdM ev s u H locs → lv_has ls 3 [] → f_X10_readSign_L256 q0 u = some (r, u') → W p l e (rmk 3) s m av below meth cd H locs 0 0 (ZI wdM ev s below av r u') (F0 m 256 ls [.int q0, .ref (ev.2.1 0)]) := by
    intro q0 u H locs ls hw hl hf
    unfold f_X10_readSign_L256 at hf
    obtain ⟨u17, h16, hf⟩ := ov_some hf
    refine endV okM hw (runV_ok (As := [.int q0]) (rest := []) okM hc hw (c_X10_work l ev q0 u h16 H.size) kv_X10_work ml_X10_245 (rvM0 ev u) hl.1 rfl rfl (Nat.le_of_ble_eq_true rfl) (rm_le (by decide) (by decide)) dX10_readSign_256) (fun H locs hw => ?_)
    refine lv_iconst (v := (0 : Int32)) hx hb dX10_readSign_259 (by decide) ?_
    exact retZ hc hr hlk hw nz0 hf dX10_readSign_260
  have wL197 : ∀ (b2 : Int32) (q0 : Int32) (u : SS) (H : Heap) (locs : List Loc) (ls : Array Slot), VW wdM ev s u H locs → lv_has ls 3 [(0, .ref (ev.2.1 0)), (2, .int b2)] → f_X10_readSign_L197 b2 q0 u = some (r, u') → W p l e (rmk 3) s m av below meth cd H locs 0 0 (ZI wdM ev s below av r u') (F0 m 197 ls [.int q0, .ref (ev.2.1 0)]) := by
    intro b2 q0 u H locs ls hw hl hf
    unfold f_X10_readSign_L197 at hf
    obtain ⟨z, hf⟩ := it_none hf
    refine pM0_31 hc hw fl_X10_255 (bo_nar z) (bo_fit z) dX10_readSign_197 (fun H locs hw => ?_)
    obtain ⟨u12, eu12, hf⟩ := lt_some hf
    have hw := VW.nm eu12 hw
    refine lv_aload_n hx hb dX10_readSign_200 rfl (lv_at hl 0 rfl) ?_
    refine gM0_31 hc hw fl_X10_255 dX10_readSign_201 ?_
    refine lv_if_ne (tgt := 259) hx hb dX10_readSign_204 (by decide) (fun z => ?_) (fun z => ?_)
    · have hf := it_neg z hf
      refine lv_iconst (v := (0 : Int32)) hx hb dX10_readSign_259 (by decide) ?_
      exact retZ hc hr hlk hw nz0 hf dX10_readSign_260
    · have hf := it_pos z hf
      refine lv_aload_n hx hb dX10_readSign_207 rfl (lv_at hl 0 rfl) ?_
      refine lv_dup hx hb dX10_readSign_208 rfl ?_
      refine gM0_28 hc hw fl_X10_238 dX10_readSign_209 ?_
      refine lv_iconst (v := (1 : Int32)) hx hb dX10_readSign_212 (by decide) ?_
      refine lv_isub hx hb dX10_readSign_213 ?_
      refine pM0_28 hc hw fl_X10_238 dX10_readSign_214 (fun H locs hw => ?_)
      obtain ⟨u13, eu13, hf⟩ := lt_some hf
      have hw := VW.nm eu13 hw
      refine lv_aload_n hx hb dX10_readSign_217 rfl (lv_at hl 0 rfl) ?_
      refine lv_dup hx hb dX10_readSign_218 rfl ?_
      refine gM0_29 hc hw fl_X10_252 dX10_readSign_219 ?_
      refine lv_iconst (v := (1 : Int32)) hx hb dX10_readSign_222 (by decide) ?_
      refine lv_isub hx hb dX10_readSign_223 ?_
      refine pM0_29 hc hw fl_X10_252 dX10_readSign_224 (fun H locs hw => ?_)
      obtain ⟨u14, eu14, hf⟩ := lt_some hf
      have hw := VW.nm eu14 hw
      refine lv_aload_n hx hb dX10_readSign_227 rfl (lv_at hl 0 rfl) ?_
      refine lv_dup hx hb dX10_readSign_228 rfl ?_
      refine gM0_30 hc hw fl_X10_258 dX10_readSign_229 ?_
      refine lv_iconst (v := (1 : Int32)) hx hb dX10_readSign_232 (by decide) ?_
      refine lv_iadd hx hb dX10_readSign_233 ?_
      refine pM0_30 hc hw fl_X10_258 dX10_readSign_234 (fun H locs hw => ?_)
      obtain ⟨u15, eu15, hf⟩ := lt_some hf
      have hw := VW.nm eu15 hw
      refine lv_iload_n hx hb dX10_readSign_237 rfl (lv_at hl 1 rfl) ?_
      refine lv_bipush (v := (40 : Int32)) hx hb dX10_readSign_238 (by decide) ?_
      refine lv_icmp_eq (tgt := 259) hx hb dX10_readSign_240 (by decide) (fun z => ?_) (fun z => ?_)
      · have hf := it_pos z hf
        refine lv_iconst (v := (0 : Int32)) hx hb dX10_readSign_259 (by decide) ?_
        exact retZ hc hr hlk hw nz0 hf dX10_readSign_260
      · have hf := it_neg z hf
        refine lv_aload_n hx hb dX10_readSign_243 rfl (lv_at hl 0 rfl) ?_
        refine lv_iload_n hx hb dX10_readSign_244 rfl (lv_at hl 1 rfl) ?_
        refine lv_iconst (v := (1 : Int32)) hx hb dX10_readSign_245 (by decide) ?_
        refine lv_icmp_ne (tgt := 254) hx hb dX10_readSign_246 (by decide) (fun z => ?_) (fun z => ?_)
        · have hf := it_neg z hf
          refine lv_bipush (v := (62 : Int32)) hx hb dX10_readSign_254 (by decide) ?_
          exact wL256 (62 : Int32) u15 H locs ls hw (lv_sub hl [] rfl) hf
        · have hf := it_pos z hf
          refine lv_bipush (v := (60 : Int32)) hx hb dX10_readSign_249 (by decide) ?_
          refine lv_goto (tgt := 256) hx hb dX10_readSign_251 (by decide) ?_
          exact wL256 (60 : Int32) u15 H locs ls hw (lv_sub hl [] rfl) hf
  have wL196 : ∀ (b2 : Int32) (u : SS) (H : Heap) (locs : List Loc) (ls : Array Slot), VW wdM ev s u H locs → lv_has ls 3 [(0, .ref (ev.2.1 0)), (2, .int b2)] → f_X10_readSign_L196 b2 u = some (r, u') → W p l e (rmk 3) s m av below meth cd H locs 0 0 (ZI wdM ev s below av r u') (F0 m 196 ls [.ref (ev.2.1 0)]) := by
    intro b2 u H locs ls hw hl hf
    unfold f_X10_readSign_L196 at hf
    refine lv_iconst (v := (0 : Int32)) hx hb dX10_readSign_196 (by decide) ?_
    exact wL197 b2 (0 : Int32) u H locs ls hw (lv_sub hl [0, 1] rfl) hf
  have wL146 : ∀ (q0 : Int32) (q1 : Int32) (u : SS) (H : Heap) (locs : List Loc) (ls : Array Slot), VW wdM ev s u H locs → lv_has ls 3 [(0, .ref (ev.2.1 0))] → f_X10_readSign_L146 q0 q1 u = some (r, u') → W p l e (rmk 3) s m av below meth cd H locs 0 0 (ZI wdM ev s below av r u') (F0 m 146 ls [.int q0, .int q1, .ref (ev.2.1 19)]) := by
    intro q0 q1 u H locs ls hw hl hf
    unfold f_X10_readSign_L146 at hf
    obtain ⟨z, hf⟩ := oi_some hf
    refine tM19 hc hw z dX10_readSign_146 (fun H locs hw => ?_)
    obtain ⟨u27, eu27, hf⟩ := lt_some hf
    have hw := VW.nm eu27 hw
    refine lv_aload_n hx hb dX10_readSign_147 rfl (lv_at hl 0 rfl) ?_
    refine lv_dup hx hb dX10_readSign_148 rfl ?_
    refine gM0_30 hc hw fl_X10_258 dX10_readSign_149 ?_
    refine lv_iconst (v := (1 : Int32)) hx hb dX10_readSign_152 (by decide) ?_
    refine lv_iadd hx hb dX10_readSign_153 ?_
    refine pM0_30 hc hw fl_X10_258 dX10_readSign_154 (fun H locs hw => ?_)
    obtain ⟨u28, eu28, hf⟩ := lt_some hf
    have hw := VW.nm eu28 hw
    refine lv_iconst (v := (1 : Int32)) hx hb dX10_readSign_157 (by decide) ?_
    exact retZ hc hr hlk hw nz1 hf dX10_readSign_158
  have wL112 : ∀ (q0 : Int32) (u : SS) (H : Heap) (locs : List Loc) (ls : Array Slot), VW wdM ev s u H locs → lv_has ls 3 [(0, .ref (ev.2.1 0))] → f_X10_readSign_L112 q0 u = some (r, u') → W p l e (rmk 3) s m av below meth cd H locs 0 0 (ZI wdM ev s below av r u') (F0 m 112 ls [.int q0, .ref (ev.2.1 0)]) := by
    intro q0 u H locs ls hw hl hf
    unfold f_X10_readSign_L112 at hf
    obtain ⟨z, hf⟩ := it_none hf
    refine pM0_31 hc hw fl_X10_255 (bo_nar z) (bo_fit z) dX10_readSign_112 (fun H locs hw => ?_)
    obtain ⟨u23, eu23, hf⟩ := lt_some hf
    have hw := VW.nm eu23 hw
    refine lv_aload_n hx hb dX10_readSign_115 rfl (lv_at hl 0 rfl) ?_
    refine gM0_31 hc hw fl_X10_255 dX10_readSign_116 ?_
    refine lv_if_ne (tgt := 157) hx hb dX10_readSign_119 (by decide) (fun z => ?_) (fun z => ?_)
    · have hf := it_neg z hf
      refine lv_iconst (v := (1 : Int32)) hx hb dX10_readSign_157 (by decide) ?_
      exact retZ hc hr hlk hw nz1 hf dX10_readSign_158
    · have hf := it_pos z hf
      refine lv_aload_n hx hb dX10_readSign_122 rfl (lv_at hl 0 rfl) ?_
      refine gM0_27 hc hw fl_X10_73 dX10_readSign_123 ?_
      refine lv_aload_n hx hb dX10_readSign_126 rfl (lv_at hl 0 rfl) ?_
      refine gM0_28 hc hw fl_X10_238 dX10_readSign_127 ?_
      refine lv_iconst (v := (1 : Int32)) hx hb dX10_readSign_130 (by decide) ?_
      refine lv_isub hx hb dX10_readSign_131 ?_
      refine lv_aload_n hx hb dX10_readSign_132 rfl (lv_at hl 0 rfl) ?_
      obtain ⟨r26, u25, h24, hf⟩ := ob_some hf
      refine endI okM hw (runV_ok (As := []) (rest := [.int ((gI u23 9) - (1 : Int32)), .ref (ev.2.1 19)]) okM hc hw (c_X10_topSign l ev u23 h24 H.size) kv_X10_topSign ml_X10_241 (rvM0 ev u23) hl.1 rfl rfl (Nat.le_of_ble_eq_true rfl) (rm_le (by decide) (by decide)) dX10_readSign_133) (fun H locs hw => ?_)
      refine lv_bipush (v := (60 : Int32)) hx hb dX10_readSign_136 (by decide) ?_
      refine lv_icmp_ne (tgt := 145) hx hb dX10_readSign_138 (by decide) (fun z => ?_) (fun z => ?_)
      · have hf := it_neg z hf
        refine lv_iconst (v := (2 : Int32)) hx hb dX10_readSign_145 (by decide) ?_
        exact wL146 (2 : Int32) ((gI u23 9) - (1 : Int32)) u25 H locs ls hw (lv_sub hl [0] rfl) hf
      · have hf := it_pos z hf
        refine lv_iconst (v := (1 : Int32)) hx hb dX10_readSign_141 (by decide) ?_
        refine lv_goto (tgt := 146) hx hb dX10_readSign_142 (by decide) ?_
        exact wL146 (1 : Int32) ((gI u23 9) - (1 : Int32)) u25 H locs ls hw (lv_sub hl [0] rfl) hf
  have wL111 : ∀ (u : SS) (H : Heap) (locs : List Loc) (ls : Array Slot), VW wdM ev s u H locs → lv_has ls 3 [(0, .ref (ev.2.1 0))] → f_X10_readSign_L111  u = some (r, u') → W p l e (rmk 3) s m av below meth cd H locs 0 0 (ZI wdM ev s below av r u') (F0 m 111 ls [.ref (ev.2.1 0)]) := by
    intro  u H locs ls hw hl hf
    unfold f_X10_readSign_L111 at hf
    refine lv_iconst (v := (0 : Int32)) hx hb dX10_readSign_111 (by decide) ?_
    exact wL112 (0 : Int32) u H locs ls hw (lv_sub hl [0] rfl) hf
  unfold f_X10_readSign at hf
  refine lv_iload_n hx hb dX10_readSign_0 rfl (lv_at hl 1 rfl) ?_
  refine lv_bipush (v := (42 : Int32)) hx hb dX10_readSign_1 (by decide) ?_
  refine lv_icmp_eq (tgt := 24) hx hb dX10_readSign_3 (by decide) (fun z => ?_) (fun z => ?_)
  · have hf := it_pos z hf
    exact wL24 a1 u H locs ls hw (lv_sub hl [0, 1] rfl) hf
  · have hf := it_neg z hf
    refine lv_iload_n hx hb dX10_readSign_6 rfl (lv_at hl 1 rfl) ?_
    refine lv_bipush (v := (47 : Int32)) hx hb dX10_readSign_7 (by decide) ?_
    refine lv_icmp_eq (tgt := 24) hx hb dX10_readSign_9 (by decide) (fun z => ?_) (fun z => ?_)
    · have hf := it_pos z hf
      exact wL24 a1 u H locs ls hw (lv_sub hl [0, 1] rfl) hf
    · have hf := it_neg z hf
      refine lv_iload_n hx hb dX10_readSign_12 rfl (lv_at hl 1 rfl) ?_
      refine lv_bipush (v := (43 : Int32)) hx hb dX10_readSign_13 (by decide) ?_
      refine lv_icmp_eq (tgt := 24) hx hb dX10_readSign_15 (by decide) (fun z => ?_) (fun z => ?_)
      · have hf := it_pos z hf
        exact wL24 a1 u H locs ls hw (lv_sub hl [0, 1] rfl) hf
      · have hf := it_neg z hf
        refine lv_iload_n hx hb dX10_readSign_18 rfl (lv_at hl 1 rfl) ?_
        refine lv_bipush (v := (45 : Int32)) hx hb dX10_readSign_19 (by decide) ?_
        refine lv_icmp_ne (tgt := 77) hx hb dX10_readSign_21 (by decide) (fun z => ?_) (fun z => ?_)
        · have hf := it_neg z hf
          refine lv_iload_n hx hb dX10_readSign_77 rfl (lv_at hl 1 rfl) ?_
          refine lv_bipush (v := (44 : Int32)) hx hb dX10_readSign_78 (by decide) ?_
          refine lv_icmp_ne (tgt := 159) hx hb dX10_readSign_80 (by decide) (fun z => ?_) (fun z => ?_)
          · have hf := it_neg z hf
            refine lv_iload_n hx hb dX10_readSign_159 rfl (lv_at hl 1 rfl) ?_
            refine lv_bipush (v := (41 : Int32)) hx hb dX10_readSign_160 (by decide) ?_
            refine lv_icmp_ne (tgt := 261) hx hb dX10_readSign_162 (by decide) (fun z => ?_) (fun z => ?_)
            · have hf := it_neg z hf
              refine lv_aload_n hx hb dX10_readSign_261 rfl (lv_at hl 0 rfl) ?_
              refine lv_iconst (v := (1 : Int32)) hx hb dX10_readSign_262 (by decide) ?_
              refine pM0_31 hc hw fl_X10_255 nz1 fz1 dX10_readSign_263 (fun H locs hw => ?_)
              obtain ⟨u6, eu6, hf⟩ := lt_some hf
              have hw := VW.nm eu6 hw
              refine lv_iconst (v := (0 : Int32)) hx hb dX10_readSign_266 (by decide) ?_
              exact retZ hc hr hlk hw nz0 hf dX10_readSign_267
            · have hf := it_pos z hf
              refine lv_aload_n hx hb dX10_readSign_165 rfl (lv_at hl 0 rfl) ?_
              refine lv_iconst (v := (1 : Int32)) hx hb dX10_readSign_166 (by decide) ?_
              obtain ⟨u8, h7, hf⟩ := ov_some hf
              refine endV okM hw (runV_ok (As := [.int (1 : Int32)]) (rest := []) okM hc hw (c_X10_settle l ev (1 : Int32) u h7 H.size) kv_X10_settle ml_X10_282 (rvM0 ev u) hl.1 rfl rfl (Nat.le_of_ble_eq_true rfl) (rm_le (by decide) (by decide)) dX10_readSign_167) (fun H locs hw => ?_)
              refine lv_aload_n hx hb dX10_readSign_170 rfl (lv_at hl 0 rfl) ?_
              obtain ⟨r11, u10, h9, hf⟩ := ob_some hf
              refine endI okM hw (runV_ok (As := []) (rest := []) okM hc hw (c_X10_topSign l ev u8 h9 H.size) kv_X10_topSign ml_X10_241 (rvM0 ev u8) hl.1 rfl rfl (Nat.le_of_ble_eq_true rfl) (rm_le (by decide) (by decide)) dX10_readSign_171) (fun H locs hw => ?_)
              refine lv_istore_n (lv' := [(2, .int r11), (0, .ref (ev.2.1 0)), (1, .int a1)]) hx hb dX10_readSign_174 rfl hl (by decide) rfl (fun ls hl => ?_)
              refine lv_aload_n hx hb dX10_readSign_175 rfl (lv_at hl 1 rfl) ?_
              refine lv_iload_n hx hb dX10_readSign_176 rfl (lv_at hl 0 rfl) ?_
              refine lv_bipush (v := (40 : Int32)) hx hb dX10_readSign_177 (by decide) ?_
              refine lv_icmp_eq (tgt := 196) hx hb dX10_readSign_179 (by decide) (fun z => ?_) (fun z => ?_)
              · have hf := it_pos z hf
                exact wL196 r11 u10 H locs ls hw (lv_sub hl [1, 0] rfl) hf
              · have hf := it_neg z hf
                refine lv_iload_n hx hb dX10_readSign_182 rfl (lv_at hl 0 rfl) ?_
                refine lv_iconst (v := (1 : Int32)) hx hb dX10_readSign_183 (by decide) ?_
                refine lv_icmp_eq (tgt := 196) hx hb dX10_readSign_184 (by decide) (fun z => ?_) (fun z => ?_)
                · have hf := it_pos z hf
                  exact wL196 r11 u10 H locs ls hw (lv_sub hl [1, 0] rfl) hf
                · have hf := it_neg z hf
                  refine lv_iload_n hx hb dX10_readSign_187 rfl (lv_at hl 0 rfl) ?_
                  refine lv_iconst (v := (2 : Int32)) hx hb dX10_readSign_188 (by decide) ?_
                  refine lv_icmp_eq (tgt := 196) hx hb dX10_readSign_189 (by decide) (fun z => ?_) (fun z => ?_)
                  · have hf := it_pos z hf
                    exact wL196 r11 u10 H locs ls hw (lv_sub hl [1, 0] rfl) hf
                  · have hf := it_neg z hf
                    refine lv_iconst (v := (1 : Int32)) hx hb dX10_readSign_192 (by decide) ?_
                    refine lv_goto (tgt := 197) hx hb dX10_readSign_193 (by decide) ?_
                    exact wL197 r11 (1 : Int32) u10 H locs ls hw (lv_sub hl [1, 0] rfl) hf
          · have hf := it_pos z hf
            refine lv_aload_n hx hb dX10_readSign_83 rfl (lv_at hl 0 rfl) ?_
            refine lv_iconst (v := (1 : Int32)) hx hb dX10_readSign_84 (by decide) ?_
            obtain ⟨u19, h18, hf⟩ := ov_some hf
            refine endV okM hw (runV_ok (As := [.int (1 : Int32)]) (rest := []) okM hc hw (c_X10_settle l ev (1 : Int32) u h18 H.size) kv_X10_settle ml_X10_282 (rvM0 ev u) hl.1 rfl rfl (Nat.le_of_ble_eq_true rfl) (rm_le (by decide) (by decide)) dX10_readSign_85) (fun H locs hw => ?_)
            refine lv_aload_n hx hb dX10_readSign_88 rfl (lv_at hl 0 rfl) ?_
            refine lv_aload_n hx hb dX10_readSign_89 rfl (lv_at hl 0 rfl) ?_
            obtain ⟨r22, u21, h20, hf⟩ := ob_some hf
            refine endI okM hw (runV_ok (As := []) (rest := [.ref (ev.2.1 0)]) okM hc hw (c_X10_topSign l ev u19 h20 H.size) kv_X10_topSign ml_X10_241 (rvM0 ev u19) hl.1 rfl rfl (Nat.le_of_ble_eq_true rfl) (rm_le (by decide) (by decide)) dX10_readSign_90) (fun H locs hw => ?_)
            refine lv_bipush (v := (60 : Int32)) hx hb dX10_readSign_93 (by decide) ?_
            refine lv_icmp_eq (tgt := 111) hx hb dX10_readSign_95 (by decide) (fun z => ?_) (fun z => ?_)
            · have hf := it_pos z hf
              exact wL111 u21 H locs ls hw (lv_sub hl [0] rfl) hf
            · have hf := it_neg z hf
              refine lv_aload_n hx hb dX10_readSign_98 rfl (lv_at hl 0 rfl) ?_
              obtain ⟨r31, u30, h29, hf⟩ := ob_some hf
              refine endI okM hw (runV_ok (As := []) (rest := [.ref (ev.2.1 0)]) okM hc hw (c_X10_topSign l ev u21 h29 H.size) kv_X10_topSign ml_X10_241 (rvM0 ev u21) hl.1 rfl rfl (Nat.le_of_ble_eq_true rfl) (rm_le (by decide) (by decide)) dX10_readSign_99) (fun H locs hw => ?_)
              refine lv_bipush (v := (62 : Int32)) hx hb dX10_readSign_102 (by decide) ?_
              refine lv_icmp_eq (tgt := 111) hx hb dX10_readSign_104 (by decide) (fun z => ?_) (fun z => ?_)
              · have hf := it_pos z hf
                exact wL111 u30 H locs ls hw (lv_sub hl [0] rfl) hf
              · have hf := it_neg z hf
                refine lv_iconst (v := (1 : Int32)) hx hb dX10_readSign_107 (by decide) ?_
                refine lv_goto (tgt := 112) hx hb dX10_readSign_108 (by decide) ?_
                exact wL112 (1 : Int32) u30 H locs ls hw (lv_sub hl [0] rfl) hf
        · have hf := it_pos z hf
          exact wL24 a1 u H locs ls hw (lv_sub hl [0, 1] rfl) hf
def f_X10_byteAt_13 (a1 : Int32) (a2 : Int32) (u : SS) : Option (Int32 × SS) :=
  if a1 ≤ a2 then (some ((-1 : Int32), u)) else (oi a2 80 (some ((gA u 12 a2.toNatClampNeg), u)))
set_option maxHeartbeats 4000000 in
set_option maxRecDepth 100000 in
theorem c_X10_byteAt_13 (l : Launch) (ev : EV) (a1 : Int32) (a2 : Int32) (u : SS) {r : Int32} {u' : SS} (hf : f_X10_byteAt_13 a1 a2 u = some (r, u')) : MI wdM l yX10_byteAt cX10_byteAt 3 (some .int) 0 ev [.ref (ev.2.1 13), .int a1, .int a2] u r u' := by
  refine bodyI (by decide +kernel) rfl (Nat.le_of_ble_eq_true rfl) ?_
  intro p e s m below meth cd ls H locs hc hr hlk hw hl
  generalize hav : (List.toArray [.ref (ev.2.1 13), .int a1, .int a2] : Array Value) = av at hc ⊢
  obtain ⟨hx, hb, hml, hown, hts, hK, hZ⟩ := id hc
  have hl : lv_has ls 3 [(0, .ref (ev.2.1 13)), (1, .int a1), (2, .int a2)] := hl
  unfold f_X10_byteAt_13 at hf
  refine lv_iload_n hx hb dX10_byteAt_0 rfl (lv_at hl 2 rfl) ?_
  refine lv_iload_n hx hb dX10_byteAt_1 rfl (lv_at hl 1 rfl) ?_
  refine lv_icmp_ge (tgt := 11) hx hb dX10_byteAt_2 (by decide) (fun z => ?_) (fun z => ?_)
  · have hf := it_pos z hf
    refine lv_iconst (v := (-1 : Int32)) hx hb dX10_byteAt_11 (by decide) ?_
    exact retI hc hr hlk hw hf dX10_byteAt_12
  · have hf := it_neg z hf
    refine lv_aload_n hx hb dX10_byteAt_5 rfl (lv_at hl 0 rfl) ?_
    refine lv_iload_n hx hb dX10_byteAt_6 rfl (lv_at hl 2 rfl) ?_
    obtain ⟨z, hf⟩ := oi_some hf
    refine aM13 hc hw z dX10_byteAt_7 ?_
    refine lv_goto (tgt := 12) hx hb dX10_byteAt_8 (by decide) ?_
    exact retI hc hr hlk hw hf dX10_byteAt_12
def f_X10_readUnit_13_L22 (b2 : Int32) (b3 : Int32) (u : SS) : Option (Int32 × SS) :=
  lt (sI u 11 ((gI u 11) + (1 : Int32))) fun u4 => ob (f_X10_byteAt_13 b2 (gI u4 11) u4) fun r7 u6 => if r7 = (40 : Int32) then (ov (f_X10_open b3 u6) fun u10 => some ((1 : Int32), u10)) else (lt (sI u6 12 (1 : Int32)) fun u8 => some ((1 : Int32), u8))
def f_X10_readUnit_13_L197 (b4 : Int64) (u : SS) : Option (Int32 × SS) :=
  ov (f_X10_push b4 (1 : Int64) u) fun u18 => some ((0 : Int32), u18)
def b_X10_readUnit_13_L136 (k136 : Int32 → Int64 → Int32 → SS → Option (Int32 × SS)) (b2 : Int32) (b4 : Int64) (b6 : Int32) (u : SS) : Option (Int32 × SS) :=
  if (6 : Int32) ≤ b6 then (f_X10_readUnit_13_L197 b4 u) else (ob (f_X10_byteAt_13 b2 (gI u 11) u) fun r21 u20 => ob (f_X10_isDigit r21 u20) fun r24 u23 => if r24 = 0 then (f_X10_readUnit_13_L197 b4 u23) else (ob (f_X10_byteAt_13 b2 (gI u23 11) u23) fun r27 u26 => lt ((((10 : Int64) * b4) + (r27.toInt64)) - (48 : Int64)) fun x28 => lt (sI u26 11 ((gI u26 11) + (1 : Int32))) fun u29 => lt (b6 + (1 : Int32)) fun x30 => k136 b2 x28 x30 u29))
def f_X10_readUnit_13_L136 : Nat → Int32 → Int64 → Int32 → SS → Option (Int32 × SS)
  | 0 => fun _ _ _ _ => none
  | n + 1 => b_X10_readUnit_13_L136 (f_X10_readUnit_13_L136 n)
def f_X10_readUnit_13 (a2 : Int32) (u : SS) : Option (Int32 × SS) :=
  ob (f_X10_byteAt_13 a2 (gI u 11) u) fun r3 u2 => if r3 = (60 : Int32) then (f_X10_readUnit_13_L22 a2 r3 u2) else (if r3 = (62 : Int32) then (f_X10_readUnit_13_L22 a2 r3 u2) else (if r3 = (40 : Int32) then (ov (f_X10_open (40 : Int32) u2) fun u42 => some ((1 : Int32), u42)) else (ob (f_X10_nameOf r3 u2) fun r13 u12 => if r13 < 0 then (ob (f_X10_isDigit r3 u12) fun r16 u15 => if r16 = 0 then (lt (sI u15 12 (1 : Int32)) fun u31 => some ((1 : Int32), u31)) else (f_X10_readUnit_13_L136 FU a2 (0 : Int64) (0 : Int32) u15)) else (ob (f_X10_nameOf r3 u12) fun r34 u33 => oi r34 7 (ob (f_X10_nameOf r3 u33) fun r37 u36 => oi r37 7 (ov (f_X10_push (gL u33 0 r34.toNatClampNeg) (gL u36 1 r37.toNatClampNeg) u36) fun u39 => lt (sI u39 11 ((gI u39 11) + (1 : Int32))) fun u40 => some ((0 : Int32), u40)))))))
set_option maxHeartbeats 4000000 in
set_option maxRecDepth 100000 in
theorem c_X10_readUnit_13 (l : Launch) (ev : EV) (a2 : Int32) (u : SS) {r : Int32} {u' : SS} (hf : f_X10_readUnit_13 a2 u = some (r, u')) : MI wdM l yX10_readUnit cX10_readUnit 7 (some .boolean) 2 ev [.ref (ev.2.1 0), .ref (ev.2.1 13), .int a2] u r u' := by
  refine bodyI (by decide +kernel) rfl (Nat.le_of_ble_eq_true rfl) ?_
  intro p e s m below meth cd ls H locs hc hr hlk hw hl
  generalize hav : (List.toArray [.ref (ev.2.1 0), .ref (ev.2.1 13), .int a2] : Array Value) = av at hc ⊢
  obtain ⟨hx, hb, hml, hown, hts, hK, hZ⟩ := id hc
  have hl : lv_has ls 7 [(0, .ref (ev.2.1 0)), (1, .ref (ev.2.1 13)), (2, .int a2)] := hl
  have wL22 : ∀ (b2 : Int32) (b3 : Int32) (u : SS) (H : Heap) (locs : List Loc) (ls : Array Slot), VW wdM ev s u H locs → lv_has ls 7 [(0, .ref (ev.2.1 0)), (1, .ref (ev.2.1 13)), (2, .int b2), (3, .int b3)] → f_X10_readUnit_13_L22 b2 b3 u = some (r, u') → W p l e (rmk 2) s m av below meth cd H locs 0 0 (ZI wdM ev s below av r u') (F0 m 22 ls []) := by
    intro b2 b3 u H locs ls hw hl hf
    unfold f_X10_readUnit_13_L22 at hf
    refine lv_aload_n hx hb dX10_readUnit_22 rfl (lv_at hl 0 rfl) ?_
    refine lv_dup hx hb dX10_readUnit_23 rfl ?_
    refine gM0_30 hc hw fl_X10_258 dX10_readUnit_24 ?_
    refine lv_iconst (v := (1 : Int32)) hx hb dX10_readUnit_27 (by decide) ?_
    refine lv_iadd hx hb dX10_readUnit_28 ?_
    refine pM0_30 hc hw fl_X10_258 dX10_readUnit_29 (fun H locs hw => ?_)
    obtain ⟨u4, eu4, hf⟩ := lt_some hf
    have hw := VW.nm eu4 hw
    refine lv_aload_n hx hb dX10_readUnit_32 rfl (lv_at hl 1 rfl) ?_
    refine lv_iload_n hx hb dX10_readUnit_33 rfl (lv_at hl 2 rfl) ?_
    refine lv_aload_n hx hb dX10_readUnit_34 rfl (lv_at hl 0 rfl) ?_
    refine gM0_30 hc hw fl_X10_258 dX10_readUnit_35 ?_
    obtain ⟨r7, u6, h5, hf⟩ := ob_some hf
    refine endI okM hw (runS_ok (As := [.ref (ev.2.1 13), .int b2, .int (gI u4 11)]) (rest := []) okM hc hw (c_X10_byteAt_13 l ev b2 (gI u4 11) u4 h5 H.size) ks_X10_byteAt ml_X10_261 hl.1 rfl rfl (Nat.le_of_ble_eq_true rfl) (rm_le (by decide) (by decide)) dX10_readUnit_38) (fun H locs hw => ?_)
    refine lv_bipush (v := (40 : Int32)) hx hb dX10_readUnit_41 (by decide) ?_
    refine lv_icmp_ne (tgt := 54) hx hb dX10_readUnit_43 (by decide) (fun z => ?_) (fun z => ?_)
    · have hf := it_neg z hf
      refine lv_aload_n hx hb dX10_readUnit_54 rfl (lv_at hl 0 rfl) ?_
      refine lv_iconst (v := (1 : Int32)) hx hb dX10_readUnit_55 (by decide) ?_
      refine pM0_31 hc hw fl_X10_255 nz1 fz1 dX10_readUnit_56 (fun H locs hw => ?_)
      obtain ⟨u8, eu8, hf⟩ := lt_some hf
      have hw := VW.nm eu8 hw
      refine lv_iconst (v := (1 : Int32)) hx hb dX10_readUnit_59 (by decide) ?_
      exact retZ hc hr hlk hw nz1 hf dX10_readUnit_60
    · have hf := it_pos z hf
      refine lv_aload_n hx hb dX10_readUnit_46 rfl (lv_at hl 0 rfl) ?_
      refine lv_iload_n hx hb dX10_readUnit_47 rfl (lv_at hl 3 rfl) ?_
      obtain ⟨u10, h9, hf⟩ := ov_some hf
      refine endV okM hw (runV_ok (As := [.int b3]) (rest := []) okM hc hw (c_X10_open l ev b3 u6 h9 H.size) kv_X10_open ml_X10_265 (rvM0 ev u6) hl.1 rfl rfl (Nat.le_of_ble_eq_true rfl) (rm_le (by decide) (by decide)) dX10_readUnit_48) (fun H locs hw => ?_)
      refine lv_goto (tgt := 59) hx hb dX10_readUnit_51 (by decide) ?_
      refine lv_iconst (v := (1 : Int32)) hx hb dX10_readUnit_59 (by decide) ?_
      exact retZ hc hr hlk hw nz1 hf dX10_readUnit_60
  have wL197 : ∀ (b4 : Int64) (u : SS) (H : Heap) (locs : List Loc) (ls : Array Slot), VW wdM ev s u H locs → lv_has ls 7 [(0, .ref (ev.2.1 0)), (4, .long b4)] → f_X10_readUnit_13_L197 b4 u = some (r, u') → W p l e (rmk 2) s m av below meth cd H locs 0 0 (ZI wdM ev s below av r u') (F0 m 197 ls []) := by
    intro b4 u H locs ls hw hl hf
    unfold f_X10_readUnit_13_L197 at hf
    refine lv_aload_n hx hb dX10_readUnit_197 rfl (lv_at hl 0 rfl) ?_
    refine lv_lload hx hb dX10_readUnit_198 (lv_at hl 1 rfl) ?_
    refine lv_lconst (v := (1 : Int64)) hx hb dX10_readUnit_200 (by decide) ?_
    obtain ⟨u18, h17, hf⟩ := ov_some hf
    refine endV okM hw (runV_ok (As := [.long b4, .long (1 : Int64)]) (rest := []) okM hc hw (c_X10_push l ev b4 (1 : Int64) u h17 H.size) kv_X10_push ml_X10_271 (rvM0 ev u) hl.1 rfl rfl (Nat.le_of_ble_eq_true rfl) (rm_le (by decide) (by decide)) dX10_readUnit_201) (fun H locs hw => ?_)
    refine lv_iconst (v := (0 : Int32)) hx hb dX10_readUnit_204 (by decide) ?_
    exact retZ hc hr hlk hw nz0 hf dX10_readUnit_205
  have wL136 : ∀ (n : Nat) (b2 : Int32) (b4 : Int64) (b6 : Int32) (u : SS) (H : Heap) (locs : List Loc) (ls : Array Slot), VW wdM ev s u H locs → lv_has ls 7 [(0, .ref (ev.2.1 0)), (1, .ref (ev.2.1 13)), (2, .int b2), (4, .long b4), (6, .int b6)] → f_X10_readUnit_13_L136 n b2 b4 b6 u = some (r, u') → W p l e (rmk 2) s m av below meth cd H locs 0 0 (ZI wdM ev s below av r u') (F0 m 136 ls []) := by
    intro n
    induction n with
    | zero =>
      intro b2 b4 b6 u H locs ls hw hl hf
      cases hf
    | succ n hk136 =>
      intro b2 b4 b6 u H locs ls hw hl hf
      have hf : b_X10_readUnit_13_L136 (f_X10_readUnit_13_L136 n) b2 b4 b6 u = some (r, u') := hf
      unfold b_X10_readUnit_13_L136 at hf
      refine lv_iload hx hb dX10_readUnit_136 (lv_at hl 4 rfl) ?_
      refine lv_bipush (v := (6 : Int32)) hx hb dX10_readUnit_138 (by decide) ?_
      refine lv_icmp_ge (tgt := 197) hx hb dX10_readUnit_140 (by decide) (fun z => ?_) (fun z => ?_)
      · have hf := it_pos z hf
        exact wL197 b4 u H locs ls hw (lv_sub hl [0, 3] rfl) hf
      · have hf := it_neg z hf
        refine lv_aload_n hx hb dX10_readUnit_143 rfl (lv_at hl 1 rfl) ?_
        refine lv_iload_n hx hb dX10_readUnit_144 rfl (lv_at hl 2 rfl) ?_
        refine lv_aload_n hx hb dX10_readUnit_145 rfl (lv_at hl 0 rfl) ?_
        refine gM0_30 hc hw fl_X10_258 dX10_readUnit_146 ?_
        obtain ⟨r21, u20, h19, hf⟩ := ob_some hf
        refine endI okM hw (runS_ok (As := [.ref (ev.2.1 13), .int b2, .int (gI u 11)]) (rest := []) okM hc hw (c_X10_byteAt_13 l ev b2 (gI u 11) u h19 H.size) ks_X10_byteAt ml_X10_261 hl.1 rfl rfl (Nat.le_of_ble_eq_true rfl) (rm_le (by decide) (by decide)) dX10_readUnit_149) (fun H locs hw => ?_)
        obtain ⟨r24, u23, h22, hf⟩ := ob_some hf
        refine endI okM hw (runS_ok (As := [.int r21]) (rest := []) okM hc hw (c_X10_isDigit l ev r21 u20 h22 H.size) ks_X10_isDigit ml_X10_275 hl.1 rfl rfl (Nat.le_of_ble_eq_true rfl) (rm_le (by decide) (by decide)) dX10_readUnit_152) (fun H locs hw => ?_)
        refine lv_if_eq (tgt := 197) hx hb dX10_readUnit_155 (by decide) (fun z => ?_) (fun z => ?_)
        · have hf := it_pos z hf
          exact wL197 b4 u23 H locs ls hw (lv_sub hl [0, 3] rfl) hf
        · have hf := it_neg z hf
          refine lv_ldc2 (v := (10 : Int64)) hx hb hown (hts _ ct_X10_278) dX10_readUnit_158 ?_
          refine lv_lload hx hb dX10_readUnit_161 (lv_at hl 3 rfl) ?_
          refine lv_lmul hx hb dX10_readUnit_163 ?_
          refine lv_aload_n hx hb dX10_readUnit_164 rfl (lv_at hl 1 rfl) ?_
          refine lv_iload_n hx hb dX10_readUnit_165 rfl (lv_at hl 2 rfl) ?_
          refine lv_aload_n hx hb dX10_readUnit_166 rfl (lv_at hl 0 rfl) ?_
          refine gM0_30 hc hw fl_X10_258 dX10_readUnit_167 ?_
          obtain ⟨r27, u26, h25, hf⟩ := ob_some hf
          refine endI okM hw (runS_ok (As := [.ref (ev.2.1 13), .int b2, .int (gI u23 11)]) (rest := [.long ((10 : Int64) * b4)]) okM hc hw (c_X10_byteAt_13 l ev b2 (gI u23 11) u23 h25 H.size) ks_X10_byteAt ml_X10_261 hl.1 rfl rfl (Nat.le_of_ble_eq_true rfl) (rm_le (by decide) (by decide)) dX10_readUnit_170) (fun H locs hw => ?_)
          refine lv_i2l (v := r27.toInt64) hx hb dX10_readUnit_173 rfl ?_
          refine lv_ladd hx hb dX10_readUnit_174 ?_
          refine lv_ldc2 (v := (48 : Int64)) hx hb hown (hts _ ct_X10_280) dX10_readUnit_175 ?_
          refine lv_lsub hx hb dX10_readUnit_178 ?_
          obtain ⟨x28, ex28, hf⟩ := lt_some hf
          refine topel ex28 ?_
          refine lv_lstore (lv' := [(4, .long x28), (0, .ref (ev.2.1 0)), (1, .ref (ev.2.1 13)), (2, .int b2), (6, .int b6)]) hx hb dX10_readUnit_179 hl (by decide) rfl (fun ls hl => ?_)
          refine lv_aload_n hx hb dX10_readUnit_181 rfl (lv_at hl 1 rfl) ?_
          refine lv_dup hx hb dX10_readUnit_182 rfl ?_
          refine gM0_30 hc hw fl_X10_258 dX10_readUnit_183 ?_
          refine lv_iconst (v := (1 : Int32)) hx hb dX10_readUnit_186 (by decide) ?_
          refine lv_iadd hx hb dX10_readUnit_187 ?_
          refine pM0_30 hc hw fl_X10_258 dX10_readUnit_188 (fun H locs hw => ?_)
          obtain ⟨u29, eu29, hf⟩ := lt_some hf
          have hw := VW.nm eu29 hw
          obtain ⟨x30, ex30, hf⟩ := lt_some hf
          refine lv_iinc (v := x30) (lv' := [(6, .int x30), (4, .long x28), (0, .ref (ev.2.1 0)), (1, .ref (ev.2.1 13)), (2, .int b2)]) hx hb dX10_readUnit_191 hl (k := 4) rfl (by rw [ex30]; rfl) (by decide) rfl (fun ls hl => ?_)
          refine lv_goto (tgt := 136) hx hb dX10_readUnit_194 (by decide) ?_
          exact hk136 b2 x28 x30 u29 H locs ls hw (lv_sub hl [2, 3, 4, 1, 0] rfl) hf
  unfold f_X10_readUnit_13 at hf
  refine lv_aload_n hx hb dX10_readUnit_0 rfl (lv_at hl 1 rfl) ?_
  refine lv_iload_n hx hb dX10_readUnit_1 rfl (lv_at hl 2 rfl) ?_
  refine lv_aload_n hx hb dX10_readUnit_2 rfl (lv_at hl 0 rfl) ?_
  refine gM0_30 hc hw fl_X10_258 dX10_readUnit_3 ?_
  obtain ⟨r3, u2, h1, hf⟩ := ob_some hf
  refine endI okM hw (runS_ok (As := [.ref (ev.2.1 13), .int a2, .int (gI u 11)]) (rest := []) okM hc hw (c_X10_byteAt_13 l ev a2 (gI u 11) u h1 H.size) ks_X10_byteAt ml_X10_261 hl.1 rfl rfl (Nat.le_of_ble_eq_true rfl) (rm_le (by decide) (by decide)) dX10_readUnit_6) (fun H locs hw => ?_)
  refine lv_istore_n (lv' := [(3, .int r3), (0, .ref (ev.2.1 0)), (1, .ref (ev.2.1 13)), (2, .int a2)]) hx hb dX10_readUnit_9 rfl hl (by decide) rfl (fun ls hl => ?_)
  refine lv_iload_n hx hb dX10_readUnit_10 rfl (lv_at hl 0 rfl) ?_
  refine lv_bipush (v := (60 : Int32)) hx hb dX10_readUnit_11 (by decide) ?_
  refine lv_icmp_eq (tgt := 22) hx hb dX10_readUnit_13 (by decide) (fun z => ?_) (fun z => ?_)
  · have hf := it_pos z hf
    exact wL22 a2 r3 u2 H locs ls hw (lv_sub hl [1, 2, 3, 0] rfl) hf
  · have hf := it_neg z hf
    refine lv_iload_n hx hb dX10_readUnit_16 rfl (lv_at hl 0 rfl) ?_
    refine lv_bipush (v := (62 : Int32)) hx hb dX10_readUnit_17 (by decide) ?_
    refine lv_icmp_ne (tgt := 61) hx hb dX10_readUnit_19 (by decide) (fun z => ?_) (fun z => ?_)
    · have hf := it_neg z hf
      refine lv_iload_n hx hb dX10_readUnit_61 rfl (lv_at hl 0 rfl) ?_
      refine lv_bipush (v := (40 : Int32)) hx hb dX10_readUnit_62 (by decide) ?_
      refine lv_icmp_ne (tgt := 75) hx hb dX10_readUnit_64 (by decide) (fun z => ?_) (fun z => ?_)
      · have hf := it_neg z hf
        refine lv_iload_n hx hb dX10_readUnit_75 rfl (lv_at hl 0 rfl) ?_
        obtain ⟨r13, u12, h11, hf⟩ := ob_some hf
        refine endI okM hw (runS_ok (As := [.int r3]) (rest := []) okM hc hw (c_X10_nameOf l ev r3 u2 h11 H.size) ks_X10_nameOf ml_X10_268 hl.1 rfl rfl (Nat.le_of_ble_eq_true rfl) (rm_le (by decide) (by decide)) dX10_readUnit_76) (fun H locs hw => ?_)
        refine lv_if_lt (tgt := 116) hx hb dX10_readUnit_79 (by decide) (fun z => ?_) (fun z => ?_)
        · have hf := it_pos z hf
          refine lv_iload_n hx hb dX10_readUnit_116 rfl (lv_at hl 0 rfl) ?_
          obtain ⟨r16, u15, h14, hf⟩ := ob_some hf
          refine endI okM hw (runS_ok (As := [.int r3]) (rest := []) okM hc hw (c_X10_isDigit l ev r3 u12 h14 H.size) ks_X10_isDigit ml_X10_275 hl.1 rfl rfl (Nat.le_of_ble_eq_true rfl) (rm_le (by decide) (by decide)) dX10_readUnit_117) (fun H locs hw => ?_)
          refine lv_if_ne (tgt := 130) hx hb dX10_readUnit_120 (by decide) (fun z => ?_) (fun z => ?_)
          · have hf := it_neg z hf
            refine lv_lconst (v := (0 : Int64)) hx hb dX10_readUnit_130 (by decide) ?_
            refine lv_lstore (lv' := [(4, .long (0 : Int64)), (3, .int r3), (0, .ref (ev.2.1 0)), (1, .ref (ev.2.1 13)), (2, .int a2)]) hx hb dX10_readUnit_131 hl (by decide) rfl (fun ls hl => ?_)
            refine lv_iconst (v := (0 : Int32)) hx hb dX10_readUnit_133 (by decide) ?_
            refine lv_istore (lv' := [(6, .int (0 : Int32)), (4, .long (0 : Int64)), (3, .int r3), (0, .ref (ev.2.1 0)), (1, .ref (ev.2.1 13)), (2, .int a2)]) hx hb dX10_readUnit_134 hl (by decide) rfl (fun ls hl => ?_)
            exact wL136 FU a2 (0 : Int64) (0 : Int32) u15 H locs ls hw (lv_sub hl [3, 4, 5, 1, 0] rfl) hf
          · have hf := it_pos z hf
            refine lv_aload_n hx hb dX10_readUnit_123 rfl (lv_at hl 1 rfl) ?_
            refine lv_iconst (v := (1 : Int32)) hx hb dX10_readUnit_124 (by decide) ?_
            refine pM0_31 hc hw fl_X10_255 nz1 fz1 dX10_readUnit_125 (fun H locs hw => ?_)
            obtain ⟨u31, eu31, hf⟩ := lt_some hf
            have hw := VW.nm eu31 hw
            refine lv_iconst (v := (1 : Int32)) hx hb dX10_readUnit_128 (by decide) ?_
            exact retZ hc hr hlk hw nz1 hf dX10_readUnit_129
        · have hf := it_neg z hf
          refine lv_aload_n hx hb dX10_readUnit_82 rfl (lv_at hl 1 rfl) ?_
          refine lv_aload_n hx hb dX10_readUnit_83 rfl (lv_at hl 1 rfl) ?_
          refine gM0_22 hc hw fl_X10_60 dX10_readUnit_84 ?_
          refine lv_iload_n hx hb dX10_readUnit_87 rfl (lv_at hl 0 rfl) ?_
          obtain ⟨r34, u33, h32, hf⟩ := ob_some hf
          refine endI okM hw (runS_ok (As := [.int r3]) (rest := [.ref (ev.2.1 15), .ref (ev.2.1 0)]) okM hc hw (c_X10_nameOf l ev r3 u12 h32 H.size) ks_X10_nameOf ml_X10_268 hl.1 rfl rfl (Nat.le_of_ble_eq_true rfl) (rm_le (by decide) (by decide)) dX10_readUnit_88) (fun H locs hw => ?_)
          obtain ⟨z, hf⟩ := oi_some hf
          refine aM15 hc hw z dX10_readUnit_91 ?_
          refine lv_aload_n hx hb dX10_readUnit_92 rfl (lv_at hl 1 rfl) ?_
          refine gM0_23 hc hw fl_X10_64 dX10_readUnit_93 ?_
          refine lv_iload_n hx hb dX10_readUnit_96 rfl (lv_at hl 0 rfl) ?_
          obtain ⟨r37, u36, h35, hf⟩ := ob_some hf
          refine endI okM hw (runS_ok (As := [.int r3]) (rest := [.ref (ev.2.1 16), .long (gL u33 0 r34.toNatClampNeg), .ref (ev.2.1 0)]) okM hc hw (c_X10_nameOf l ev r3 u33 h35 H.size) ks_X10_nameOf ml_X10_268 hl.1 rfl rfl (Nat.le_of_ble_eq_true rfl) (rm_le (by decide) (by decide)) dX10_readUnit_97) (fun H locs hw => ?_)
          obtain ⟨z, hf⟩ := oi_some hf
          refine aM16 hc hw z dX10_readUnit_100 ?_
          obtain ⟨u39, h38, hf⟩ := ov_some hf
          refine endV okM hw (runV_ok (As := [.long (gL u33 0 r34.toNatClampNeg), .long (gL u36 1 r37.toNatClampNeg)]) (rest := []) okM hc hw (c_X10_push l ev (gL u33 0 r34.toNatClampNeg) (gL u36 1 r37.toNatClampNeg) u36 h38 H.size) kv_X10_push ml_X10_271 (rvM0 ev u36) hl.1 rfl rfl (Nat.le_of_ble_eq_true rfl) (rm_le (by decide) (by decide)) dX10_readUnit_101) (fun H locs hw => ?_)
          refine lv_aload_n hx hb dX10_readUnit_104 rfl (lv_at hl 1 rfl) ?_
          refine lv_dup hx hb dX10_readUnit_105 rfl ?_
          refine gM0_30 hc hw fl_X10_258 dX10_readUnit_106 ?_
          refine lv_iconst (v := (1 : Int32)) hx hb dX10_readUnit_109 (by decide) ?_
          refine lv_iadd hx hb dX10_readUnit_110 ?_
          refine pM0_30 hc hw fl_X10_258 dX10_readUnit_111 (fun H locs hw => ?_)
          obtain ⟨u40, eu40, hf⟩ := lt_some hf
          have hw := VW.nm eu40 hw
          refine lv_iconst (v := (0 : Int32)) hx hb dX10_readUnit_114 (by decide) ?_
          exact retZ hc hr hlk hw nz0 hf dX10_readUnit_115
      · have hf := it_pos z hf
        refine lv_aload_n hx hb dX10_readUnit_67 rfl (lv_at hl 1 rfl) ?_
        refine lv_bipush (v := (40 : Int32)) hx hb dX10_readUnit_68 (by decide) ?_
        obtain ⟨u42, h41, hf⟩ := ov_some hf
        refine endV okM hw (runV_ok (As := [.int (40 : Int32)]) (rest := []) okM hc hw (c_X10_open l ev (40 : Int32) u2 h41 H.size) kv_X10_open ml_X10_265 (rvM0 ev u2) hl.1 rfl rfl (Nat.le_of_ble_eq_true rfl) (rm_le (by decide) (by decide)) dX10_readUnit_70) (fun H locs hw => ?_)
        refine lv_iconst (v := (1 : Int32)) hx hb dX10_readUnit_73 (by decide) ?_
        exact retZ hc hr hlk hw nz1 hf dX10_readUnit_74
    · have hf := it_pos z hf
      exact wL22 a2 r3 u2 H locs ls hw (lv_sub hl [1, 2, 3, 0] rfl) hf
def f_X10_workText_13_L83 (u : SS) : Option SS :=
  if (gI u 12) = 0 then (ov (f_X10_settle (1 : Int32) u) fun u9 => if (gI u9 9) ≤ 0 then (lt (sI u9 12 (0 : Int32)) fun u10 => some u10) else (lt (sI u9 12 (1 : Int32)) fun u11 => some u11)) else (some u)
def f_X10_workText_13_L79 (k37 : Int32 → Int32 → SS → Option SS) (b2 : Int32) (q0 : Int32) (u : SS) : Option SS :=
  k37 b2 q0 u
def f_X10_workText_13_L56 (k37 : Int32 → Int32 → SS → Option SS) (b2 : Int32) (b3 : Int32) (u : SS) : Option SS :=
  if b3 = 0 then (oi (gI u 11) 80 (ob (f_X10_readSign (gA u 12 (gI u 11).toNatClampNeg) u) fun r14 u13 => f_X10_workText_13_L79 k37 b2 r14 u13)) else (ob (f_X10_readUnit_13 b2 u) fun r17 u16 => f_X10_workText_13_L79 k37 b2 r17 u16)
def b_X10_workText_13_L37 (k37 : Int32 → Int32 → SS → Option SS) (b2 : Int32) (b3 : Int32) (u : SS) : Option SS :=
  if (gI u 12) = 0 then (if b3 = 0 then (if b2 ≤ (gI u 11) then (f_X10_workText_13_L83 u) else (f_X10_workText_13_L56 k37 b2 b3 u)) else (f_X10_workText_13_L56 k37 b2 b3 u)) else (f_X10_workText_13_L83 u)
def f_X10_workText_13_L37 : Nat → Int32 → Int32 → SS → Option SS
  | 0 => fun _ _ _ => none
  | n + 1 => b_X10_workText_13_L37 (f_X10_workText_13_L37 n)
def f_X10_workText_13 (a2 : Int32) (u : SS) : Option SS :=
  lt (sI u 8 (0 : Int32)) fun u1 => lt (sI u1 9 (0 : Int32)) fun u2 => lt (sI u2 10 (0 : Int32)) fun u3 => lt (sI u3 11 (0 : Int32)) fun u4 => lt (sI u4 14 (0 : Int32)) fun u5 => lt (sI u5 12 (0 : Int32)) fun u6 => lt (sI u6 13 (0 : Int32)) fun u7 => f_X10_workText_13_L37 FU a2 (1 : Int32) u7
set_option maxHeartbeats 4000000 in
set_option maxRecDepth 100000 in
theorem c_X10_workText_13 (l : Launch) (ev : EV) (a2 : Int32) (u : SS) {u' : SS} (hf : f_X10_workText_13 a2 u = some u') : MV wdM l yX10_workText cX10_workText 4 none 4 ev [.ref (ev.2.1 0), .ref (ev.2.1 13), .int a2] u u' := by
  refine bodyV (by decide +kernel) rfl (Nat.le_of_ble_eq_true rfl) ?_
  intro p e s m below meth cd ls H locs hc hr hlk hw hl
  generalize hav : (List.toArray [.ref (ev.2.1 0), .ref (ev.2.1 13), .int a2] : Array Value) = av at hc ⊢
  obtain ⟨hx, hb, hml, hown, hts, hK, hZ⟩ := id hc
  have hl : lv_has ls 4 [(0, .ref (ev.2.1 0)), (1, .ref (ev.2.1 13)), (2, .int a2)] := hl
  have wL83 : ∀ (u : SS) (H : Heap) (locs : List Loc) (ls : Array Slot), VW wdM ev s u H locs → lv_has ls 4 [(0, .ref (ev.2.1 0))] → f_X10_workText_13_L83  u = some u' → W p l e (rmk 4) s m av below meth cd H locs 0 0 (ZV wdM ev s below av u') (F0 m 83 ls []) := by
    intro  u H locs ls hw hl hf
    unfold f_X10_workText_13_L83 at hf
    refine lv_aload_n hx hb dX10_workText_83 rfl (lv_at hl 0 rfl) ?_
    refine gM0_31 hc hw fl_X10_255 dX10_workText_84 ?_
    refine lv_if_ne (tgt := 111) hx hb dX10_workText_87 (by decide) (fun z => ?_) (fun z => ?_)
    · have hf := it_neg z hf
      exact retV hc hr hlk hw hf dX10_workText_111
    · have hf := it_pos z hf
      refine lv_aload_n hx hb dX10_workText_90 rfl (lv_at hl 0 rfl) ?_
      refine lv_iconst (v := (1 : Int32)) hx hb dX10_workText_91 (by decide) ?_
      obtain ⟨u9, h8, hf⟩ := ov_some hf
      refine endV okM hw (runV_ok (As := [.int (1 : Int32)]) (rest := []) okM hc hw (c_X10_settle l ev (1 : Int32) u h8 H.size) kv_X10_settle ml_X10_282 (rvM0 ev u) hl.1 rfl rfl (Nat.le_of_ble_eq_true rfl) (rm_le (by decide) (by decide)) dX10_workText_92) (fun H locs hw => ?_)
      refine lv_aload_n hx hb dX10_workText_95 rfl (lv_at hl 0 rfl) ?_
      refine lv_aload_n hx hb dX10_workText_96 rfl (lv_at hl 0 rfl) ?_
      refine gM0_28 hc hw fl_X10_238 dX10_workText_97 ?_
      refine lv_if_le (tgt := 107) hx hb dX10_workText_100 (by decide) (fun z => ?_) (fun z => ?_)
      · have hf := it_pos z hf
        refine lv_iconst (v := (0 : Int32)) hx hb dX10_workText_107 (by decide) ?_
        refine pM0_31 hc hw fl_X10_255 nz0 fz0 dX10_workText_108 (fun H locs hw => ?_)
        obtain ⟨u10, eu10, hf⟩ := lt_some hf
        have hw := VW.nm eu10 hw
        exact retV hc hr hlk hw hf dX10_workText_111
      · have hf := it_neg z hf
        refine lv_iconst (v := (1 : Int32)) hx hb dX10_workText_103 (by decide) ?_
        refine lv_goto (tgt := 108) hx hb dX10_workText_104 (by decide) ?_
        refine pM0_31 hc hw fl_X10_255 nz1 fz1 dX10_workText_108 (fun H locs hw => ?_)
        obtain ⟨u11, eu11, hf⟩ := lt_some hf
        have hw := VW.nm eu11 hw
        exact retV hc hr hlk hw hf dX10_workText_111
  have wL79 : ∀ (k37 : Int32 → Int32 → SS → Option SS) (hk37 : ∀ (b2 : Int32) (b3 : Int32) (u : SS) (H : Heap) (locs : List Loc) (ls : Array Slot), VW wdM ev s u H locs → lv_has ls 4 [(0, .ref (ev.2.1 0)), (1, .ref (ev.2.1 13)), (2, .int b2), (3, .int b3)] → k37 b2 b3 u = some u' → W p l e (rmk 4) s m av below meth cd H locs 0 0 (ZV wdM ev s below av u') (F0 m 37 ls [])) (b2 : Int32) (q0 : Int32) (u : SS) (H : Heap) (locs : List Loc) (ls : Array Slot), VW wdM ev s u H locs → lv_has ls 4 [(0, .ref (ev.2.1 0)), (1, .ref (ev.2.1 13)), (2, .int b2)] → f_X10_workText_13_L79 k37 b2 q0 u = some u' → W p l e (rmk 4) s m av below meth cd H locs 0 0 (ZV wdM ev s below av u') (F0 m 79 ls [.int q0]) := by
    intro k37 hk37 b2 q0 u H locs ls hw hl hf
    unfold f_X10_workText_13_L79 at hf
    refine lv_istore_n (lv' := [(3, .int q0), (0, .ref (ev.2.1 0)), (1, .ref (ev.2.1 13)), (2, .int b2)]) hx hb dX10_workText_79 rfl hl (by decide) rfl (fun ls hl => ?_)
    refine lv_goto (tgt := 37) hx hb dX10_workText_80 (by decide) ?_
    exact hk37 b2 q0 u H locs ls hw (lv_sub hl [1, 2, 3, 0] rfl) hf
  have wL56 : ∀ (k37 : Int32 → Int32 → SS → Option SS) (hk37 : ∀ (b2 : Int32) (b3 : Int32) (u : SS) (H : Heap) (locs : List Loc) (ls : Array Slot), VW wdM ev s u H locs → lv_has ls 4 [(0, .ref (ev.2.1 0)), (1, .ref (ev.2.1 13)), (2, .int b2), (3, .int b3)] → k37 b2 b3 u = some u' → W p l e (rmk 4) s m av below meth cd H locs 0 0 (ZV wdM ev s below av u') (F0 m 37 ls [])) (b2 : Int32) (b3 : Int32) (u : SS) (H : Heap) (locs : List Loc) (ls : Array Slot), VW wdM ev s u H locs → lv_has ls 4 [(0, .ref (ev.2.1 0)), (1, .ref (ev.2.1 13)), (2, .int b2), (3, .int b3)] → f_X10_workText_13_L56 k37 b2 b3 u = some u' → W p l e (rmk 4) s m av below meth cd H locs 0 0 (ZV wdM ev s below av u') (F0 m 56 ls []) := by
    intro k37 hk37 b2 b3 u H locs ls hw hl hf
    unfold f_X10_workText_13_L56 at hf
    refine lv_iload_n hx hb dX10_workText_56 rfl (lv_at hl 3 rfl) ?_
    refine lv_if_eq (tgt := 69) hx hb dX10_workText_57 (by decide) (fun z => ?_) (fun z => ?_)
    · have hf := it_pos z hf
      refine lv_aload_n hx hb dX10_workText_69 rfl (lv_at hl 0 rfl) ?_
      refine lv_aload_n hx hb dX10_workText_70 rfl (lv_at hl 1 rfl) ?_
      refine lv_aload_n hx hb dX10_workText_71 rfl (lv_at hl 0 rfl) ?_
      refine gM0_30 hc hw fl_X10_258 dX10_workText_72 ?_
      obtain ⟨z, hf⟩ := oi_some hf
      refine aM13 hc hw z dX10_workText_75 ?_
      obtain ⟨r14, u13, h12, hf⟩ := ob_some hf
      refine endI okM hw (runV_ok (As := [.int (gA u 12 (gI u 11).toNatClampNeg)]) (rest := []) okM hc hw (c_X10_readSign l ev (gA u 12 (gI u 11).toNatClampNeg) u h12 H.size) kv_X10_readSign ml_X10_290 (rvM0 ev u) hl.1 rfl rfl (Nat.le_of_ble_eq_true rfl) (rm_le (by decide) (by decide)) dX10_workText_76) (fun H locs hw => ?_)
      exact wL79 k37 hk37 b2 r14 u13 H locs ls hw (lv_sub hl [0, 1, 2] rfl) hf
    · have hf := it_neg z hf
      refine lv_aload_n hx hb dX10_workText_60 rfl (lv_at hl 0 rfl) ?_
      refine lv_aload_n hx hb dX10_workText_61 rfl (lv_at hl 1 rfl) ?_
      refine lv_iload_n hx hb dX10_workText_62 rfl (lv_at hl 2 rfl) ?_
      obtain ⟨r17, u16, h15, hf⟩ := ob_some hf
      refine endI okM hw (runV_ok (As := [.ref (ev.2.1 13), .int b2]) (rest := []) okM hc hw (c_X10_readUnit_13 l ev b2 u h15 H.size) kv_X10_readUnit ml_X10_286 (rvM0 ev u) hl.1 rfl rfl (Nat.le_of_ble_eq_true rfl) (rm_le (by decide) (by decide)) dX10_workText_63) (fun H locs hw => ?_)
      refine lv_goto (tgt := 79) hx hb dX10_workText_66 (by decide) ?_
      exact wL79 k37 hk37 b2 r17 u16 H locs ls hw (lv_sub hl [0, 1, 2] rfl) hf
  have wL37 : ∀ (n : Nat) (b2 : Int32) (b3 : Int32) (u : SS) (H : Heap) (locs : List Loc) (ls : Array Slot), VW wdM ev s u H locs → lv_has ls 4 [(0, .ref (ev.2.1 0)), (1, .ref (ev.2.1 13)), (2, .int b2), (3, .int b3)] → f_X10_workText_13_L37 n b2 b3 u = some u' → W p l e (rmk 4) s m av below meth cd H locs 0 0 (ZV wdM ev s below av u') (F0 m 37 ls []) := by
    intro n
    induction n with
    | zero =>
      intro b2 b3 u H locs ls hw hl hf
      cases hf
    | succ n hk37 =>
      intro b2 b3 u H locs ls hw hl hf
      have hf : b_X10_workText_13_L37 (f_X10_workText_13_L37 n) b2 b3 u = some u' := hf
      unfold b_X10_workText_13_L37 at hf
      refine lv_aload_n hx hb dX10_workText_37 rfl (lv_at hl 0 rfl) ?_
      refine gM0_31 hc hw fl_X10_255 dX10_workText_38 ?_
      refine lv_if_ne (tgt := 83) hx hb dX10_workText_41 (by decide) (fun z => ?_) (fun z => ?_)
      · have hf := it_neg z hf
        exact wL83 u H locs ls hw (lv_sub hl [0] rfl) hf
      · have hf := it_pos z hf
        refine lv_iload_n hx hb dX10_workText_44 rfl (lv_at hl 3 rfl) ?_
        refine lv_if_ne (tgt := 56) hx hb dX10_workText_45 (by decide) (fun z => ?_) (fun z => ?_)
        · have hf := it_neg z hf
          exact wL56 (f_X10_workText_13_L37 n) hk37 b2 b3 u H locs ls hw (lv_sub hl [0, 1, 2, 3] rfl) hf
        · have hf := it_pos z hf
          refine lv_aload_n hx hb dX10_workText_48 rfl (lv_at hl 0 rfl) ?_
          refine gM0_30 hc hw fl_X10_258 dX10_workText_49 ?_
          refine lv_iload_n hx hb dX10_workText_52 rfl (lv_at hl 2 rfl) ?_
          refine lv_icmp_ge (tgt := 83) hx hb dX10_workText_53 (by decide) (fun z => ?_) (fun z => ?_)
          · have hf := it_pos z hf
            exact wL83 u H locs ls hw (lv_sub hl [0] rfl) hf
          · have hf := it_neg z hf
            exact wL56 (f_X10_workText_13_L37 n) hk37 b2 b3 u H locs ls hw (lv_sub hl [0, 1, 2, 3] rfl) hf
  unfold f_X10_workText_13 at hf
  refine lv_aload_n hx hb dX10_workText_0 rfl (lv_at hl 0 rfl) ?_
  refine lv_iconst (v := (0 : Int32)) hx hb dX10_workText_1 (by decide) ?_
  refine pM0_26 hc hw fl_X10_228 dX10_workText_2 (fun H locs hw => ?_)
  obtain ⟨u1, eu1, hf⟩ := lt_some hf
  have hw := VW.nm eu1 hw
  refine lv_aload_n hx hb dX10_workText_5 rfl (lv_at hl 0 rfl) ?_
  refine lv_iconst (v := (0 : Int32)) hx hb dX10_workText_6 (by decide) ?_
  refine pM0_28 hc hw fl_X10_238 dX10_workText_7 (fun H locs hw => ?_)
  obtain ⟨u2, eu2, hf⟩ := lt_some hf
  have hw := VW.nm eu2 hw
  refine lv_aload_n hx hb dX10_workText_10 rfl (lv_at hl 0 rfl) ?_
  refine lv_iconst (v := (0 : Int32)) hx hb dX10_workText_11 (by decide) ?_
  refine pM0_29 hc hw fl_X10_252 dX10_workText_12 (fun H locs hw => ?_)
  obtain ⟨u3, eu3, hf⟩ := lt_some hf
  have hw := VW.nm eu3 hw
  refine lv_aload_n hx hb dX10_workText_15 rfl (lv_at hl 0 rfl) ?_
  refine lv_iconst (v := (0 : Int32)) hx hb dX10_workText_16 (by decide) ?_
  refine pM0_30 hc hw fl_X10_258 dX10_workText_17 (fun H locs hw => ?_)
  obtain ⟨u4, eu4, hf⟩ := lt_some hf
  have hw := VW.nm eu4 hw
  refine lv_aload_n hx hb dX10_workText_20 rfl (lv_at hl 0 rfl) ?_
  refine lv_iconst (v := (0 : Int32)) hx hb dX10_workText_21 (by decide) ?_
  refine pM0_33 hc hw fl_X10_249 dX10_workText_22 (fun H locs hw => ?_)
  obtain ⟨u5, eu5, hf⟩ := lt_some hf
  have hw := VW.nm eu5 hw
  refine lv_aload_n hx hb dX10_workText_25 rfl (lv_at hl 0 rfl) ?_
  refine lv_iconst (v := (0 : Int32)) hx hb dX10_workText_26 (by decide) ?_
  refine pM0_31 hc hw fl_X10_255 nz0 fz0 dX10_workText_27 (fun H locs hw => ?_)
  obtain ⟨u6, eu6, hf⟩ := lt_some hf
  have hw := VW.nm eu6 hw
  refine lv_aload_n hx hb dX10_workText_30 rfl (lv_at hl 0 rfl) ?_
  refine lv_iconst (v := (0 : Int32)) hx hb dX10_workText_31 (by decide) ?_
  refine pM0_32 hc hw fl_X10_231 nz0 fz0 dX10_workText_32 (fun H locs hw => ?_)
  obtain ⟨u7, eu7, hf⟩ := lt_some hf
  have hw := VW.nm eu7 hw
  refine lv_iconst (v := (1 : Int32)) hx hb dX10_workText_35 (by decide) ?_
  refine lv_istore_n (lv' := [(3, .int (1 : Int32)), (0, .ref (ev.2.1 0)), (1, .ref (ev.2.1 13)), (2, .int a2)]) hx hb dX10_workText_36 rfl hl (by decide) rfl (fun ls hl => ?_)
  exact wL37 FU a2 (1 : Int32) u7 H locs ls hw (lv_sub hl [1, 2, 3, 0] rfl) hf
def b_X10_formula_L69 (k69 : Int32 → Int32 → SS → Option (Int32 × SS)) (b1 : Int32) (b2 : Int32) (u : SS) : Option (Int32 × SS) :=
  if b1 ≤ b2 then (lt (sI u 16 (0 : Int32)) fun u6 => some ((gI u6 14), u6)) else (oi b2 80 (oi b2 80 (lt (tA u 13 b2 (gA u 12 b2.toNatClampNeg)) fun u7 => lt (b2 + (1 : Int32)) fun x8 => k69 b1 x8 u7)))
def f_X10_formula_L69 : Nat → Int32 → Int32 → SS → Option (Int32 × SS)
  | 0 => fun _ _ _ => none
  | n + 1 => b_X10_formula_L69 (f_X10_formula_L69 n)
def b_X10_formula_L2 (k2 : Int32 → SS → Option (Int32 × SS)) (b1 : Int32) (u : SS) : Option (Int32 × SS) :=
  if (7 : Int32) ≤ b1 then (lt (gI u 6) fun x1 => lt (sI u 6 (0 : Int32)) fun u2 => ov (f_X10_workText_13 x1 u2) fun u4 => if (gI u4 12) = 0 then (lt (sI u4 7 x1) fun u5 => f_X10_formula_L69 FU x1 (0 : Int32) u5) else (some (((-20 : Int32) - (gI u4 11)), u4))) else (oi b1 7 (lt (tL u 0 b1 (1 : Int64)) fun u9 => oi b1 7 (lt (tL u9 1 b1 (1 : Int64)) fun u10 => lt (b1 + (1 : Int32)) fun x11 => k2 x11 u10)))
def f_X10_formula_L2 : Nat → Int32 → SS → Option (Int32 × SS)
  | 0 => fun _ _ => none
  | n + 1 => b_X10_formula_L2 (f_X10_formula_L2 n)
def f_X10_formula (u : SS) : Option (Int32 × SS) :=
  f_X10_formula_L2 FU (0 : Int32) u
set_option maxHeartbeats 4000000 in
set_option maxRecDepth 100000 in
theorem c_X10_formula (l : Launch) (ev : EV) (u : SS) {r : Int32} {u' : SS} (hf : f_X10_formula  u = some (r, u')) : MI wdM l yX10_formula cX10_formula 3 (some .int) 5 ev [.ref (ev.2.1 0)] u r u' := by
  refine bodyI (by decide +kernel) rfl (Nat.le_of_ble_eq_true rfl) ?_
  intro p e s m below meth cd ls H locs hc hr hlk hw hl
  generalize hav : (List.toArray [.ref (ev.2.1 0)] : Array Value) = av at hc ⊢
  obtain ⟨hx, hb, hml, hown, hts, hK, hZ⟩ := id hc
  have hl : lv_has ls 3 [(0, .ref (ev.2.1 0))] := hl
  have wL69 : ∀ (n : Nat) (b1 : Int32) (b2 : Int32) (u : SS) (H : Heap) (locs : List Loc) (ls : Array Slot), VW wdM ev s u H locs → lv_has ls 3 [(0, .ref (ev.2.1 0)), (1, .int b1), (2, .int b2)] → f_X10_formula_L69 n b1 b2 u = some (r, u') → W p l e (rmk 5) s m av below meth cd H locs 0 0 (ZI wdM ev s below av r u') (F0 m 69 ls []) := by
    intro n
    induction n with
    | zero =>
      intro b1 b2 u H locs ls hw hl hf
      cases hf
    | succ n hk69 =>
      intro b1 b2 u H locs ls hw hl hf
      have hf : b_X10_formula_L69 (f_X10_formula_L69 n) b1 b2 u = some (r, u') := hf
      unfold b_X10_formula_L69 at hf
      refine lv_iload_n hx hb dX10_formula_69 rfl (lv_at hl 2 rfl) ?_
      refine lv_iload_n hx hb dX10_formula_70 rfl (lv_at hl 1 rfl) ?_
      refine lv_icmp_ge (tgt := 92) hx hb dX10_formula_71 (by decide) (fun z => ?_) (fun z => ?_)
      · have hf := it_pos z hf
        refine lv_aload_n hx hb dX10_formula_92 rfl (lv_at hl 0 rfl) ?_
        refine lv_iconst (v := (0 : Int32)) hx hb dX10_formula_93 (by decide) ?_
        refine pM0_40 hc hw fl_X10_156 nz0 fz0 dX10_formula_94 (fun H locs hw => ?_)
        obtain ⟨u6, eu6, hf⟩ := lt_some hf
        have hw := VW.nm eu6 hw
        refine lv_aload_n hx hb dX10_formula_97 rfl (lv_at hl 0 rfl) ?_
        refine gM0_33 hc hw fl_X10_249 dX10_formula_98 ?_
        exact retI hc hr hlk hw hf dX10_formula_101
      · have hf := it_neg z hf
        refine lv_aload_n hx hb dX10_formula_74 rfl (lv_at hl 0 rfl) ?_
        refine gM0_20 hc hw fl_X10_57 dX10_formula_75 ?_
        refine lv_iload_n hx hb dX10_formula_78 rfl (lv_at hl 2 rfl) ?_
        refine lv_aload_n hx hb dX10_formula_79 rfl (lv_at hl 0 rfl) ?_
        refine gM0_18 hc hw fl_X10_54 dX10_formula_80 ?_
        refine lv_iload_n hx hb dX10_formula_83 rfl (lv_at hl 2 rfl) ?_
        obtain ⟨z, hf⟩ := oi_some hf
        refine aM13 hc hw z dX10_formula_84 ?_
        obtain ⟨z, hf⟩ := oi_some hf
        refine tM14 hc hw z dX10_formula_85 (fun H locs hw => ?_)
        obtain ⟨u7, eu7, hf⟩ := lt_some hf
        have hw := VW.nm eu7 hw
        obtain ⟨x8, ex8, hf⟩ := lt_some hf
        refine lv_iinc (v := x8) (lv' := [(2, .int x8), (0, .ref (ev.2.1 0)), (1, .int b1)]) hx hb dX10_formula_86 hl (k := 2) rfl (by rw [ex8]; rfl) (by decide) rfl (fun ls hl => ?_)
        refine lv_goto (tgt := 69) hx hb dX10_formula_89 (by decide) ?_
        exact hk69 b1 x8 u7 H locs ls hw (lv_sub hl [1, 2, 0] rfl) hf
  have wL2 : ∀ (n : Nat) (b1 : Int32) (u : SS) (H : Heap) (locs : List Loc) (ls : Array Slot), VW wdM ev s u H locs → lv_has ls 3 [(0, .ref (ev.2.1 0)), (1, .int b1)] → f_X10_formula_L2 n b1 u = some (r, u') → W p l e (rmk 5) s m av below meth cd H locs 0 0 (ZI wdM ev s below av r u') (F0 m 2 ls []) := by
    intro n
    induction n with
    | zero =>
      intro b1 u H locs ls hw hl hf
      cases hf
    | succ n hk2 =>
      intro b1 u H locs ls hw hl hf
      have hf : b_X10_formula_L2 (f_X10_formula_L2 n) b1 u = some (r, u') := hf
      unfold b_X10_formula_L2 at hf
      refine lv_iload_n hx hb dX10_formula_2 rfl (lv_at hl 1 rfl) ?_
      refine lv_bipush (v := (7 : Int32)) hx hb dX10_formula_3 (by decide) ?_
      refine lv_icmp_ge (tgt := 28) hx hb dX10_formula_5 (by decide) (fun z => ?_) (fun z => ?_)
      · have hf := it_pos z hf
        refine lv_aload_n hx hb dX10_formula_28 rfl (lv_at hl 0 rfl) ?_
        refine gM0_19 hc hw fl_X10_223 dX10_formula_29 ?_
        obtain ⟨x1, ex1, hf⟩ := lt_some hf
        refine tope ex1 ?_
        refine lv_istore_n (lv' := [(1, .int x1), (0, .ref (ev.2.1 0))]) hx hb dX10_formula_32 rfl hl (by decide) rfl (fun ls hl => ?_)
        refine lv_aload_n hx hb dX10_formula_33 rfl (lv_at hl 1 rfl) ?_
        refine lv_iconst (v := (0 : Int32)) hx hb dX10_formula_34 (by decide) ?_
        refine pM0_19 hc hw fl_X10_223 dX10_formula_35 (fun H locs hw => ?_)
        obtain ⟨u2, eu2, hf⟩ := lt_some hf
        have hw := VW.nm eu2 hw
        refine lv_aload_n hx hb dX10_formula_38 rfl (lv_at hl 1 rfl) ?_
        refine lv_aload_n hx hb dX10_formula_39 rfl (lv_at hl 1 rfl) ?_
        refine gM0_18 hc hw fl_X10_54 dX10_formula_40 ?_
        refine lv_iload_n hx hb dX10_formula_43 rfl (lv_at hl 0 rfl) ?_
        obtain ⟨u4, h3, hf⟩ := ov_some hf
        refine endV okM hw (runV_ok (As := [.ref (ev.2.1 13), .int x1]) (rest := []) okM hc hw (c_X10_workText_13 l ev x1 u2 h3 H.size) kv_X10_workText ml_X10_293 (rvM0 ev u2) hl.1 rfl rfl (Nat.le_of_ble_eq_true rfl) (rm_le (by decide) (by decide)) dX10_formula_44) (fun H locs hw => ?_)
        refine lv_aload_n hx hb dX10_formula_47 rfl (lv_at hl 1 rfl) ?_
        refine gM0_31 hc hw fl_X10_255 dX10_formula_48 ?_
        refine lv_if_eq (tgt := 62) hx hb dX10_formula_51 (by decide) (fun z => ?_) (fun z => ?_)
        · have hf := it_pos z hf
          refine lv_aload_n hx hb dX10_formula_62 rfl (lv_at hl 1 rfl) ?_
          refine lv_iload_n hx hb dX10_formula_63 rfl (lv_at hl 0 rfl) ?_
          refine pM0_21 hc hw fl_X10_139 dX10_formula_64 (fun H locs hw => ?_)
          obtain ⟨u5, eu5, hf⟩ := lt_some hf
          have hw := VW.nm eu5 hw
          refine lv_iconst (v := (0 : Int32)) hx hb dX10_formula_67 (by decide) ?_
          refine lv_istore_n (lv' := [(2, .int (0 : Int32)), (1, .int x1), (0, .ref (ev.2.1 0))]) hx hb dX10_formula_68 rfl hl (by decide) rfl (fun ls hl => ?_)
          exact wL69 FU x1 (0 : Int32) u5 H locs ls hw (lv_sub hl [2, 1, 0] rfl) hf
        · have hf := it_neg z hf
          refine lv_bipush (v := (-20 : Int32)) hx hb dX10_formula_54 (by decide) ?_
          refine lv_aload_n hx hb dX10_formula_56 rfl (lv_at hl 1 rfl) ?_
          refine gM0_30 hc hw fl_X10_258 dX10_formula_57 ?_
          refine lv_isub hx hb dX10_formula_60 ?_
          exact retI hc hr hlk hw hf dX10_formula_61
      · have hf := it_neg z hf
        refine lv_aload_n hx hb dX10_formula_8 rfl (lv_at hl 0 rfl) ?_
        refine gM0_22 hc hw fl_X10_60 dX10_formula_9 ?_
        refine lv_iload_n hx hb dX10_formula_12 rfl (lv_at hl 1 rfl) ?_
        refine lv_lconst (v := (1 : Int64)) hx hb dX10_formula_13 (by decide) ?_
        obtain ⟨z, hf⟩ := oi_some hf
        refine tM15 hc hw z dX10_formula_14 (fun H locs hw => ?_)
        obtain ⟨u9, eu9, hf⟩ := lt_some hf
        have hw := VW.nm eu9 hw
        refine lv_aload_n hx hb dX10_formula_15 rfl (lv_at hl 0 rfl) ?_
        refine gM0_23 hc hw fl_X10_64 dX10_formula_16 ?_
        refine lv_iload_n hx hb dX10_formula_19 rfl (lv_at hl 1 rfl) ?_
        refine lv_lconst (v := (1 : Int64)) hx hb dX10_formula_20 (by decide) ?_
        obtain ⟨z, hf⟩ := oi_some hf
        refine tM16 hc hw z dX10_formula_21 (fun H locs hw => ?_)
        obtain ⟨u10, eu10, hf⟩ := lt_some hf
        have hw := VW.nm eu10 hw
        obtain ⟨x11, ex11, hf⟩ := lt_some hf
        refine lv_iinc (v := x11) (lv' := [(1, .int x11), (0, .ref (ev.2.1 0))]) hx hb dX10_formula_22 hl (k := 1) rfl (by rw [ex11]; rfl) (by decide) rfl (fun ls hl => ?_)
        refine lv_goto (tgt := 2) hx hb dX10_formula_25 (by decide) ?_
        exact hk2 x11 u10 H locs ls hw (lv_sub hl [1, 0] rfl) hf
  unfold f_X10_formula at hf
  refine lv_iconst (v := (0 : Int32)) hx hb dX10_formula_0 (by decide) ?_
  refine lv_istore_n (lv' := [(1, .int (0 : Int32)), (0, .ref (ev.2.1 0))]) hx hb dX10_formula_1 rfl hl (by decide) rfl (fun ls hl => ?_)
  exact wL2 FU (0 : Int32) u H locs ls hw (lv_sub hl [1, 0] rfl) hf
