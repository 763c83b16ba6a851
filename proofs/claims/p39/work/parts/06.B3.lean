def f_X2_isName (a0 : Int32) (u : SS) : Option (Int32 × SS) :=
  if a0.toInt < 97 ∨ 113 < a0.toInt then (some ((0 : Int32), u)) else if a0 = (97 : Int32) then (some ((1 : Int32), u)) else if a0 = (98 : Int32) then (some ((1 : Int32), u)) else if a0 = (99 : Int32) then (some ((0 : Int32), u)) else if a0 = (100 : Int32) then (some ((0 : Int32), u)) else if a0 = (101 : Int32) then (some ((0 : Int32), u)) else if a0 = (102 : Int32) then (some ((0 : Int32), u)) else if a0 = (103 : Int32) then (some ((0 : Int32), u)) else if a0 = (104 : Int32) then (some ((1 : Int32), u)) else if a0 = (105 : Int32) then (some ((0 : Int32), u)) else if a0 = (106 : Int32) then (some ((0 : Int32), u)) else if a0 = (107 : Int32) then (some ((1 : Int32), u)) else if a0 = (108 : Int32) then (some ((1 : Int32), u)) else if a0 = (109 : Int32) then (some ((0 : Int32), u)) else if a0 = (110 : Int32) then (some ((0 : Int32), u)) else if a0 = (111 : Int32) then (some ((0 : Int32), u)) else if a0 = (112 : Int32) then (some ((1 : Int32), u)) else if a0 = (113 : Int32) then (some ((1 : Int32), u)) else none
set_option maxHeartbeats 4000000 in
set_option maxRecDepth 100000 in
theorem c_X2_isName (l : Launch) (ev : EV) (a0 : Int32) (u : SS) {r : Int32} {u' : SS} (hf : f_X2_isName a0 u = some (r, u')) : MI wdB l yX2_isName cX2_isName 1 (some .boolean) 0 ev [.int a0] u r u' := by
  refine bodyI (by decide +kernel) rfl (Nat.le_of_ble_eq_true rfl) ?_
  intro p e s m below meth cd ls H locs hc hr hlk hw hl
  generalize hav : (List.toArray [.int a0] : Array Value) = av at hc ⊢
  obtain ⟨hx, hb, hml, hown, hts, hK, hZ⟩ := id hc
  have hl : lv_has ls 1 [(0, .int a0)] := hl
  unfold f_X2_isName at hf
  refine lv_iload_n hx hb dX2_isName_0 rfl (lv_at hl 0 rfl) ?_
  by_cases z0 : a0.toInt < 97 ∨ 113 < a0.toInt
  · have hf := it_pos z0 hf
    refine lv_tableOut (tgt := 86) hx hb dX2_isName_1 z0 (by decide) ?_
    refine lv_iconst (v := (0 : Int32)) hx hb dX2_isName_86 (by decide) ?_
    exact retZ hc hr hlk hw nz0 hf dX2_isName_87
  · have hf := it_neg z0 hf
    by_cases z : a0 = (97 : Int32)
    · have hf := it_pos z hf
      refine lv_tableIn (tgt := 84) (off := 83) hx hb dX2_isName_1 (by rw [z]; decide) (by rw [z]; decide) (by rw [z]; decide) (by decide) ?_
      refine lv_iconst (v := (1 : Int32)) hx hb dX2_isName_84 (by decide) ?_
      exact retZ hc hr hlk hw nz1 hf dX2_isName_85
    have hf := it_neg z hf
    by_cases z : a0 = (98 : Int32)
    · have hf := it_pos z hf
      refine lv_tableIn (tgt := 84) (off := 83) hx hb dX2_isName_1 (by rw [z]; decide) (by rw [z]; decide) (by rw [z]; decide) (by decide) ?_
      refine lv_iconst (v := (1 : Int32)) hx hb dX2_isName_84 (by decide) ?_
      exact retZ hc hr hlk hw nz1 hf dX2_isName_85
    have hf := it_neg z hf
    by_cases z : a0 = (99 : Int32)
    · have hf := it_pos z hf
      refine lv_tableIn (tgt := 86) (off := 85) hx hb dX2_isName_1 (by rw [z]; decide) (by rw [z]; decide) (by rw [z]; decide) (by decide) ?_
      refine lv_iconst (v := (0 : Int32)) hx hb dX2_isName_86 (by decide) ?_
      exact retZ hc hr hlk hw nz0 hf dX2_isName_87
    have hf := it_neg z hf
    by_cases z : a0 = (100 : Int32)
    · have hf := it_pos z hf
      refine lv_tableIn (tgt := 86) (off := 85) hx hb dX2_isName_1 (by rw [z]; decide) (by rw [z]; decide) (by rw [z]; decide) (by decide) ?_
      refine lv_iconst (v := (0 : Int32)) hx hb dX2_isName_86 (by decide) ?_
      exact retZ hc hr hlk hw nz0 hf dX2_isName_87
    have hf := it_neg z hf
    by_cases z : a0 = (101 : Int32)
    · have hf := it_pos z hf
      refine lv_tableIn (tgt := 86) (off := 85) hx hb dX2_isName_1 (by rw [z]; decide) (by rw [z]; decide) (by rw [z]; decide) (by decide) ?_
      refine lv_iconst (v := (0 : Int32)) hx hb dX2_isName_86 (by decide) ?_
      exact retZ hc hr hlk hw nz0 hf dX2_isName_87
    have hf := it_neg z hf
    by_cases z : a0 = (102 : Int32)
    · have hf := it_pos z hf
      refine lv_tableIn (tgt := 86) (off := 85) hx hb dX2_isName_1 (by rw [z]; decide) (by rw [z]; decide) (by rw [z]; decide) (by decide) ?_
      refine lv_iconst (v := (0 : Int32)) hx hb dX2_isName_86 (by decide) ?_
      exact retZ hc hr hlk hw nz0 hf dX2_isName_87
    have hf := it_neg z hf
    by_cases z : a0 = (103 : Int32)
    · have hf := it_pos z hf
      refine lv_tableIn (tgt := 86) (off := 85) hx hb dX2_isName_1 (by rw [z]; decide) (by rw [z]; decide) (by rw [z]; decide) (by decide) ?_
      refine lv_iconst (v := (0 : Int32)) hx hb dX2_isName_86 (by decide) ?_
      exact retZ hc hr hlk hw nz0 hf dX2_isName_87
    have hf := it_neg z hf
    by_cases z : a0 = (104 : Int32)
    · have hf := it_pos z hf
      refine lv_tableIn (tgt := 84) (off := 83) hx hb dX2_isName_1 (by rw [z]; decide) (by rw [z]; decide) (by rw [z]; decide) (by decide) ?_
      refine lv_iconst (v := (1 : Int32)) hx hb dX2_isName_84 (by decide) ?_
      exact retZ hc hr hlk hw nz1 hf dX2_isName_85
    have hf := it_neg z hf
    by_cases z : a0 = (105 : Int32)
    · have hf := it_pos z hf
      refine lv_tableIn (tgt := 86) (off := 85) hx hb dX2_isName_1 (by rw [z]; decide) (by rw [z]; decide) (by rw [z]; decide) (by decide) ?_
      refine lv_iconst (v := (0 : Int32)) hx hb dX2_isName_86 (by decide) ?_
      exact retZ hc hr hlk hw nz0 hf dX2_isName_87
    have hf := it_neg z hf
    by_cases z : a0 = (106 : Int32)
    · have hf := it_pos z hf
      refine lv_tableIn (tgt := 86) (off := 85) hx hb dX2_isName_1 (by rw [z]; decide) (by rw [z]; decide) (by rw [z]; decide) (by decide) ?_
      refine lv_iconst (v := (0 : Int32)) hx hb dX2_isName_86 (by decide) ?_
      exact retZ hc hr hlk hw nz0 hf dX2_isName_87
    have hf := it_neg z hf
    by_cases z : a0 = (107 : Int32)
    · have hf := it_pos z hf
      refine lv_tableIn (tgt := 84) (off := 83) hx hb dX2_isName_1 (by rw [z]; decide) (by rw [z]; decide) (by rw [z]; decide) (by decide) ?_
      refine lv_iconst (v := (1 : Int32)) hx hb dX2_isName_84 (by decide) ?_
      exact retZ hc hr hlk hw nz1 hf dX2_isName_85
    have hf := it_neg z hf
    by_cases z : a0 = (108 : Int32)
    · have hf := it_pos z hf
      refine lv_tableIn (tgt := 84) (off := 83) hx hb dX2_isName_1 (by rw [z]; decide) (by rw [z]; decide) (by rw [z]; decide) (by decide) ?_
      refine lv_iconst (v := (1 : Int32)) hx hb dX2_isName_84 (by decide) ?_
      exact retZ hc hr hlk hw nz1 hf dX2_isName_85
    have hf := it_neg z hf
    by_cases z : a0 = (109 : Int32)
    · have hf := it_pos z hf
      refine lv_tableIn (tgt := 86) (off := 85) hx hb dX2_isName_1 (by rw [z]; decide) (by rw [z]; decide) (by rw [z]; decide) (by decide) ?_
      refine lv_iconst (v := (0 : Int32)) hx hb dX2_isName_86 (by decide) ?_
      exact retZ hc hr hlk hw nz0 hf dX2_isName_87
    have hf := it_neg z hf
    by_cases z : a0 = (110 : Int32)
    · have hf := it_pos z hf
      refine lv_tableIn (tgt := 86) (off := 85) hx hb dX2_isName_1 (by rw [z]; decide) (by rw [z]; decide) (by rw [z]; decide) (by decide) ?_
      refine lv_iconst (v := (0 : Int32)) hx hb dX2_isName_86 (by decide) ?_
      exact retZ hc hr hlk hw nz0 hf dX2_isName_87
    have hf := it_neg z hf
    by_cases z : a0 = (111 : Int32)
    · have hf := it_pos z hf
      refine lv_tableIn (tgt := 86) (off := 85) hx hb dX2_isName_1 (by rw [z]; decide) (by rw [z]; decide) (by rw [z]; decide) (by decide) ?_
      refine lv_iconst (v := (0 : Int32)) hx hb dX2_isName_86 (by decide) ?_
      exact retZ hc hr hlk hw nz0 hf dX2_isName_87
    have hf := it_neg z hf
    by_cases z : a0 = (112 : Int32)
    · have hf := it_pos z hf
      refine lv_tableIn (tgt := 84) (off := 83) hx hb dX2_isName_1 (by rw [z]; decide) (by rw [z]; decide) (by rw [z]; decide) (by decide) ?_
      refine lv_iconst (v := (1 : Int32)) hx hb dX2_isName_84 (by decide) ?_
      exact retZ hc hr hlk hw nz1 hf dX2_isName_85
    have hf := it_neg z hf
    by_cases z : a0 = (113 : Int32)
    · have hf := it_pos z hf
      refine lv_tableIn (tgt := 84) (off := 83) hx hb dX2_isName_1 (by rw [z]; decide) (by rw [z]; decide) (by rw [z]; decide) (by decide) ?_
      refine lv_iconst (v := (1 : Int32)) hx hb dX2_isName_84 (by decide) ?_
      exact retZ hc hr hlk hw nz1 hf dX2_isName_85
    have hf := it_neg z hf
    cases hf
def f_X2_findFault (u : SS) : Option SS :=
  if (gI u 9) = (-1 : Int32) then (lt (sI u 9 (gI u 8)) fun u1 => some u1) else (some u)
set_option maxHeartbeats 4000000 in
set_option maxRecDepth 100000 in
theorem c_X2_findFault (l : Launch) (ev : EV) (u : SS) {u' : SS} (hf : f_X2_findFault  u = some u') : MV wdB l yX2_findFault cX2_findFault 1 none 0 ev [.ref (ev.2.1 3)] u u' := by
  refine bodyV (by decide +kernel) rfl (Nat.le_of_ble_eq_true rfl) ?_
  intro p e s m below meth cd ls H locs hc hr hlk hw hl
  generalize hav : (List.toArray [.ref (ev.2.1 3)] : Array Value) = av at hc ⊢
  obtain ⟨hx, hb, hml, hown, hts, hK, hZ⟩ := id hc
  have hl : lv_has ls 1 [(0, .ref (ev.2.1 3))] := hl
  unfold f_X2_findFault at hf
  refine lv_aload_n hx hb dX2_findFault_0 rfl (lv_at hl 0 rfl) ?_
  refine gB3_8 hc hw fl_X2_39 dX2_findFault_1 ?_
  refine lv_iconst (v := (-1 : Int32)) hx hb dX2_findFault_4 (by decide) ?_
  refine lv_icmp_ne (tgt := 16) hx hb dX2_findFault_5 (by decide) (fun z => ?_) (fun z => ?_)
  · have hf := it_neg z hf
    exact retV hc hr hlk hw hf dX2_findFault_16
  · have hf := it_pos z hf
    refine lv_aload_n hx hb dX2_findFault_8 rfl (lv_at hl 0 rfl) ?_
    refine lv_aload_n hx hb dX2_findFault_9 rfl (lv_at hl 0 rfl) ?_
    refine gB3_7 hc hw fl_X2_36 dX2_findFault_10 ?_
    refine pB3_8 hc hw fl_X2_39 dX2_findFault_13 (fun H locs hw => ?_)
    obtain ⟨u1, eu1, hf⟩ := lt_some hf
    have hw := VW.nm eu1 hw
    exact retV hc hr hlk hw hf dX2_findFault_16
def f_X2_expect (a1 : Int32) (u : SS) : Option SS :=
  if (gI u 9) = (-1 : Int32) then (ob (f_X2_peek u) fun r3 u2 => if r3 = a1 then (lt (sI u2 8 ((gI u2 8) + (1 : Int32))) fun u6 => some u6) else (ov (f_X2_findFault u2) fun u5 => some u5)) else (some u)
set_option maxHeartbeats 4000000 in
set_option maxRecDepth 100000 in
theorem c_X2_expect (l : Launch) (ev : EV) (a1 : Int32) (u : SS) {u' : SS} (hf : f_X2_expect a1 u = some u') : MV wdB l yX2_expect cX2_expect 2 none 1 ev [.ref (ev.2.1 3), .int a1] u u' := by
  refine bodyV (by decide +kernel) rfl (Nat.le_of_ble_eq_true rfl) ?_
  intro p e s m below meth cd ls H locs hc hr hlk hw hl
  generalize hav : (List.toArray [.ref (ev.2.1 3), .int a1] : Array Value) = av at hc ⊢
  obtain ⟨hx, hb, hml, hown, hts, hK, hZ⟩ := id hc
  have hl : lv_has ls 2 [(0, .ref (ev.2.1 3)), (1, .int a1)] := hl
  unfold f_X2_expect at hf
  refine lv_aload_n hx hb dX2_expect_0 rfl (lv_at hl 0 rfl) ?_
  refine gB3_8 hc hw fl_X2_39 dX2_expect_1 ?_
  refine lv_iconst (v := (-1 : Int32)) hx hb dX2_expect_4 (by decide) ?_
  refine lv_icmp_eq (tgt := 9) hx hb dX2_expect_5 (by decide) (fun z => ?_) (fun z => ?_)
  · have hf := it_pos z hf
    refine lv_aload_n hx hb dX2_expect_9 rfl (lv_at hl 0 rfl) ?_
    obtain ⟨r3, u2, h1, hf⟩ := ob_some hf
    refine endI okB hw (runV_ok (As := []) (rest := []) okB hc hw (c_X2_peek l ev u h1 H.size) kv_X2_peek ml_X2_58 (rvB3 ev u) hl.1 rfl rfl (Nat.le_of_ble_eq_true rfl) (rm_le (by decide) (by decide)) dX2_expect_10) (fun H locs hw => ?_)
    refine lv_iload_n hx hb dX2_expect_13 rfl (lv_at hl 1 rfl) ?_
    refine lv_icmp_ne (tgt := 30) hx hb dX2_expect_14 (by decide) (fun z => ?_) (fun z => ?_)
    · have hf := it_neg z hf
      refine lv_aload_n hx hb dX2_expect_30 rfl (lv_at hl 0 rfl) ?_
      obtain ⟨u5, h4, hf⟩ := ov_some hf
      refine endV okB hw (runV_ok (As := []) (rest := []) okB hc hw (c_X2_findFault l ev u2 h4 H.size) kv_X2_findFault ml_X2_46 (rvB3 ev u2) hl.1 rfl rfl (Nat.le_of_ble_eq_true rfl) (rm_le (by decide) (by decide)) dX2_expect_31) (fun H locs hw => ?_)
      exact retV hc hr hlk hw hf dX2_expect_34
    · have hf := it_pos z hf
      refine lv_aload_n hx hb dX2_expect_17 rfl (lv_at hl 0 rfl) ?_
      refine lv_dup hx hb dX2_expect_18 rfl ?_
      refine gB3_7 hc hw fl_X2_36 dX2_expect_19 ?_
      refine lv_iconst (v := (1 : Int32)) hx hb dX2_expect_22 (by decide) ?_
      refine lv_iadd hx hb dX2_expect_23 ?_
      refine pB3_7 hc hw fl_X2_36 dX2_expect_24 (fun H locs hw => ?_)
      obtain ⟨u6, eu6, hf⟩ := lt_some hf
      have hw := VW.nm eu6 hw
      refine lv_goto (tgt := 34) hx hb dX2_expect_27 (by decide) ?_
      exact retV hc hr hlk hw hf dX2_expect_34
  · have hf := it_neg z hf
    exact retV hc hr hlk hw hf dX2_expect_8
def f_X2_readBracket_L15 (kS : Int32 → SS → Option SS) (u : SS) : Option SS :=
  ov (f_X2_findFault u) fun u5 => some u5
def f_X2_readBracket_L62 (kS : Int32 → SS → Option SS) (u : SS) : Option SS :=
  ov (f_X2_expect (41 : Int32) u) fun u10 => some u10
def f_X2_readBracket (kS : Int32 → SS → Option SS) (a1 : Int32) (a2 : Int32) (u : SS) : Option SS :=
  ob (f_X2_peek u) fun r3 u2 => if r3 = (40 : Int32) then (if a1 < (6 : Int32) then (lt (sI u2 8 ((gI u2 8) + (1 : Int32))) fun u6 => ov (kS (a1 + (1 : Int32)) u6) fun u8 => if a2 = 0 then (f_X2_readBracket_L62 kS u8) else (ov (f_X2_expect (44 : Int32) u8) fun u12 => if (gI u12 9) = (-1 : Int32) then (ov (kS (a1 + (1 : Int32)) u12) fun u14 => f_X2_readBracket_L62 kS u14) else (f_X2_readBracket_L62 kS u12))) else (f_X2_readBracket_L15 kS u2)) else (f_X2_readBracket_L15 kS u2)
set_option maxHeartbeats 4000000 in
set_option maxRecDepth 100000 in
theorem c_X2_readBracket (l : Launch) (ev : EV) (kS : Int32 → SS → Option SS) (dS : Nat) (hS : ∀ (a : Int32) (v v2 : SS), kS a v = some v2 → MV wdB l yX2_readSum cX2_readSum 4 none dS ev [.ref (ev.2.1 3), .int a] v v2) (a1 : Int32) (a2 : Int32) (u : SS) {u' : SS} (hf : f_X2_readBracket kS a1 a2 u = some u') : MV wdB l yX2_readBracket cX2_readBracket 3 none (dS + 2) ev [.ref (ev.2.1 3), .int a1, .int a2] u u' := by
  refine bodyV (by decide +kernel) rfl (Nat.le_of_ble_eq_true rfl) ?_
  intro p e s m below meth cd ls H locs hc hr hlk hw hl
  generalize hav : (List.toArray [.ref (ev.2.1 3), .int a1, .int a2] : Array Value) = av at hc ⊢
  obtain ⟨hx, hb, hml, hown, hts, hK, hZ⟩ := id hc
  have hl : lv_has ls 3 [(0, .ref (ev.2.1 3)), (1, .int a1), (2, .int a2)] := hl
  have wL15 : ∀ (u : SS) (H : Heap) (locs : List Loc) (ls : Array Slot), VW wdB ev s u H locs → lv_has ls 3 [(0, .ref (ev.2.1 3))] → f_X2_readBracket_L15 kS  u = some u' → W p l e (rmk (dS + 2)) s m av below meth cd H locs 0 0 (ZV wdB ev s below av u') (F0 m 15 ls []) := by
    intro  u H locs ls hw hl hf
    unfold f_X2_readBracket_L15 at hf
    refine lv_aload_n hx hb dX2_readBracket_15 rfl (lv_at hl 0 rfl) ?_
    obtain ⟨u5, h4, hf⟩ := ov_some hf
    refine endV okB hw (runV_ok (As := []) (rest := []) okB hc hw (c_X2_findFault l ev u h4 H.size) kv_X2_findFault ml_X2_46 (rvB3 ev u) hl.1 rfl rfl (Nat.le_of_ble_eq_true rfl) (rm_le (by omega) (by decide)) dX2_readBracket_16) (fun H locs hw => ?_)
    exact retV hc hr hlk hw hf dX2_readBracket_19
  have wL62 : ∀ (u : SS) (H : Heap) (locs : List Loc) (ls : Array Slot), VW wdB ev s u H locs → lv_has ls 3 [(0, .ref (ev.2.1 3))] → f_X2_readBracket_L62 kS  u = some u' → W p l e (rmk (dS + 2)) s m av below meth cd H locs 0 0 (ZV wdB ev s below av u') (F0 m 62 ls []) := by
    intro  u H locs ls hw hl hf
    unfold f_X2_readBracket_L62 at hf
    refine lv_aload_n hx hb dX2_readBracket_62 rfl (lv_at hl 0 rfl) ?_
    refine lv_bipush (v := (41 : Int32)) hx hb dX2_readBracket_63 (by decide) ?_
    obtain ⟨u10, h9, hf⟩ := ov_some hf
    refine endV okB hw (runV_ok (As := [.int (41 : Int32)]) (rest := []) okB hc hw (c_X2_expect l ev (41 : Int32) u h9 H.size) kv_X2_expect ml_X2_82 (rvB3 ev u) hl.1 rfl rfl (Nat.le_of_ble_eq_true rfl) (rm_le (by omega) (by decide)) dX2_readBracket_65) (fun H locs hw => ?_)
    exact retV hc hr hlk hw hf dX2_readBracket_68
  unfold f_X2_readBracket at hf
  refine lv_aload_n hx hb dX2_readBracket_0 rfl (lv_at hl 0 rfl) ?_
  obtain ⟨r3, u2, h1, hf⟩ := ob_some hf
  refine endI okB hw (runV_ok (As := []) (rest := []) okB hc hw (c_X2_peek l ev u h1 H.size) kv_X2_peek ml_X2_58 (rvB3 ev u) hl.1 rfl rfl (Nat.le_of_ble_eq_true rfl) (rm_le (by omega) (by decide)) dX2_readBracket_1) (fun H locs hw => ?_)
  refine lv_bipush (v := (40 : Int32)) hx hb dX2_readBracket_4 (by decide) ?_
  refine lv_icmp_ne (tgt := 15) hx hb dX2_readBracket_6 (by decide) (fun z => ?_) (fun z => ?_)
  · have hf := it_neg z hf
    exact wL15 u2 H locs ls hw (lv_sub hl [0] rfl) hf
  · have hf := it_pos z hf
    refine lv_iload_n hx hb dX2_readBracket_9 rfl (lv_at hl 1 rfl) ?_
    refine lv_bipush (v := (6 : Int32)) hx hb dX2_readBracket_10 (by decide) ?_
    refine lv_icmp_lt (tgt := 20) hx hb dX2_readBracket_12 (by decide) (fun z => ?_) (fun z => ?_)
    · have hf := it_pos z hf
      refine lv_aload_n hx hb dX2_readBracket_20 rfl (lv_at hl 0 rfl) ?_
      refine lv_dup hx hb dX2_readBracket_21 rfl ?_
      refine gB3_7 hc hw fl_X2_36 dX2_readBracket_22 ?_
      refine lv_iconst (v := (1 : Int32)) hx hb dX2_readBracket_25 (by decide) ?_
      refine lv_iadd hx hb dX2_readBracket_26 ?_
      refine pB3_7 hc hw fl_X2_36 dX2_readBracket_27 (fun H locs hw => ?_)
      obtain ⟨u6, eu6, hf⟩ := lt_some hf
      have hw := VW.nm eu6 hw
      refine lv_aload_n hx hb dX2_readBracket_30 rfl (lv_at hl 0 rfl) ?_
      refine lv_iload_n hx hb dX2_readBracket_31 rfl (lv_at hl 1 rfl) ?_
      refine lv_iconst (v := (1 : Int32)) hx hb dX2_readBracket_32 (by decide) ?_
      refine lv_iadd hx hb dX2_readBracket_33 ?_
      obtain ⟨u8, h7, hf⟩ := ov_some hf
      refine endV okB hw (runV_ok (As := [.int (a1 + (1 : Int32))]) (rest := []) okB hc hw (hS (a1 + (1 : Int32)) u6 _ h7 H.size) kv_X2_readSum ml_X2_42 (rvB3 ev u6) hl.1 rfl rfl (Nat.le_of_ble_eq_true rfl) (rm_le (by omega) (by decide)) dX2_readBracket_34) (fun H locs hw => ?_)
      refine lv_iload_n hx hb dX2_readBracket_37 rfl (lv_at hl 2 rfl) ?_
      refine lv_if_eq (tgt := 62) hx hb dX2_readBracket_38 (by decide) (fun z => ?_) (fun z => ?_)
      · have hf := it_pos z hf
        exact wL62 u8 H locs ls hw (lv_sub hl [0] rfl) hf
      · have hf := it_neg z hf
        refine lv_aload_n hx hb dX2_readBracket_41 rfl (lv_at hl 0 rfl) ?_
        refine lv_bipush (v := (44 : Int32)) hx hb dX2_readBracket_42 (by decide) ?_
        obtain ⟨u12, h11, hf⟩ := ov_some hf
        refine endV okB hw (runV_ok (As := [.int (44 : Int32)]) (rest := []) okB hc hw (c_X2_expect l ev (44 : Int32) u8 h11 H.size) kv_X2_expect ml_X2_82 (rvB3 ev u8) hl.1 rfl rfl (Nat.le_of_ble_eq_true rfl) (rm_le (by omega) (by decide)) dX2_readBracket_44) (fun H locs hw => ?_)
        refine lv_aload_n hx hb dX2_readBracket_47 rfl (lv_at hl 0 rfl) ?_
        refine gB3_8 hc hw fl_X2_39 dX2_readBracket_48 ?_
        refine lv_iconst (v := (-1 : Int32)) hx hb dX2_readBracket_51 (by decide) ?_
        refine lv_icmp_ne (tgt := 62) hx hb dX2_readBracket_52 (by decide) (fun z => ?_) (fun z => ?_)
        · have hf := it_neg z hf
          exact wL62 u12 H locs ls hw (lv_sub hl [0] rfl) hf
        · have hf := it_pos z hf
          refine lv_aload_n hx hb dX2_readBracket_55 rfl (lv_at hl 0 rfl) ?_
          refine lv_iload_n hx hb dX2_readBracket_56 rfl (lv_at hl 1 rfl) ?_
          refine lv_iconst (v := (1 : Int32)) hx hb dX2_readBracket_57 (by decide) ?_
          refine lv_iadd hx hb dX2_readBracket_58 ?_
          obtain ⟨u14, h13, hf⟩ := ov_some hf
          refine endV okB hw (runV_ok (As := [.int (a1 + (1 : Int32))]) (rest := []) okB hc hw (hS (a1 + (1 : Int32)) u12 _ h13 H.size) kv_X2_readSum ml_X2_42 (rvB3 ev u12) hl.1 rfl rfl (Nat.le_of_ble_eq_true rfl) (rm_le (by omega) (by decide)) dX2_readBracket_59) (fun H locs hw => ?_)
          exact wL62 u14 H locs ls hw (lv_sub hl [0] rfl) hf
    · have hf := it_neg z hf
      exact wL15 u2 H locs ls hw (lv_sub hl [0] rfl) hf
def f_X2_emit (a1 : Int32) (u : SS) : Option SS :=
  if (80 : Int32) ≤ (gI u 6) then (some u) else (oi (gI u 6) 80 (lt (tA u 15 (gI u 6) a1) fun u1 => lt (sI u1 6 ((gI u1 6) + (1 : Int32))) fun u2 => some u2))
set_option maxHeartbeats 4000000 in
set_option maxRecDepth 100000 in
theorem c_X2_emit (l : Launch) (ev : EV) (a1 : Int32) (u : SS) {u' : SS} (hf : f_X2_emit a1 u = some u') : MV wdB l yX2_emit cX2_emit 2 none 0 ev [.ref (ev.2.1 3), .int a1] u u' := by
  refine bodyV (by decide +kernel) rfl (Nat.le_of_ble_eq_true rfl) ?_
  intro p e s m below meth cd ls H locs hc hr hlk hw hl
  generalize hav : (List.toArray [.ref (ev.2.1 3), .int a1] : Array Value) = av at hc ⊢
  obtain ⟨hx, hb, hml, hown, hts, hK, hZ⟩ := id hc
  have hl : lv_has ls 2 [(0, .ref (ev.2.1 3)), (1, .int a1)] := hl
  unfold f_X2_emit at hf
  refine lv_aload_n hx hb dX2_emit_0 rfl (lv_at hl 0 rfl) ?_
  refine gB3_5 hc hw fl_X2_30 dX2_emit_1 ?_
  refine lv_bipush (v := (80 : Int32)) hx hb dX2_emit_4 (by decide) ?_
  refine lv_icmp_ge (tgt := 29) hx hb dX2_emit_6 (by decide) (fun z => ?_) (fun z => ?_)
  · have hf := it_pos z hf
    exact retV hc hr hlk hw hf dX2_emit_29
  · have hf := it_neg z hf
    refine lv_aload_n hx hb dX2_emit_9 rfl (lv_at hl 0 rfl) ?_
    refine gB3_4 hc hw fl_X2_22 dX2_emit_10 ?_
    refine lv_aload_n hx hb dX2_emit_13 rfl (lv_at hl 0 rfl) ?_
    refine gB3_5 hc hw fl_X2_30 dX2_emit_14 ?_
    refine lv_iload_n hx hb dX2_emit_17 rfl (lv_at hl 1 rfl) ?_
    obtain ⟨z, hf⟩ := oi_some hf
    refine tB24 hc hw z dX2_emit_18 (fun H locs hw => ?_)
    obtain ⟨u1, eu1, hf⟩ := lt_some hf
    have hw := VW.nm eu1 hw
    refine lv_aload_n hx hb dX2_emit_19 rfl (lv_at hl 0 rfl) ?_
    refine lv_dup hx hb dX2_emit_20 rfl ?_
    refine gB3_5 hc hw fl_X2_30 dX2_emit_21 ?_
    refine lv_iconst (v := (1 : Int32)) hx hb dX2_emit_24 (by decide) ?_
    refine lv_iadd hx hb dX2_emit_25 ?_
    refine pB3_5 hc hw fl_X2_30 dX2_emit_26 (fun H locs hw => ?_)
    obtain ⟨u2, eu2, hf⟩ := lt_some hf
    have hw := VW.nm eu2 hw
    exact retV hc hr hlk hw hf dX2_emit_29
def f_X2_readNumber_L49 (b1 : Int32) (u : SS) : Option SS :=
  lt (sI u 7 ((gI u 7) + (1 : Int32))) fun u1 => ov (f_X2_emit b1 u1) fun u3 => some u3
def b_X2_readNumber_L4 (k4 : Int32 → Int32 → SS → Option SS) (b1 : Int32) (b2 : Int32) (u : SS) : Option SS :=
  if (6 : Int32) ≤ b2 then (f_X2_readNumber_L49 b1 u) else (ob (f_X2_peek u) fun r6 u5 => ob (f_X2_isDigit r6 u5) fun r9 u8 => if r9 = 0 then (f_X2_readNumber_L49 b1 u8) else (ob (f_X2_peek u8) fun r12 u11 => lt (((b1 * (10 : Int32)) + r12) - (48 : Int32)) fun x13 => lt (sI u11 8 ((gI u11 8) + (1 : Int32))) fun u14 => lt (b2 + (1 : Int32)) fun x15 => k4 x13 x15 u14))
def f_X2_readNumber_L4 : Nat → Int32 → Int32 → SS → Option SS
  | 0 => fun _ _ _ => none
  | n + 1 => b_X2_readNumber_L4 (f_X2_readNumber_L4 n)
def f_X2_readNumber (u : SS) : Option SS :=
  f_X2_readNumber_L4 FU (0 : Int32) (0 : Int32) u
set_option maxHeartbeats 4000000 in
set_option maxRecDepth 100000 in
theorem c_X2_readNumber (l : Launch) (ev : EV) (u : SS) {u' : SS} (hf : f_X2_readNumber  u = some u') : MV wdB l yX2_readNumber cX2_readNumber 3 none 1 ev [.ref (ev.2.1 3)] u u' := by
  refine bodyV (by decide +kernel) rfl (Nat.le_of_ble_eq_true rfl) ?_
  intro p e s m below meth cd ls H locs hc hr hlk hw hl
  generalize hav : (List.toArray [.ref (ev.2.1 3)] : Array Value) = av at hc ⊢
  obtain ⟨hx, hb, hml, hown, hts, hK, hZ⟩ := id hc
  have hl : lv_has ls 3 [(0, .ref (ev.2.1 3))] := hl
  have wL49 : ∀ (b1 : Int32) (u : SS) (H : Heap) (locs : List Loc) (ls : Array Slot), VW wdB ev s u H locs → lv_has ls 3 [(0, .ref (ev.2.1 3)), (1, .int b1)] → f_X2_readNumber_L49 b1 u = some u' → W p l e (rmk 1) s m av below meth cd H locs 0 0 (ZV wdB ev s below av u') (F0 m 49 ls []) := by
    intro b1 u H locs ls hw hl hf
    unfold f_X2_readNumber_L49 at hf
    refine lv_aload_n hx hb dX2_readNumber_49 rfl (lv_at hl 0 rfl) ?_
    refine lv_dup hx hb dX2_readNumber_50 rfl ?_
    refine gB3_6 hc hw fl_X2_33 dX2_readNumber_51 ?_
    refine lv_iconst (v := (1 : Int32)) hx hb dX2_readNumber_54 (by decide) ?_
    refine lv_iadd hx hb dX2_readNumber_55 ?_
    refine pB3_6 hc hw fl_X2_33 dX2_readNumber_56 (fun H locs hw => ?_)
    obtain ⟨u1, eu1, hf⟩ := lt_some hf
    have hw := VW.nm eu1 hw
    refine lv_aload_n hx hb dX2_readNumber_59 rfl (lv_at hl 0 rfl) ?_
    refine lv_iload_n hx hb dX2_readNumber_60 rfl (lv_at hl 1 rfl) ?_
    obtain ⟨u3, h2, hf⟩ := ov_some hf
    refine endV okB hw (runV_ok (As := [.int b1]) (rest := []) okB hc hw (c_X2_emit l ev b1 u1 h2 H.size) kv_X2_emit ml_X2_62 (rvB3 ev u1) hl.1 rfl rfl (Nat.le_of_ble_eq_true rfl) (rm_le (by decide) (by decide)) dX2_readNumber_61) (fun H locs hw => ?_)
    exact retV hc hr hlk hw hf dX2_readNumber_64
  have wL4 : ∀ (n : Nat) (b1 : Int32) (b2 : Int32) (u : SS) (H : Heap) (locs : List Loc) (ls : Array Slot), VW wdB ev s u H locs → lv_has ls 3 [(0, .ref (ev.2.1 3)), (1, .int b1), (2, .int b2)] → f_X2_readNumber_L4 n b1 b2 u = some u' → W p l e (rmk 1) s m av below meth cd H locs 0 0 (ZV wdB ev s below av u') (F0 m 4 ls []) := by
    intro n
    induction n with
    | zero =>
      intro b1 b2 u H locs ls hw hl hf
      cases hf
    | succ n hk4 =>
      intro b1 b2 u H locs ls hw hl hf
      have hf : b_X2_readNumber_L4 (f_X2_readNumber_L4 n) b1 b2 u = some u' := hf
      unfold b_X2_readNumber_L4 at hf
      refine lv_iload_n hx hb dX2_readNumber_4 rfl (lv_at hl 2 rfl) ?_
      refine lv_bipush (v := (6 : Int32)) hx hb dX2_readNumber_5 (by decide) ?_
      refine lv_icmp_ge (tgt := 49) hx hb dX2_readNumber_7 (by decide) (fun z => ?_) (fun z => ?_)
      · have hf := it_pos z hf
        exact wL49 b1 u H locs ls hw (lv_sub hl [0, 1] rfl) hf
      · have hf := it_neg z hf
        refine lv_aload_n hx hb dX2_readNumber_10 rfl (lv_at hl 0 rfl) ?_
        obtain ⟨r6, u5, h4, hf⟩ := ob_some hf
        refine endI okB hw (runV_ok (As := []) (rest := []) okB hc hw (c_X2_peek l ev u h4 H.size) kv_X2_peek ml_X2_58 (rvB3 ev u) hl.1 rfl rfl (Nat.le_of_ble_eq_true rfl) (rm_le (by decide) (by decide)) dX2_readNumber_11) (fun H locs hw => ?_)
        obtain ⟨r9, u8, h7, hf⟩ := ob_some hf
        refine endI okB hw (runS_ok (As := [.int r6]) (rest := []) okB hc hw (c_X2_isDigit l ev r6 u5 h7 H.size) ks_X2_isDigit ml_X2_68 hl.1 rfl rfl (Nat.le_of_ble_eq_true rfl) (rm_le (by decide) (by decide)) dX2_readNumber_14) (fun H locs hw => ?_)
        refine lv_if_eq (tgt := 49) hx hb dX2_readNumber_17 (by decide) (fun z => ?_) (fun z => ?_)
        · have hf := it_pos z hf
          exact wL49 b1 u8 H locs ls hw (lv_sub hl [0, 1] rfl) hf
        · have hf := it_neg z hf
          refine lv_iload_n hx hb dX2_readNumber_20 rfl (lv_at hl 1 rfl) ?_
          refine lv_bipush (v := (10 : Int32)) hx hb dX2_readNumber_21 (by decide) ?_
          refine lv_imul hx hb dX2_readNumber_23 ?_
          refine lv_aload_n hx hb dX2_readNumber_24 rfl (lv_at hl 0 rfl) ?_
          obtain ⟨r12, u11, h10, hf⟩ := ob_some hf
          refine endI okB hw (runV_ok (As := []) (rest := [.int (b1 * (10 : Int32))]) okB hc hw (c_X2_peek l ev u8 h10 H.size) kv_X2_peek ml_X2_58 (rvB3 ev u8) hl.1 rfl rfl (Nat.le_of_ble_eq_true rfl) (rm_le (by decide) (by decide)) dX2_readNumber_25) (fun H locs hw => ?_)
          refine lv_iadd hx hb dX2_readNumber_28 ?_
          refine lv_bipush (v := (48 : Int32)) hx hb dX2_readNumber_29 (by decide) ?_
          refine lv_isub hx hb dX2_readNumber_31 ?_
          obtain ⟨x13, ex13, hf⟩ := lt_some hf
          refine tope ex13 ?_
          refine lv_istore_n (lv' := [(1, .int x13), (0, .ref (ev.2.1 3)), (2, .int b2)]) hx hb dX2_readNumber_32 rfl hl (by decide) rfl (fun ls hl => ?_)
          refine lv_aload_n hx hb dX2_readNumber_33 rfl (lv_at hl 1 rfl) ?_
          refine lv_dup hx hb dX2_readNumber_34 rfl ?_
          refine gB3_7 hc hw fl_X2_36 dX2_readNumber_35 ?_
          refine lv_iconst (v := (1 : Int32)) hx hb dX2_readNumber_38 (by decide) ?_
          refine lv_iadd hx hb dX2_readNumber_39 ?_
          refine pB3_7 hc hw fl_X2_36 dX2_readNumber_40 (fun H locs hw => ?_)
          obtain ⟨u14, eu14, hf⟩ := lt_some hf
          have hw := VW.nm eu14 hw
          obtain ⟨x15, ex15, hf⟩ := lt_some hf
          refine lv_iinc (v := x15) (lv' := [(2, .int x15), (1, .int x13), (0, .ref (ev.2.1 3))]) hx hb dX2_readNumber_43 hl (k := 2) rfl (by rw [ex15]; rfl) (by decide) rfl (fun ls hl => ?_)
          refine lv_goto (tgt := 4) hx hb dX2_readNumber_46 (by decide) ?_
          exact hk4 x13 x15 u14 H locs ls hw (lv_sub hl [2, 1, 0] rfl) hf
  unfold f_X2_readNumber at hf
  refine lv_iconst (v := (0 : Int32)) hx hb dX2_readNumber_0 (by decide) ?_
  refine lv_istore_n (lv' := [(1, .int (0 : Int32)), (0, .ref (ev.2.1 3))]) hx hb dX2_readNumber_1 rfl hl (by decide) rfl (fun ls hl => ?_)
  refine lv_iconst (v := (0 : Int32)) hx hb dX2_readNumber_2 (by decide) ?_
  refine lv_istore_n (lv' := [(2, .int (0 : Int32)), (1, .int (0 : Int32)), (0, .ref (ev.2.1 3))]) hx hb dX2_readNumber_3 rfl hl (by decide) rfl (fun ls hl => ?_)
  exact wL4 FU (0 : Int32) (0 : Int32) u H locs ls hw (lv_sub hl [2, 1, 0] rfl) hf
def f_X2_readUnit_L82 (kS : Int32 → SS → Option SS) (b1 : Int32) (b2 : Int32) (u : SS) : Option SS :=
  lt (sI u 8 ((gI u 8) + (1 : Int32))) fun u10 => ov (f_X2_readBracket kS b1 (1 : Int32) u10) fun u12 => ov (f_X2_emit (-b2) u12) fun u14 => some u14
def f_X2_readUnit (kS : Int32 → SS → Option SS) (a1 : Int32) (u : SS) : Option SS :=
  ob (f_X2_peek u) fun r3 u2 => ob (f_X2_isDigit r3 u2) fun r6 u5 => if r6 = 0 then (ob (f_X2_isName r3 u5) fun r9 u8 => if r9 = 0 then (if r3 = (40 : Int32) then (ov (f_X2_readBracket kS a1 (0 : Int32) u8) fun u18 => some u18) else (if r3 = (60 : Int32) then (f_X2_readUnit_L82 kS a1 r3 u8) else (if r3 = (62 : Int32) then (f_X2_readUnit_L82 kS a1 r3 u8) else (ov (f_X2_findFault u8) fun u16 => some u16)))) else (lt (sI u8 8 ((gI u8 8) + (1 : Int32))) fun u19 => lt (sI u19 7 ((gI u19 7) + (1 : Int32))) fun u20 => ov (f_X2_emit (-r3) u20) fun u22 => some u22)) else (ov (f_X2_readNumber u5) fun u24 => some u24)
set_option maxHeartbeats 4000000 in
set_option maxRecDepth 100000 in
theorem c_X2_readUnit (l : Launch) (ev : EV) (kS : Int32 → SS → Option SS) (dS : Nat) (hS : ∀ (a : Int32) (v v2 : SS), kS a v = some v2 → MV wdB l yX2_readSum cX2_readSum 4 none dS ev [.ref (ev.2.1 3), .int a] v v2) (a1 : Int32) (u : SS) {u' : SS} (hf : f_X2_readUnit kS a1 u = some u') : MV wdB l yX2_readUnit cX2_readUnit 3 none (dS + 3) ev [.ref (ev.2.1 3), .int a1] u u' := by
  refine bodyV (by decide +kernel) rfl (Nat.le_of_ble_eq_true rfl) ?_
  intro p e s m below meth cd ls H locs hc hr hlk hw hl
  generalize hav : (List.toArray [.ref (ev.2.1 3), .int a1] : Array Value) = av at hc ⊢
  obtain ⟨hx, hb, hml, hown, hts, hK, hZ⟩ := id hc
  have hl : lv_has ls 3 [(0, .ref (ev.2.1 3)), (1, .int a1)] := hl
  have wL82 : ∀ (b1 : Int32) (b2 : Int32) (u : SS) (H : Heap) (locs : List Loc) (ls : Array Slot), VW wdB ev s u H locs → lv_has ls 3 [(0, .ref (ev.2.1 3)), (1, .int b1), (2, .int b2)] → f_X2_readUnit_L82 kS b1 b2 u = some u' → W p l e (rmk (dS + 3)) s m av below meth cd H locs 0 0 (ZV wdB ev s below av u') (F0 m 82 ls []) := by
    intro b1 b2 u H locs ls hw hl hf
    unfold f_X2_readUnit_L82 at hf
    refine lv_aload_n hx hb dX2_readUnit_82 rfl (lv_at hl 0 rfl) ?_
    refine lv_dup hx hb dX2_readUnit_83 rfl ?_
    refine gB3_7 hc hw fl_X2_36 dX2_readUnit_84 ?_
    refine lv_iconst (v := (1 : Int32)) hx hb dX2_readUnit_87 (by decide) ?_
    refine lv_iadd hx hb dX2_readUnit_88 ?_
    refine pB3_7 hc hw fl_X2_36 dX2_readUnit_89 (fun H locs hw => ?_)
    obtain ⟨u10, eu10, hf⟩ := lt_some hf
    have hw := VW.nm eu10 hw
    refine lv_aload_n hx hb dX2_readUnit_92 rfl (lv_at hl 0 rfl) ?_
    refine lv_iload_n hx hb dX2_readUnit_93 rfl (lv_at hl 1 rfl) ?_
    refine lv_iconst (v := (1 : Int32)) hx hb dX2_readUnit_94 (by decide) ?_
    obtain ⟨u12, h11, hf⟩ := ov_some hf
    refine endV okB hw (runV_ok (As := [.int b1, .int (1 : Int32)]) (rest := []) okB hc hw (c_X2_readBracket l ev kS dS hS b1 (1 : Int32) u10 h11 H.size) kv_X2_readBracket ml_X2_78 (rvB3 ev u10) hl.1 rfl rfl (Nat.le_of_ble_eq_true rfl) (rm_le (by omega) (by decide)) dX2_readUnit_95) (fun H locs hw => ?_)
    refine lv_aload_n hx hb dX2_readUnit_98 rfl (lv_at hl 0 rfl) ?_
    refine lv_iload_n hx hb dX2_readUnit_99 rfl (lv_at hl 2 rfl) ?_
    refine lv_ineg hx hb dX2_readUnit_100 ?_
    obtain ⟨u14, h13, hf⟩ := ov_some hf
    refine endV okB hw (runV_ok (As := [.int (-b2)]) (rest := []) okB hc hw (c_X2_emit l ev (-b2) u12 h13 H.size) kv_X2_emit ml_X2_62 (rvB3 ev u12) hl.1 rfl rfl (Nat.le_of_ble_eq_true rfl) (rm_le (by omega) (by decide)) dX2_readUnit_101) (fun H locs hw => ?_)
    refine lv_goto (tgt := 111) hx hb dX2_readUnit_104 (by decide) ?_
    exact retV hc hr hlk hw hf dX2_readUnit_111
  unfold f_X2_readUnit at hf
  refine lv_aload_n hx hb dX2_readUnit_0 rfl (lv_at hl 0 rfl) ?_
  obtain ⟨r3, u2, h1, hf⟩ := ob_some hf
  refine endI okB hw (runV_ok (As := []) (rest := []) okB hc hw (c_X2_peek l ev u h1 H.size) kv_X2_peek ml_X2_58 (rvB3 ev u) hl.1 rfl rfl (Nat.le_of_ble_eq_true rfl) (rm_le (by omega) (by decide)) dX2_readUnit_1) (fun H locs hw => ?_)
  refine lv_istore_n (lv' := [(2, .int r3), (0, .ref (ev.2.1 3)), (1, .int a1)]) hx hb dX2_readUnit_4 rfl hl (by decide) rfl (fun ls hl => ?_)
  refine lv_iload_n hx hb dX2_readUnit_5 rfl (lv_at hl 0 rfl) ?_
  obtain ⟨r6, u5, h4, hf⟩ := ob_some hf
  refine endI okB hw (runS_ok (As := [.int r3]) (rest := []) okB hc hw (c_X2_isDigit l ev r3 u2 h4 H.size) ks_X2_isDigit ml_X2_68 hl.1 rfl rfl (Nat.le_of_ble_eq_true rfl) (rm_le (by omega) (by decide)) dX2_readUnit_6) (fun H locs hw => ?_)
  refine lv_if_eq (tgt := 19) hx hb dX2_readUnit_9 (by decide) (fun z => ?_) (fun z => ?_)
  · have hf := it_pos z hf
    refine lv_iload_n hx hb dX2_readUnit_19 rfl (lv_at hl 0 rfl) ?_
    obtain ⟨r9, u8, h7, hf⟩ := ob_some hf
    refine endI okB hw (runS_ok (As := [.int r3]) (rest := []) okB hc hw (c_X2_isName l ev r3 u5 h7 H.size) ks_X2_isName ml_X2_75 hl.1 rfl rfl (Nat.le_of_ble_eq_true rfl) (rm_le (by omega) (by decide)) dX2_readUnit_20) (fun H locs hw => ?_)
    refine lv_if_eq (tgt := 55) hx hb dX2_readUnit_23 (by decide) (fun z => ?_) (fun z => ?_)
    · have hf := it_pos z hf
      refine lv_iload_n hx hb dX2_readUnit_55 rfl (lv_at hl 0 rfl) ?_
      refine lv_bipush (v := (40 : Int32)) hx hb dX2_readUnit_56 (by decide) ?_
      refine lv_icmp_ne (tgt := 70) hx hb dX2_readUnit_58 (by decide) (fun z => ?_) (fun z => ?_)
      · have hf := it_neg z hf
        refine lv_iload_n hx hb dX2_readUnit_70 rfl (lv_at hl 0 rfl) ?_
        refine lv_bipush (v := (60 : Int32)) hx hb dX2_readUnit_71 (by decide) ?_
        refine lv_icmp_eq (tgt := 82) hx hb dX2_readUnit_73 (by decide) (fun z => ?_) (fun z => ?_)
        · have hf := it_pos z hf
          exact wL82 a1 r3 u8 H locs ls hw (lv_sub hl [1, 2, 0] rfl) hf
        · have hf := it_neg z hf
          refine lv_iload_n hx hb dX2_readUnit_76 rfl (lv_at hl 0 rfl) ?_
          refine lv_bipush (v := (62 : Int32)) hx hb dX2_readUnit_77 (by decide) ?_
          refine lv_icmp_ne (tgt := 107) hx hb dX2_readUnit_79 (by decide) (fun z => ?_) (fun z => ?_)
          · have hf := it_neg z hf
            refine lv_aload_n hx hb dX2_readUnit_107 rfl (lv_at hl 1 rfl) ?_
            obtain ⟨u16, h15, hf⟩ := ov_some hf
            refine endV okB hw (runV_ok (As := []) (rest := []) okB hc hw (c_X2_findFault l ev u8 h15 H.size) kv_X2_findFault ml_X2_46 (rvB3 ev u8) hl.1 rfl rfl (Nat.le_of_ble_eq_true rfl) (rm_le (by omega) (by decide)) dX2_readUnit_108) (fun H locs hw => ?_)
            exact retV hc hr hlk hw hf dX2_readUnit_111
          · have hf := it_pos z hf
            exact wL82 a1 r3 u8 H locs ls hw (lv_sub hl [1, 2, 0] rfl) hf
      · have hf := it_pos z hf
        refine lv_aload_n hx hb dX2_readUnit_61 rfl (lv_at hl 1 rfl) ?_
        refine lv_iload_n hx hb dX2_readUnit_62 rfl (lv_at hl 2 rfl) ?_
        refine lv_iconst (v := (0 : Int32)) hx hb dX2_readUnit_63 (by decide) ?_
        obtain ⟨u18, h17, hf⟩ := ov_some hf
        refine endV okB hw (runV_ok (As := [.int a1, .int (0 : Int32)]) (rest := []) okB hc hw (c_X2_readBracket l ev kS dS hS a1 (0 : Int32) u8 h17 H.size) kv_X2_readBracket ml_X2_78 (rvB3 ev u8) hl.1 rfl rfl (Nat.le_of_ble_eq_true rfl) (rm_le (by omega) (by decide)) dX2_readUnit_64) (fun H locs hw => ?_)
        refine lv_goto (tgt := 111) hx hb dX2_readUnit_67 (by decide) ?_
        exact retV hc hr hlk hw hf dX2_readUnit_111
    · have hf := it_neg z hf
      refine lv_aload_n hx hb dX2_readUnit_26 rfl (lv_at hl 1 rfl) ?_
      refine lv_dup hx hb dX2_readUnit_27 rfl ?_
      refine gB3_7 hc hw fl_X2_36 dX2_readUnit_28 ?_
      refine lv_iconst (v := (1 : Int32)) hx hb dX2_readUnit_31 (by decide) ?_
      refine lv_iadd hx hb dX2_readUnit_32 ?_
      refine pB3_7 hc hw fl_X2_36 dX2_readUnit_33 (fun H locs hw => ?_)
      obtain ⟨u19, eu19, hf⟩ := lt_some hf
      have hw := VW.nm eu19 hw
      refine lv_aload_n hx hb dX2_readUnit_36 rfl (lv_at hl 1 rfl) ?_
      refine lv_dup hx hb dX2_readUnit_37 rfl ?_
      refine gB3_6 hc hw fl_X2_33 dX2_readUnit_38 ?_
      refine lv_iconst (v := (1 : Int32)) hx hb dX2_readUnit_41 (by decide) ?_
      refine lv_iadd hx hb dX2_readUnit_42 ?_
      refine pB3_6 hc hw fl_X2_33 dX2_readUnit_43 (fun H locs hw => ?_)
      obtain ⟨u20, eu20, hf⟩ := lt_some hf
      have hw := VW.nm eu20 hw
      refine lv_aload_n hx hb dX2_readUnit_46 rfl (lv_at hl 1 rfl) ?_
      refine lv_iload_n hx hb dX2_readUnit_47 rfl (lv_at hl 0 rfl) ?_
      refine lv_ineg hx hb dX2_readUnit_48 ?_
      obtain ⟨u22, h21, hf⟩ := ov_some hf
      refine endV okB hw (runV_ok (As := [.int (-r3)]) (rest := []) okB hc hw (c_X2_emit l ev (-r3) u20 h21 H.size) kv_X2_emit ml_X2_62 (rvB3 ev u20) hl.1 rfl rfl (Nat.le_of_ble_eq_true rfl) (rm_le (by omega) (by decide)) dX2_readUnit_49) (fun H locs hw => ?_)
      refine lv_goto (tgt := 111) hx hb dX2_readUnit_52 (by decide) ?_
      exact retV hc hr hlk hw hf dX2_readUnit_111
  · have hf := it_neg z hf
    refine lv_aload_n hx hb dX2_readUnit_12 rfl (lv_at hl 1 rfl) ?_
    obtain ⟨u24, h23, hf⟩ := ov_some hf
    refine endV okB hw (runV_ok (As := []) (rest := []) okB hc hw (c_X2_readNumber l ev u5 h23 H.size) kv_X2_readNumber ml_X2_72 (rvB3 ev u5) hl.1 rfl rfl (Nat.le_of_ble_eq_true rfl) (rm_le (by omega) (by decide)) dX2_readUnit_13) (fun H locs hw => ?_)
    refine lv_goto (tgt := 111) hx hb dX2_readUnit_16 (by decide) ?_
    exact retV hc hr hlk hw hf dX2_readUnit_111
def f_X2_readTerm_L39 (kS : Int32 → SS → Option SS) (k7 : Int32 → Int32 → SS → Option SS) (b1 : Int32) (b2 : Int32) (b3 : Int32) (u : SS) : Option SS :=
  lt (sI u 8 ((gI u 8) + (1 : Int32))) fun u6 => ov (f_X2_readUnit kS b1 u6) fun u8 => ov (f_X2_emit (-b3) u8) fun u10 => lt (b2 + (1 : Int32)) fun x11 => k7 b1 x11 u10
def b_X2_readTerm_L7 (kS : Int32 → SS → Option SS) (k7 : Int32 → Int32 → SS → Option SS) (b1 : Int32) (b2 : Int32) (u : SS) : Option SS :=
  if (80 : Int32) ≤ b2 then (some u) else (if (gI u 9) = (-1 : Int32) then (ob (f_X2_peek u) fun r5 u4 => if r5 = (42 : Int32) then (f_X2_readTerm_L39 kS k7 b1 b2 r5 u4) else (if r5 = (47 : Int32) then (f_X2_readTerm_L39 kS k7 b1 b2 r5 u4) else (some u4))) else (some u))
def f_X2_readTerm_L7 (kS : Int32 → SS → Option SS) : Nat → Int32 → Int32 → SS → Option SS
  | 0 => fun _ _ _ => none
  | n + 1 => b_X2_readTerm_L7 kS (f_X2_readTerm_L7 kS n)
def f_X2_readTerm (kS : Int32 → SS → Option SS) (a1 : Int32) (u : SS) : Option SS :=
  ov (f_X2_readUnit kS a1 u) fun u2 => f_X2_readTerm_L7 kS FU a1 (0 : Int32) u2
set_option maxHeartbeats 4000000 in
set_option maxRecDepth 100000 in
theorem c_X2_readTerm (l : Launch) (ev : EV) (kS : Int32 → SS → Option SS) (dS : Nat) (hS : ∀ (a : Int32) (v v2 : SS), kS a v = some v2 → MV wdB l yX2_readSum cX2_readSum 4 none dS ev [.ref (ev.2.1 3), .int a] v v2) (a1 : Int32) (u : SS) {u' : SS} (hf : f_X2_readTerm kS a1 u = some u') : MV wdB l yX2_readTerm cX2_readTerm 4 none (dS + 4) ev [.ref (ev.2.1 3), .int a1] u u' := by
  refine bodyV (by decide +kernel) rfl (Nat.le_of_ble_eq_true rfl) ?_
  intro p e s m below meth cd ls H locs hc hr hlk hw hl
  generalize hav : (List.toArray [.ref (ev.2.1 3), .int a1] : Array Value) = av at hc ⊢
  obtain ⟨hx, hb, hml, hown, hts, hK, hZ⟩ := id hc
  have hl : lv_has ls 4 [(0, .ref (ev.2.1 3)), (1, .int a1)] := hl
  have wL39 : ∀ (k7 : Int32 → Int32 → SS → Option SS) (hk7 : ∀ (b1 : Int32) (b2 : Int32) (u : SS) (H : Heap) (locs : List Loc) (ls : Array Slot), VW wdB ev s u H locs → lv_has ls 4 [(0, .ref (ev.2.1 3)), (1, .int b1), (2, .int b2)] → k7 b1 b2 u = some u' → W p l e (rmk (dS + 4)) s m av below meth cd H locs 0 0 (ZV wdB ev s below av u') (F0 m 7 ls [])) (b1 : Int32) (b2 : Int32) (b3 : Int32) (u : SS) (H : Heap) (locs : List Loc) (ls : Array Slot), VW wdB ev s u H locs → lv_has ls 4 [(0, .ref (ev.2.1 3)), (1, .int b1), (2, .int b2), (3, .int b3)] → f_X2_readTerm_L39 kS k7 b1 b2 b3 u = some u' → W p l e (rmk (dS + 4)) s m av below meth cd H locs 0 0 (ZV wdB ev s below av u') (F0 m 39 ls []) := by
    intro k7 hk7 b1 b2 b3 u H locs ls hw hl hf
    unfold f_X2_readTerm_L39 at hf
    refine lv_aload_n hx hb dX2_readTerm_39 rfl (lv_at hl 0 rfl) ?_
    refine lv_dup hx hb dX2_readTerm_40 rfl ?_
    refine gB3_7 hc hw fl_X2_36 dX2_readTerm_41 ?_
    refine lv_iconst (v := (1 : Int32)) hx hb dX2_readTerm_44 (by decide) ?_
    refine lv_iadd hx hb dX2_readTerm_45 ?_
    refine pB3_7 hc hw fl_X2_36 dX2_readTerm_46 (fun H locs hw => ?_)
    obtain ⟨u6, eu6, hf⟩ := lt_some hf
    have hw := VW.nm eu6 hw
    refine lv_aload_n hx hb dX2_readTerm_49 rfl (lv_at hl 0 rfl) ?_
    refine lv_iload_n hx hb dX2_readTerm_50 rfl (lv_at hl 1 rfl) ?_
    obtain ⟨u8, h7, hf⟩ := ov_some hf
    refine endV okB hw (runV_ok (As := [.int b1]) (rest := []) okB hc hw (c_X2_readUnit l ev kS dS hS b1 u6 h7 H.size) kv_X2_readUnit ml_X2_65 (rvB3 ev u6) hl.1 rfl rfl (Nat.le_of_ble_eq_true rfl) (rm_le (by omega) (by decide)) dX2_readTerm_51) (fun H locs hw => ?_)
    refine lv_aload_n hx hb dX2_readTerm_54 rfl (lv_at hl 0 rfl) ?_
    refine lv_iload_n hx hb dX2_readTerm_55 rfl (lv_at hl 3 rfl) ?_
    refine lv_ineg hx hb dX2_readTerm_56 ?_
    obtain ⟨u10, h9, hf⟩ := ov_some hf
    refine endV okB hw (runV_ok (As := [.int (-b3)]) (rest := []) okB hc hw (c_X2_emit l ev (-b3) u8 h9 H.size) kv_X2_emit ml_X2_62 (rvB3 ev u8) hl.1 rfl rfl (Nat.le_of_ble_eq_true rfl) (rm_le (by omega) (by decide)) dX2_readTerm_57) (fun H locs hw => ?_)
    obtain ⟨x11, ex11, hf⟩ := lt_some hf
    refine lv_iinc (v := x11) (lv' := [(2, .int x11), (0, .ref (ev.2.1 3)), (1, .int b1), (3, .int b3)]) hx hb dX2_readTerm_60 hl (k := 2) rfl (by rw [ex11]; rfl) (by decide) rfl (fun ls hl => ?_)
    refine lv_goto (tgt := 7) hx hb dX2_readTerm_63 (by decide) ?_
    exact hk7 b1 x11 u10 H locs ls hw (lv_sub hl [1, 2, 0] rfl) hf
  have wL7 : ∀ (n : Nat) (b1 : Int32) (b2 : Int32) (u : SS) (H : Heap) (locs : List Loc) (ls : Array Slot), VW wdB ev s u H locs → lv_has ls 4 [(0, .ref (ev.2.1 3)), (1, .int b1), (2, .int b2)] → f_X2_readTerm_L7 kS n b1 b2 u = some u' → W p l e (rmk (dS + 4)) s m av below meth cd H locs 0 0 (ZV wdB ev s below av u') (F0 m 7 ls []) := by
    intro n
    induction n with
    | zero =>
      intro b1 b2 u H locs ls hw hl hf
      cases hf
    | succ n hk7 =>
      intro b1 b2 u H locs ls hw hl hf
      have hf : b_X2_readTerm_L7 kS (f_X2_readTerm_L7 kS n) b1 b2 u = some u' := hf
      unfold b_X2_readTerm_L7 at hf
      refine lv_iload_n hx hb dX2_readTerm_7 rfl (lv_at hl 2 rfl) ?_
      refine lv_bipush (v := (80 : Int32)) hx hb dX2_readTerm_8 (by decide) ?_
      refine lv_icmp_ge (tgt := 66) hx hb dX2_readTerm_10 (by decide) (fun z => ?_) (fun z => ?_)
      · have hf := it_pos z hf
        exact retV hc hr hlk hw hf dX2_readTerm_66
      · have hf := it_neg z hf
        refine lv_aload_n hx hb dX2_readTerm_13 rfl (lv_at hl 0 rfl) ?_
        refine gB3_8 hc hw fl_X2_39 dX2_readTerm_14 ?_
        refine lv_iconst (v := (-1 : Int32)) hx hb dX2_readTerm_17 (by decide) ?_
        refine lv_icmp_ne (tgt := 66) hx hb dX2_readTerm_18 (by decide) (fun z => ?_) (fun z => ?_)
        · have hf := it_neg z hf
          exact retV hc hr hlk hw hf dX2_readTerm_66
        · have hf := it_pos z hf
          refine lv_aload_n hx hb dX2_readTerm_21 rfl (lv_at hl 0 rfl) ?_
          obtain ⟨r5, u4, h3, hf⟩ := ob_some hf
          refine endI okB hw (runV_ok (As := []) (rest := []) okB hc hw (c_X2_peek l ev u h3 H.size) kv_X2_peek ml_X2_58 (rvB3 ev u) hl.1 rfl rfl (Nat.le_of_ble_eq_true rfl) (rm_le (by omega) (by decide)) dX2_readTerm_22) (fun H locs hw => ?_)
          refine lv_istore_n (lv' := [(3, .int r5), (0, .ref (ev.2.1 3)), (1, .int b1), (2, .int b2)]) hx hb dX2_readTerm_25 rfl hl (by decide) rfl (fun ls hl => ?_)
          refine lv_iload_n hx hb dX2_readTerm_26 rfl (lv_at hl 0 rfl) ?_
          refine lv_bipush (v := (42 : Int32)) hx hb dX2_readTerm_27 (by decide) ?_
          refine lv_icmp_eq (tgt := 39) hx hb dX2_readTerm_29 (by decide) (fun z => ?_) (fun z => ?_)
          · have hf := it_pos z hf
            exact wL39 (f_X2_readTerm_L7 kS n) hk7 b1 b2 r5 u4 H locs ls hw (lv_sub hl [1, 2, 3, 0] rfl) hf
          · have hf := it_neg z hf
            refine lv_iload_n hx hb dX2_readTerm_32 rfl (lv_at hl 0 rfl) ?_
            refine lv_bipush (v := (47 : Int32)) hx hb dX2_readTerm_33 (by decide) ?_
            refine lv_icmp_eq (tgt := 39) hx hb dX2_readTerm_35 (by decide) (fun z => ?_) (fun z => ?_)
            · have hf := it_pos z hf
              exact wL39 (f_X2_readTerm_L7 kS n) hk7 b1 b2 r5 u4 H locs ls hw (lv_sub hl [1, 2, 3, 0] rfl) hf
            · have hf := it_neg z hf
              exact retV hc hr hlk hw hf dX2_readTerm_38
  unfold f_X2_readTerm at hf
  refine lv_aload_n hx hb dX2_readTerm_0 rfl (lv_at hl 0 rfl) ?_
  refine lv_iload_n hx hb dX2_readTerm_1 rfl (lv_at hl 1 rfl) ?_
  obtain ⟨u2, h1, hf⟩ := ov_some hf
  refine endV okB hw (runV_ok (As := [.int a1]) (rest := []) okB hc hw (c_X2_readUnit l ev kS dS hS a1 u h1 H.size) kv_X2_readUnit ml_X2_65 (rvB3 ev u) hl.1 rfl rfl (Nat.le_of_ble_eq_true rfl) (rm_le (by omega) (by decide)) dX2_readTerm_2) (fun H locs hw => ?_)
  refine lv_iconst (v := (0 : Int32)) hx hb dX2_readTerm_5 (by decide) ?_
  refine lv_istore_n (lv' := [(2, .int (0 : Int32)), (0, .ref (ev.2.1 3)), (1, .int a1)]) hx hb dX2_readTerm_6 rfl hl (by decide) rfl (fun ls hl => ?_)
  exact wL7 FU a1 (0 : Int32) u2 H locs ls hw (lv_sub hl [1, 2, 0] rfl) hf
def f_X2_readSum_L39 (kS : Int32 → SS → Option SS) (k7 : Int32 → Int32 → SS → Option SS) (b1 : Int32) (b2 : Int32) (b3 : Int32) (u : SS) : Option SS :=
  lt (sI u 8 ((gI u 8) + (1 : Int32))) fun u6 => ov (f_X2_readTerm kS b1 u6) fun u8 => ov (f_X2_emit (-b3) u8) fun u10 => lt (b2 + (1 : Int32)) fun x11 => k7 b1 x11 u10
def b_X2_readSum_L7 (kS : Int32 → SS → Option SS) (k7 : Int32 → Int32 → SS → Option SS) (b1 : Int32) (b2 : Int32) (u : SS) : Option SS :=
  if (80 : Int32) ≤ b2 then (some u) else (if (gI u 9) = (-1 : Int32) then (ob (f_X2_peek u) fun r5 u4 => if r5 = (43 : Int32) then (f_X2_readSum_L39 kS k7 b1 b2 r5 u4) else (if r5 = (45 : Int32) then (f_X2_readSum_L39 kS k7 b1 b2 r5 u4) else (some u4))) else (some u))
def f_X2_readSum_L7 (kS : Int32 → SS → Option SS) : Nat → Int32 → Int32 → SS → Option SS
  | 0 => fun _ _ _ => none
  | n + 1 => b_X2_readSum_L7 kS (f_X2_readSum_L7 kS n)
def f_X2_readSum (kS : Int32 → SS → Option SS) (a1 : Int32) (u : SS) : Option SS :=
  ov (f_X2_readTerm kS a1 u) fun u2 => f_X2_readSum_L7 kS FU a1 (0 : Int32) u2
set_option maxHeartbeats 4000000 in
set_option maxRecDepth 100000 in
theorem c_X2_readSum (l : Launch) (ev : EV) (kS : Int32 → SS → Option SS) (dS : Nat) (hS : ∀ (a : Int32) (v v2 : SS), kS a v = some v2 → MV wdB l yX2_readSum cX2_readSum 4 none dS ev [.ref (ev.2.1 3), .int a] v v2) (a1 : Int32) (u : SS) {u' : SS} (hf : f_X2_readSum kS a1 u = some u') : MV wdB l yX2_readSum cX2_readSum 4 none (dS + 5) ev [.ref (ev.2.1 3), .int a1] u u' := by
  refine bodyV (by decide +kernel) rfl (Nat.le_of_ble_eq_true rfl) ?_
  intro p e s m below meth cd ls H locs hc hr hlk hw hl
  generalize hav : (List.toArray [.ref (ev.2.1 3), .int a1] : Array Value) = av at hc ⊢
  obtain ⟨hx, hb, hml, hown, hts, hK, hZ⟩ := id hc
  have hl : lv_has ls 4 [(0, .ref (ev.2.1 3)), (1, .int a1)] := hl
  have wL39 : ∀ (k7 : Int32 → Int32 → SS → Option SS) (hk7 : ∀ (b1 : Int32) (b2 : Int32) (u : SS) (H : Heap) (locs : List Loc) (ls : Array Slot), VW wdB ev s u H locs → lv_has ls 4 [(0, .ref (ev.2.1 3)), (1, .int b1), (2, .int b2)] → k7 b1 b2 u = some u' → W p l e (rmk (dS + 5)) s m av below meth cd H locs 0 0 (ZV wdB ev s below av u') (F0 m 7 ls [])) (b1 : Int32) (b2 : Int32) (b3 : Int32) (u : SS) (H : Heap) (locs : List Loc) (ls : Array Slot), VW wdB ev s u H locs → lv_has ls 4 [(0, .ref (ev.2.1 3)), (1, .int b1), (2, .int b2), (3, .int b3)] → f_X2_readSum_L39 kS k7 b1 b2 b3 u = some u' → W p l e (rmk (dS + 5)) s m av below meth cd H locs 0 0 (ZV wdB ev s below av u') (F0 m 39 ls []) := by
    intro k7 hk7 b1 b2 b3 u H locs ls hw hl hf
    unfold f_X2_readSum_L39 at hf
    refine lv_aload_n hx hb dX2_readSum_39 rfl (lv_at hl 0 rfl) ?_
    refine lv_dup hx hb dX2_readSum_40 rfl ?_
    refine gB3_7 hc hw fl_X2_36 dX2_readSum_41 ?_
    refine lv_iconst (v := (1 : Int32)) hx hb dX2_readSum_44 (by decide) ?_
    refine lv_iadd hx hb dX2_readSum_45 ?_
    refine pB3_7 hc hw fl_X2_36 dX2_readSum_46 (fun H locs hw => ?_)
    obtain ⟨u6, eu6, hf⟩ := lt_some hf
    have hw := VW.nm eu6 hw
    refine lv_aload_n hx hb dX2_readSum_49 rfl (lv_at hl 0 rfl) ?_
    refine lv_iload_n hx hb dX2_readSum_50 rfl (lv_at hl 1 rfl) ?_
    obtain ⟨u8, h7, hf⟩ := ov_some hf
    refine endV okB hw (runV_ok (As := [.int b1]) (rest := []) okB hc hw (c_X2_readTerm l ev kS dS hS b1 u6 h7 H.size) kv_X2_readTerm ml_X2_55 (rvB3 ev u6) hl.1 rfl rfl (Nat.le_of_ble_eq_true rfl) (rm_le (by omega) (by decide)) dX2_readSum_51) (fun H locs hw => ?_)
    refine lv_aload_n hx hb dX2_readSum_54 rfl (lv_at hl 0 rfl) ?_
    refine lv_iload_n hx hb dX2_readSum_55 rfl (lv_at hl 3 rfl) ?_
    refine lv_ineg hx hb dX2_readSum_56 ?_
    obtain ⟨u10, h9, hf⟩ := ov_some hf
    refine endV okB hw (runV_ok (As := [.int (-b3)]) (rest := []) okB hc hw (c_X2_emit l ev (-b3) u8 h9 H.size) kv_X2_emit ml_X2_62 (rvB3 ev u8) hl.1 rfl rfl (Nat.le_of_ble_eq_true rfl) (rm_le (by omega) (by decide)) dX2_readSum_57) (fun H locs hw => ?_)
    obtain ⟨x11, ex11, hf⟩ := lt_some hf
    refine lv_iinc (v := x11) (lv' := [(2, .int x11), (0, .ref (ev.2.1 3)), (1, .int b1), (3, .int b3)]) hx hb dX2_readSum_60 hl (k := 2) rfl (by rw [ex11]; rfl) (by decide) rfl (fun ls hl => ?_)
    refine lv_goto (tgt := 7) hx hb dX2_readSum_63 (by decide) ?_
    exact hk7 b1 x11 u10 H locs ls hw (lv_sub hl [1, 2, 0] rfl) hf
  have wL7 : ∀ (n : Nat) (b1 : Int32) (b2 : Int32) (u : SS) (H : Heap) (locs : List Loc) (ls : Array Slot), VW wdB ev s u H locs → lv_has ls 4 [(0, .ref (ev.2.1 3)), (1, .int b1), (2, .int b2)] → f_X2_readSum_L7 kS n b1 b2 u = some u' → W p l e (rmk (dS + 5)) s m av below meth cd H locs 0 0 (ZV wdB ev s below av u') (F0 m 7 ls []) := by
    intro n
    induction n with
    | zero =>
      intro b1 b2 u H locs ls hw hl hf
      cases hf
    | succ n hk7 =>
      intro b1 b2 u H locs ls hw hl hf
      have hf : b_X2_readSum_L7 kS (f_X2_readSum_L7 kS n) b1 b2 u = some u' := hf
      unfold b_X2_readSum_L7 at hf
      refine lv_iload_n hx hb dX2_readSum_7 rfl (lv_at hl 2 rfl) ?_
      refine lv_bipush (v := (80 : Int32)) hx hb dX2_readSum_8 (by decide) ?_
      refine lv_icmp_ge (tgt := 66) hx hb dX2_readSum_10 (by decide) (fun z => ?_) (fun z => ?_)
      · have hf := it_pos z hf
        exact retV hc hr hlk hw hf dX2_readSum_66
      · have hf := it_neg z hf
        refine lv_aload_n hx hb dX2_readSum_13 rfl (lv_at hl 0 rfl) ?_
        refine gB3_8 hc hw fl_X2_39 dX2_readSum_14 ?_
        refine lv_iconst (v := (-1 : Int32)) hx hb dX2_readSum_17 (by decide) ?_
        refine lv_icmp_ne (tgt := 66) hx hb dX2_readSum_18 (by decide) (fun z => ?_) (fun z => ?_)
        · have hf := it_neg z hf
          exact retV hc hr hlk hw hf dX2_readSum_66
        · have hf := it_pos z hf
          refine lv_aload_n hx hb dX2_readSum_21 rfl (lv_at hl 0 rfl) ?_
          obtain ⟨r5, u4, h3, hf⟩ := ob_some hf
          refine endI okB hw (runV_ok (As := []) (rest := []) okB hc hw (c_X2_peek l ev u h3 H.size) kv_X2_peek ml_X2_58 (rvB3 ev u) hl.1 rfl rfl (Nat.le_of_ble_eq_true rfl) (rm_le (by omega) (by decide)) dX2_readSum_22) (fun H locs hw => ?_)
          refine lv_istore_n (lv' := [(3, .int r5), (0, .ref (ev.2.1 3)), (1, .int b1), (2, .int b2)]) hx hb dX2_readSum_25 rfl hl (by decide) rfl (fun ls hl => ?_)
          refine lv_iload_n hx hb dX2_readSum_26 rfl (lv_at hl 0 rfl) ?_
          refine lv_bipush (v := (43 : Int32)) hx hb dX2_readSum_27 (by decide) ?_
          refine lv_icmp_eq (tgt := 39) hx hb dX2_readSum_29 (by decide) (fun z => ?_) (fun z => ?_)
          · have hf := it_pos z hf
            exact wL39 (f_X2_readSum_L7 kS n) hk7 b1 b2 r5 u4 H locs ls hw (lv_sub hl [1, 2, 3, 0] rfl) hf
          · have hf := it_neg z hf
            refine lv_iload_n hx hb dX2_readSum_32 rfl (lv_at hl 0 rfl) ?_
            refine lv_bipush (v := (45 : Int32)) hx hb dX2_readSum_33 (by decide) ?_
            refine lv_icmp_eq (tgt := 39) hx hb dX2_readSum_35 (by decide) (fun z => ?_) (fun z => ?_)
            · have hf := it_pos z hf
              exact wL39 (f_X2_readSum_L7 kS n) hk7 b1 b2 r5 u4 H locs ls hw (lv_sub hl [1, 2, 3, 0] rfl) hf
            · have hf := it_neg z hf
              exact retV hc hr hlk hw hf dX2_readSum_38
  unfold f_X2_readSum at hf
  refine lv_aload_n hx hb dX2_readSum_0 rfl (lv_at hl 0 rfl) ?_
  refine lv_iload_n hx hb dX2_readSum_1 rfl (lv_at hl 1 rfl) ?_
  obtain ⟨u2, h1, hf⟩ := ov_some hf
  refine endV okB hw (runV_ok (As := [.int a1]) (rest := []) okB hc hw (c_X2_readTerm l ev kS dS hS a1 u h1 H.size) kv_X2_readTerm ml_X2_55 (rvB3 ev u) hl.1 rfl rfl (Nat.le_of_ble_eq_true rfl) (rm_le (by omega) (by decide)) dX2_readSum_2) (fun H locs hw => ?_)
  refine lv_iconst (v := (0 : Int32)) hx hb dX2_readSum_5 (by decide) ?_
  refine lv_istore_n (lv' := [(2, .int (0 : Int32)), (0, .ref (ev.2.1 3)), (1, .int a1)]) hx hb dX2_readSum_6 rfl hl (by decide) rfl (fun ls hl => ?_)
  exact wL7 FU a1 (0 : Int32) u2 H locs ls hw (lv_sub hl [1, 2, 0] rfl) hf
def fr_X2_readSum : Nat → Int32 → SS → Option SS
  | 0 => fun _ _ => none
  | n + 1 => f_X2_readSum (fr_X2_readSum n)
theorem cr_X2_readSum (l : Launch) (ev : EV) (n : Nat) : ∀ (a : Int32) (v v2 : SS), fr_X2_readSum n a v = some v2 → MV wdB l yX2_readSum cX2_readSum 4 none (5 * n) ev [.ref (ev.2.1 3), .int a] v v2 := by
  induction n with
  | zero => intro a v v2 h; cases h
  | succ n ih =>
    intro a v v2 h
    exact c_X2_readSum l ev (fr_X2_readSum n) (5 * n) ih a v h
def f_X2_readTape_L40 (u : SS) : Option (Int32 × SS) :=
  lt (sI u 5 (0 : Int32)) fun u7 => if (gI u7 9) = (-1 : Int32) then (if (gI u7 6) < 0 then none else if ¬ (gI u7 6).toNatClampNeg ≤ 80 then none else lt (cpA u7 15 13 (gI u7 6)) fun u8 => lt (sI u8 4 (gI u8 6)) fun u9 => some ((gI u9 7), u9)) else (some (((-20 : Int32) - (gI u7 9)), u7))
def f_X2_readTape (u : SS) : Option (Int32 × SS) :=
  lt (sI u 6 (0 : Int32)) fun u1 => lt (sI u1 7 (0 : Int32)) fun u2 => lt (sI u2 8 (0 : Int32)) fun u3 => lt (sI u3 9 (-1 : Int32)) fun u4 => ov (fr_X2_readSum 10 (0 : Int32) u4) fun u6 => if (gI u6 5) ≤ (gI u6 8) then (f_X2_readTape_L40 u6) else (ov (f_X2_findFault u6) fun u11 => f_X2_readTape_L40 u11)
set_option maxHeartbeats 4000000 in
set_option maxRecDepth 100000 in
theorem c_X2_readTape (l : Launch) (ev : EV) (u : SS) {r : Int32} {u' : SS} (hf : f_X2_readTape  u = some (r, u')) : MI wdB l yX2_readTape cX2_readTape 1 (some .int) 51 ev [.ref (ev.2.1 3)] u r u' := by
  refine bodyI (by decide +kernel) rfl (Nat.le_of_ble_eq_true rfl) ?_
  intro p e s m below meth cd ls H locs hc hr hlk hw hl
  generalize hav : (List.toArray [.ref (ev.2.1 3)] : Array Value) = av at hc ⊢
  obtain ⟨hx, hb, hml, hown, hts, hK, hZ⟩ := id hc
  have hl : lv_has ls 1 [(0, .ref (ev.2.1 3))] := hl
  have wL40 : ∀ (u : SS) (H : Heap) (locs : List Loc) (ls : Array Slot), VW wdB ev s u H locs → lv_has ls 1 [(0, .ref (ev.2.1 3))] → f_X2_readTape_L40  u = some (r, u') → W p l e (rmk 51) s m av below meth cd H locs 0 0 (ZI wdB ev s below av r u') (F0 m 40 ls []) := by
    intro  u H locs ls hw hl hf
    unfold f_X2_readTape_L40 at hf
    refine lv_aload_n hx hb dX2_readTape_40 rfl (lv_at hl 0 rfl) ?_
    refine lv_iconst (v := (0 : Int32)) hx hb dX2_readTape_41 (by decide) ?_
    refine pB3_2 hc hw fl_X2_25 dX2_readTape_42 (fun H locs hw => ?_)
    obtain ⟨u7, eu7, hf⟩ := lt_some hf
    have hw := VW.nm eu7 hw
    refine lv_aload_n hx hb dX2_readTape_45 rfl (lv_at hl 0 rfl) ?_
    refine gB3_8 hc hw fl_X2_39 dX2_readTape_46 ?_
    refine lv_iconst (v := (-1 : Int32)) hx hb dX2_readTape_49 (by decide) ?_
    refine lv_icmp_eq (tgt := 61) hx hb dX2_readTape_50 (by decide) (fun z => ?_) (fun z => ?_)
    · have hf := it_pos z hf
      refine lv_aload_n hx hb dX2_readTape_61 rfl (lv_at hl 0 rfl) ?_
      refine gB3_4 hc hw fl_X2_22 dX2_readTape_62 ?_
      refine lv_iconst (v := (0 : Int32)) hx hb dX2_readTape_65 (by decide) ?_
      refine lv_aload_n hx hb dX2_readTape_66 rfl (lv_at hl 0 rfl) ?_
      refine gB3_0 hc hw fl_X2_9 dX2_readTape_67 ?_
      refine lv_iconst (v := (0 : Int32)) hx hb dX2_readTape_70 (by decide) ?_
      refine lv_aload_n hx hb dX2_readTape_71 rfl (lv_at hl 0 rfl) ?_
      refine gB3_5 hc hw fl_X2_30 dX2_readTape_72 ?_
      obtain ⟨z, hf⟩ := it_none hf
      obtain ⟨z2, hf⟩ := it_none hf
      refine cpB hc hw hl.1 ml_X2_49 z z2 (by decide) (by decide) dX2_readTape_75 (fun H locs hw => ?_)
      obtain ⟨u8, eu8, hf⟩ := lt_some hf
      have hw := VW.nm eu8 hw
      refine lv_aload_n hx hb dX2_readTape_78 rfl (lv_at hl 0 rfl) ?_
      refine lv_aload_n hx hb dX2_readTape_79 rfl (lv_at hl 0 rfl) ?_
      refine gB3_5 hc hw fl_X2_30 dX2_readTape_80 ?_
      refine pB3_1 hc hw fl_X2_15 dX2_readTape_83 (fun H locs hw => ?_)
      obtain ⟨u9, eu9, hf⟩ := lt_some hf
      have hw := VW.nm eu9 hw
      refine lv_aload_n hx hb dX2_readTape_86 rfl (lv_at hl 0 rfl) ?_
      refine gB3_6 hc hw fl_X2_33 dX2_readTape_87 ?_
      exact retI hc hr hlk hw hf dX2_readTape_90
    · have hf := it_neg z hf
      refine lv_bipush (v := (-20 : Int32)) hx hb dX2_readTape_53 (by decide) ?_
      refine lv_aload_n hx hb dX2_readTape_55 rfl (lv_at hl 0 rfl) ?_
      refine gB3_8 hc hw fl_X2_39 dX2_readTape_56 ?_
      refine lv_isub hx hb dX2_readTape_59 ?_
      exact retI hc hr hlk hw hf dX2_readTape_60
  unfold f_X2_readTape at hf
  refine lv_aload_n hx hb dX2_readTape_0 rfl (lv_at hl 0 rfl) ?_
  refine lv_iconst (v := (0 : Int32)) hx hb dX2_readTape_1 (by decide) ?_
  refine pB3_5 hc hw fl_X2_30 dX2_readTape_2 (fun H locs hw => ?_)
  obtain ⟨u1, eu1, hf⟩ := lt_some hf
  have hw := VW.nm eu1 hw
  refine lv_aload_n hx hb dX2_readTape_5 rfl (lv_at hl 0 rfl) ?_
  refine lv_iconst (v := (0 : Int32)) hx hb dX2_readTape_6 (by decide) ?_
  refine pB3_6 hc hw fl_X2_33 dX2_readTape_7 (fun H locs hw => ?_)
  obtain ⟨u2, eu2, hf⟩ := lt_some hf
  have hw := VW.nm eu2 hw
  refine lv_aload_n hx hb dX2_readTape_10 rfl (lv_at hl 0 rfl) ?_
  refine lv_iconst (v := (0 : Int32)) hx hb dX2_readTape_11 (by decide) ?_
  refine pB3_7 hc hw fl_X2_36 dX2_readTape_12 (fun H locs hw => ?_)
  obtain ⟨u3, eu3, hf⟩ := lt_some hf
  have hw := VW.nm eu3 hw
  refine lv_aload_n hx hb dX2_readTape_15 rfl (lv_at hl 0 rfl) ?_
  refine lv_iconst (v := (-1 : Int32)) hx hb dX2_readTape_16 (by decide) ?_
  refine pB3_8 hc hw fl_X2_39 dX2_readTape_17 (fun H locs hw => ?_)
  obtain ⟨u4, eu4, hf⟩ := lt_some hf
  have hw := VW.nm eu4 hw
  refine lv_aload_n hx hb dX2_readTape_20 rfl (lv_at hl 0 rfl) ?_
  refine lv_iconst (v := (0 : Int32)) hx hb dX2_readTape_21 (by decide) ?_
  obtain ⟨u6, h5, hf⟩ := ov_some hf
  refine endV okB hw (runV_ok (As := [.int (0 : Int32)]) (rest := []) okB hc hw (cr_X2_readSum l ev 10 (0 : Int32) u4 _ h5 H.size) kv_X2_readSum ml_X2_42 (rvB3 ev u4) hl.1 rfl rfl (Nat.le_of_ble_eq_true rfl) (rm_le (by decide) (by decide)) dX2_readTape_22) (fun H locs hw => ?_)
  refine lv_aload_n hx hb dX2_readTape_25 rfl (lv_at hl 0 rfl) ?_
  refine gB3_7 hc hw fl_X2_36 dX2_readTape_26 ?_
  refine lv_aload_n hx hb dX2_readTape_29 rfl (lv_at hl 0 rfl) ?_
  refine gB3_2 hc hw fl_X2_25 dX2_readTape_30 ?_
  refine lv_icmp_ge (tgt := 40) hx hb dX2_readTape_33 (by decide) (fun z => ?_) (fun z => ?_)
  · have hf := it_pos z hf
    exact wL40 u6 H locs ls hw (lv_sub hl [0] rfl) hf
  · have hf := it_neg z hf
    refine lv_aload_n hx hb dX2_readTape_36 rfl (lv_at hl 0 rfl) ?_
    obtain ⟨u11, h10, hf⟩ := ov_some hf
    refine endV okB hw (runV_ok (As := []) (rest := []) okB hc hw (c_X2_findFault l ev u6 h10 H.size) kv_X2_findFault ml_X2_46 (rvB3 ev u6) hl.1 rfl rfl (Nat.le_of_ble_eq_true rfl) (rm_le (by decide) (by decide)) dX2_readTape_37) (fun H locs hw => ?_)
    exact wL40 u11 H locs ls hw (lv_sub hl [0] rfl) hf
def f_X9_formula (u : SS) : Option (Int32 × SS) :=
  ob (f_X2_readTape u) fun r3 u2 => some (r3, u2)
set_option maxHeartbeats 4000000 in
set_option maxRecDepth 100000 in
theorem c_X9_formula (l : Launch) (ev : EV) (u : SS) {r : Int32} {u' : SS} (hf : f_X9_formula  u = some (r, u')) : MI wdB l yX9_formula cX9_formula 1 (some .int) 52 ev [.ref (ev.2.1 0)] u r u' := by
  refine bodyI (by decide +kernel) rfl (Nat.le_of_ble_eq_true rfl) ?_
  intro p e s m below meth cd ls H locs hc hr hlk hw hl
  generalize hav : (List.toArray [.ref (ev.2.1 0)] : Array Value) = av at hc ⊢
  obtain ⟨hx, hb, hml, hown, hts, hK, hZ⟩ := id hc
  have hl : lv_has ls 1 [(0, .ref (ev.2.1 0))] := hl
  unfold f_X9_formula at hf
  refine lv_aload_n hx hb dX9_formula_0 rfl (lv_at hl 0 rfl) ?_
  refine gB0_2 hc hw fl_X9_26 dX9_formula_1 ?_
  obtain ⟨r3, u2, h1, hf⟩ := ob_some hf
  refine endI okB hw (runV_ok (As := []) (rest := []) okB hc hw (c_X2_readTape l ev u h1 H.size) kv_X2_readTape ml_X9_172 (rvB3 ev u) hl.1 rfl rfl (Nat.le_of_ble_eq_true rfl) (rm_le (by decide) (by decide)) dX9_formula_4) (fun H locs hw => ?_)
  exact retI hc hr hlk hw hf dX9_formula_7
def f_X7_operate_L264 (b2 : Int32) (b3 : Int32) (u : SS) : Option SS :=
  oi b3 80 (lt (tL u 4 b3 (gJ u 6)) fun u9 => oi b3 80 (lt (tL u9 5 b3 (gJ u9 7)) fun u10 => lt (sI u10 11 b2) fun u11 => some u11))
def f_X7_operate_L261 (b2 : Int32) (b3 : Int32) (q0 : Int64) (q1 : Int64) (u : SS) : Option SS :=
  ov (f_X3_put q1 q0 u) fun u8 => f_X7_operate_L264 b2 b3 u8
def f_X7_operate_L249 (b2 : Int32) (b3 : Int32) (b6 : Int64) (b10 : Int64) (b12 : Int32) (q0 : Int64) (u : SS) : Option SS :=
  if b12 = 0 then (f_X7_operate_L261 b2 b3 b10 q0 u) else (f_X7_operate_L261 b2 b3 b6 q0 u)
def f_X7_operate_L231 (b2 : Int32) (b3 : Int32) (b4 : Int64) (b6 : Int64) (b8 : Int64) (b10 : Int64) (q0 : Int32) (u : SS) : Option SS :=
  if q0 = 0 then (f_X7_operate_L249 b2 b3 b6 b10 q0 b8 u) else (f_X7_operate_L249 b2 b3 b6 b10 q0 b4 u)
def f_X7_operate (a1 : Int32) (u : SS) : Option SS :=
  lt ((gI u 11) - (1 : Int32)) fun x1 => lt ((gI u 11) - (2 : Int32)) fun x2 => if 0 ≤ x2 then (oi x2 80 (lt (gL u 4 x2.toNatClampNeg) fun x3 => oi x2 80 (lt (gL u 5 x2.toNatClampNeg) fun x4 => oi x1 80 (lt (gL u 4 x1.toNatClampNeg) fun x5 => oi x1 80 (lt (gL u 5 x1.toNatClampNeg) fun x6 => if a1.toInt < 42 ∨ 47 < a1.toInt then (if a1 = (60 : Int32) then (if 0 < (lg_cmp (x3 * x6) (x5 * x4)) then (f_X7_operate_L231 x1 x2 x3 x4 x5 x6 (0 : Int32) u) else (f_X7_operate_L231 x1 x2 x3 x4 x5 x6 (1 : Int32) u)) else (if (lg_cmp (x3 * x6) (x5 * x4)) < 0 then (f_X7_operate_L231 x1 x2 x3 x4 x5 x6 (0 : Int32) u) else (f_X7_operate_L231 x1 x2 x3 x4 x5 x6 (1 : Int32) u))) else if a1 = (42 : Int32) then (ov (f_X3_put (x3 * x5) (x4 * x6) u) fun u13 => f_X7_operate_L264 x1 x2 u13) else if a1 = (43 : Int32) then (ov (f_X3_put ((x3 * x6) + (x5 * x4)) (x4 * x6) u) fun u15 => f_X7_operate_L264 x1 x2 u15) else if a1 = (44 : Int32) then (if a1 = (60 : Int32) then (if 0 < (lg_cmp (x3 * x6) (x5 * x4)) then (f_X7_operate_L231 x1 x2 x3 x4 x5 x6 (0 : Int32) u) else (f_X7_operate_L231 x1 x2 x3 x4 x5 x6 (1 : Int32) u)) else (if (lg_cmp (x3 * x6) (x5 * x4)) < 0 then (f_X7_operate_L231 x1 x2 x3 x4 x5 x6 (0 : Int32) u) else (f_X7_operate_L231 x1 x2 x3 x4 x5 x6 (1 : Int32) u))) else if a1 = (45 : Int32) then (ov (f_X3_put ((x3 * x6) - (x5 * x4)) (x4 * x6) u) fun u17 => f_X7_operate_L264 x1 x2 u17) else if a1 = (46 : Int32) then (if a1 = (60 : Int32) then (if 0 < (lg_cmp (x3 * x6) (x5 * x4)) then (f_X7_operate_L231 x1 x2 x3 x4 x5 x6 (0 : Int32) u) else (f_X7_operate_L231 x1 x2 x3 x4 x5 x6 (1 : Int32) u)) else (if (lg_cmp (x3 * x6) (x5 * x4)) < 0 then (f_X7_operate_L231 x1 x2 x3 x4 x5 x6 (0 : Int32) u) else (f_X7_operate_L231 x1 x2 x3 x4 x5 x6 (1 : Int32) u))) else if a1 = (47 : Int32) then (ov (f_X3_put (x3 * x6) (x4 * x5) u) fun u19 => f_X7_operate_L264 x1 x2 u19) else none))))) else (some u)
set_option maxHeartbeats 4000000 in
set_option maxRecDepth 100000 in
theorem c_X7_operate (l : Launch) (ev : EV) (a1 : Int32) (u : SS) {u' : SS} (hf : f_X7_operate a1 u = some u') : MV wdB l yX7_operate cX7_operate 13 none 2 ev [.ref (ev.2.1 4), .int a1] u u' := by
  refine bodyV (by decide +kernel) rfl (Nat.le_of_ble_eq_true rfl) ?_
  intro p e s m below meth cd ls H locs hc hr hlk hw hl
  generalize hav : (List.toArray [.ref (ev.2.1 4), .int a1] : Array Value) = av at hc ⊢
  obtain ⟨hx, hb, hml, hown, hts, hK, hZ⟩ := id hc
  have hl : lv_has ls 13 [(0, .ref (ev.2.1 4)), (1, .int a1)] := hl
  have wL264 : ∀ (b2 : Int32) (b3 : Int32) (u : SS) (H : Heap) (locs : List Loc) (ls : Array Slot), VW wdB ev s u H locs → lv_has ls 13 [(0, .ref (ev.2.1 4)), (2, .int b2), (3, .int b3)] → f_X7_operate_L264 b2 b3 u = some u' → W p l e (rmk 2) s m av below meth cd H locs 0 0 (ZV wdB ev s below av u') (F0 m 264 ls []) := by
    intro b2 b3 u H locs ls hw hl hf
    unfold f_X7_operate_L264 at hf
    refine lv_aload_n hx hb dX7_operate_264 rfl (lv_at hl 0 rfl) ?_
    refine gB4_10 hc hw fl_X7_45 dX7_operate_265 ?_
    refine lv_iload_n hx hb dX7_operate_268 rfl (lv_at hl 2 rfl) ?_
    refine lv_aload_n hx hb dX7_operate_269 rfl (lv_at hl 0 rfl) ?_
    refine gB4_0 hc hw fl_X7_12 dX7_operate_270 ?_
    refine gB8_0 hc hw fl_X7_78 dX7_operate_273 ?_
    obtain ⟨z, hf⟩ := oi_some hf
    refine tB33 hc hw z dX7_operate_276 (fun H locs hw => ?_)
    obtain ⟨u9, eu9, hf⟩ := lt_some hf
    have hw := VW.nm eu9 hw
    refine lv_aload_n hx hb dX7_operate_277 rfl (lv_at hl 0 rfl) ?_
    refine gB4_11 hc hw fl_X7_48 dX7_operate_278 ?_
    refine lv_iload_n hx hb dX7_operate_281 rfl (lv_at hl 2 rfl) ?_
    refine lv_aload_n hx hb dX7_operate_282 rfl (lv_at hl 0 rfl) ?_
    refine gB4_0 hc hw fl_X7_12 dX7_operate_283 ?_
    refine gB8_1 hc hw fl_X7_82 dX7_operate_286 ?_
    obtain ⟨z, hf⟩ := oi_some hf
    refine tB34 hc hw z dX7_operate_289 (fun H locs hw => ?_)
    obtain ⟨u10, eu10, hf⟩ := lt_some hf
    have hw := VW.nm eu10 hw
    refine lv_aload_n hx hb dX7_operate_290 rfl (lv_at hl 0 rfl) ?_
    refine lv_iload_n hx hb dX7_operate_291 rfl (lv_at hl 1 rfl) ?_
    refine pB4_12 hc hw fl_X7_143 dX7_operate_292 (fun H locs hw => ?_)
    obtain ⟨u11, eu11, hf⟩ := lt_some hf
    have hw := VW.nm eu11 hw
    exact retV hc hr hlk hw hf dX7_operate_295
  have wL261 : ∀ (b2 : Int32) (b3 : Int32) (q0 : Int64) (q1 : Int64) (u : SS) (H : Heap) (locs : List Loc) (ls : Array Slot), VW wdB ev s u H locs → lv_has ls 13 [(0, .ref (ev.2.1 4)), (2, .int b2), (3, .int b3)] → f_X7_operate_L261 b2 b3 q0 q1 u = some u' → W p l e (rmk 2) s m av below meth cd H locs 0 0 (ZV wdB ev s below av u') (F0 m 261 ls [.long q0, .long q1, .ref (ev.2.1 8)]) := by
    intro b2 b3 q0 q1 u H locs ls hw hl hf
    unfold f_X7_operate_L261 at hf
    obtain ⟨u8, h7, hf⟩ := ov_some hf
    refine endV okB hw (runV_ok (As := [.long q1, .long q0]) (rest := []) okB hc hw (c_X3_put l ev q1 q0 u h7 H.size) kv_X3_put ml_X7_119 (rvB8 ev u) hl.1 rfl rfl (Nat.le_of_ble_eq_true rfl) (rm_le (by decide) (by decide)) dX7_operate_261) (fun H locs hw => ?_)
    exact wL264 b2 b3 u8 H locs ls hw (lv_sub hl [0, 1, 2] rfl) hf
  have wL249 : ∀ (b2 : Int32) (b3 : Int32) (b6 : Int64) (b10 : Int64) (b12 : Int32) (q0 : Int64) (u : SS) (H : Heap) (locs : List Loc) (ls : Array Slot), VW wdB ev s u H locs → lv_has ls 13 [(0, .ref (ev.2.1 4)), (2, .int b2), (3, .int b3), (6, .long b6), (10, .long b10), (12, .int b12)] → f_X7_operate_L249 b2 b3 b6 b10 b12 q0 u = some u' → W p l e (rmk 2) s m av below meth cd H locs 0 0 (ZV wdB ev s below av u') (F0 m 249 ls [.long q0, .ref (ev.2.1 8)]) := by
    intro b2 b3 b6 b10 b12 q0 u H locs ls hw hl hf
    unfold f_X7_operate_L249 at hf
    refine lv_iload hx hb dX7_operate_249 (lv_at hl 5 rfl) ?_
    refine lv_if_eq (tgt := 259) hx hb dX7_operate_251 (by decide) (fun z => ?_) (fun z => ?_)
    · have hf := it_pos z hf
      refine lv_lload hx hb dX7_operate_259 (lv_at hl 4 rfl) ?_
      exact wL261 b2 b3 b10 q0 u H locs ls hw (lv_sub hl [0, 1, 2] rfl) hf
    · have hf := it_neg z hf
      refine lv_lload hx hb dX7_operate_254 (lv_at hl 3 rfl) ?_
      refine lv_goto (tgt := 261) hx hb dX7_operate_256 (by decide) ?_
      exact wL261 b2 b3 b6 q0 u H locs ls hw (lv_sub hl [0, 1, 2] rfl) hf
  have wL231 : ∀ (b2 : Int32) (b3 : Int32) (b4 : Int64) (b6 : Int64) (b8 : Int64) (b10 : Int64) (q0 : Int32) (u : SS) (H : Heap) (locs : List Loc) (ls : Array Slot), VW wdB ev s u H locs → lv_has ls 13 [(0, .ref (ev.2.1 4)), (2, .int b2), (3, .int b3), (4, .long b4), (6, .long b6), (8, .long b8), (10, .long b10)] → f_X7_operate_L231 b2 b3 b4 b6 b8 b10 q0 u = some u' → W p l e (rmk 2) s m av below meth cd H locs 0 0 (ZV wdB ev s below av u') (F0 m 231 ls [.int q0]) := by
    intro b2 b3 b4 b6 b8 b10 q0 u H locs ls hw hl hf
    unfold f_X7_operate_L231 at hf
    refine lv_istore (lv' := [(12, .int q0), (0, .ref (ev.2.1 4)), (2, .int b2), (3, .int b3), (4, .long b4), (6, .long b6), (8, .long b8), (10, .long b10)]) hx hb dX7_operate_231 hl (by decide) rfl (fun ls hl => ?_)
    refine lv_aload_n hx hb dX7_operate_233 rfl (lv_at hl 1 rfl) ?_
    refine gB4_0 hc hw fl_X7_12 dX7_operate_234 ?_
    refine lv_iload hx hb dX7_operate_237 (lv_at hl 0 rfl) ?_
    refine lv_if_eq (tgt := 247) hx hb dX7_operate_239 (by decide) (fun z => ?_) (fun z => ?_)
    · have hf := it_pos z hf
      refine lv_lload hx hb dX7_operate_247 (lv_at hl 6 rfl) ?_
      exact wL249 b2 b3 b6 b10 q0 b8 u H locs ls hw (lv_sub hl [1, 2, 3, 5, 7, 0] rfl) hf
    · have hf := it_neg z hf
      refine lv_lload hx hb dX7_operate_242 (lv_at hl 4 rfl) ?_
      refine lv_goto (tgt := 249) hx hb dX7_operate_244 (by decide) ?_
      exact wL249 b2 b3 b6 b10 q0 b4 u H locs ls hw (lv_sub hl [1, 2, 3, 5, 7, 0] rfl) hf
  unfold f_X7_operate at hf
  refine lv_aload_n hx hb dX7_operate_0 rfl (lv_at hl 0 rfl) ?_
  refine gB4_12 hc hw fl_X7_143 dX7_operate_1 ?_
  refine lv_iconst (v := (1 : Int32)) hx hb dX7_operate_4 (by decide) ?_
  refine lv_isub hx hb dX7_operate_5 ?_
  obtain ⟨x1, ex1, hf⟩ := lt_some hf
  refine tope ex1 ?_
  refine lv_istore_n (lv' := [(2, .int x1), (0, .ref (ev.2.1 4)), (1, .int a1)]) hx hb dX7_operate_6 rfl hl (by decide) rfl (fun ls hl => ?_)
  refine lv_aload_n hx hb dX7_operate_7 rfl (lv_at hl 1 rfl) ?_
  refine gB4_12 hc hw fl_X7_143 dX7_operate_8 ?_
  refine lv_iconst (v := (2 : Int32)) hx hb dX7_operate_11 (by decide) ?_
  refine lv_isub hx hb dX7_operate_12 ?_
  obtain ⟨x2, ex2, hf⟩ := lt_some hf
  refine tope ex2 ?_
  refine lv_istore_n (lv' := [(3, .int x2), (2, .int x1), (0, .ref (ev.2.1 4)), (1, .int a1)]) hx hb dX7_operate_13 rfl hl (by decide) rfl (fun ls hl => ?_)
  refine lv_iload_n hx hb dX7_operate_14 rfl (lv_at hl 0 rfl) ?_
  refine lv_if_ge (tgt := 19) hx hb dX7_operate_15 (by decide) (fun z => ?_) (fun z => ?_)
  · have hf := it_pos z hf
    refine lv_aload_n hx hb dX7_operate_19 rfl (lv_at hl 2 rfl) ?_
    refine gB4_10 hc hw fl_X7_45 dX7_operate_20 ?_
    refine lv_iload_n hx hb dX7_operate_23 rfl (lv_at hl 0 rfl) ?_
    obtain ⟨z, hf⟩ := oi_some hf
    refine aB33 hc hw z dX7_operate_24 ?_
    obtain ⟨x3, ex3, hf⟩ := lt_some hf
    refine topel ex3 ?_
    refine lv_lstore (lv' := [(4, .long x3), (3, .int x2), (2, .int x1), (0, .ref (ev.2.1 4)), (1, .int a1)]) hx hb dX7_operate_25 hl (by decide) rfl (fun ls hl => ?_)
    refine lv_aload_n hx hb dX7_operate_27 rfl (lv_at hl 3 rfl) ?_
    refine gB4_11 hc hw fl_X7_48 dX7_operate_28 ?_
    refine lv_iload_n hx hb dX7_operate_31 rfl (lv_at hl 1 rfl) ?_
    obtain ⟨z, hf⟩ := oi_some hf
    refine aB34 hc hw z dX7_operate_32 ?_
    obtain ⟨x4, ex4, hf⟩ := lt_some hf
    refine topel ex4 ?_
    refine lv_lstore (lv' := [(6, .long x4), (4, .long x3), (3, .int x2), (2, .int x1), (0, .ref (ev.2.1 4)), (1, .int a1)]) hx hb dX7_operate_33 hl (by decide) rfl (fun ls hl => ?_)
    refine lv_aload_n hx hb dX7_operate_35 rfl (lv_at hl 4 rfl) ?_
    refine gB4_10 hc hw fl_X7_45 dX7_operate_36 ?_
    refine lv_iload_n hx hb dX7_operate_39 rfl (lv_at hl 3 rfl) ?_
    obtain ⟨z, hf⟩ := oi_some hf
    refine aB33 hc hw z dX7_operate_40 ?_
    obtain ⟨x5, ex5, hf⟩ := lt_some hf
    refine topel ex5 ?_
    refine lv_lstore (lv' := [(8, .long x5), (6, .long x4), (4, .long x3), (3, .int x2), (2, .int x1), (0, .ref (ev.2.1 4)), (1, .int a1)]) hx hb dX7_operate_41 hl (by decide) rfl (fun ls hl => ?_)
    refine lv_aload_n hx hb dX7_operate_43 rfl (lv_at hl 5 rfl) ?_
    refine gB4_11 hc hw fl_X7_48 dX7_operate_44 ?_
    refine lv_iload_n hx hb dX7_operate_47 rfl (lv_at hl 4 rfl) ?_
    obtain ⟨z, hf⟩ := oi_some hf
    refine aB34 hc hw z dX7_operate_48 ?_
    obtain ⟨x6, ex6, hf⟩ := lt_some hf
    refine topel ex6 ?_
    refine lv_lstore (lv' := [(10, .long x6), (8, .long x5), (6, .long x4), (4, .long x3), (3, .int x2), (2, .int x1), (0, .ref (ev.2.1 4)), (1, .int a1)]) hx hb dX7_operate_49 hl (by decide) rfl (fun ls hl => ?_)
    refine lv_iload_n hx hb dX7_operate_51 rfl (lv_at hl 7 rfl) ?_
    by_cases z0 : a1.toInt < 42 ∨ 47 < a1.toInt
    · have hf := it_pos z0 hf
      refine lv_tableOut (tgt := 184) hx hb dX7_operate_52 z0 (by decide) ?_
      refine lv_iload_n hx hb dX7_operate_184 rfl (lv_at hl 7 rfl) ?_
      refine lv_bipush (v := (60 : Int32)) hx hb dX7_operate_185 (by decide) ?_
      refine lv_icmp_ne (tgt := 212) hx hb dX7_operate_187 (by decide) (fun z => ?_) (fun z => ?_)
      · have hf := it_neg z hf
        refine lv_lload hx hb dX7_operate_212 (lv_at hl 3 rfl) ?_
        refine lv_lload hx hb dX7_operate_214 (lv_at hl 0 rfl) ?_
        refine lv_lmul hx hb dX7_operate_216 ?_
        refine lv_lload hx hb dX7_operate_217 (lv_at hl 1 rfl) ?_
        refine lv_lload hx hb dX7_operate_219 (lv_at hl 2 rfl) ?_
        refine lv_lmul hx hb dX7_operate_221 ?_
        refine W.lcmp hx hb dX7_operate_222 ?_
        refine lv_if_lt (tgt := 230) hx hb dX7_operate_223 (by decide) (fun z => ?_) (fun z => ?_)
        · have hf := it_pos z hf
          refine lv_iconst (v := (0 : Int32)) hx hb dX7_operate_230 (by decide) ?_
          exact wL231 x1 x2 x3 x4 x5 x6 (0 : Int32) u H locs ls hw (lv_sub hl [6, 5, 4, 3, 2, 1, 0] rfl) hf
        · have hf := it_neg z hf
          refine lv_iconst (v := (1 : Int32)) hx hb dX7_operate_226 (by decide) ?_
          refine lv_goto (tgt := 231) hx hb dX7_operate_227 (by decide) ?_
          exact wL231 x1 x2 x3 x4 x5 x6 (1 : Int32) u H locs ls hw (lv_sub hl [6, 5, 4, 3, 2, 1, 0] rfl) hf
      · have hf := it_pos z hf
        refine lv_lload hx hb dX7_operate_190 (lv_at hl 3 rfl) ?_
        refine lv_lload hx hb dX7_operate_192 (lv_at hl 0 rfl) ?_
        refine lv_lmul hx hb dX7_operate_194 ?_
        refine lv_lload hx hb dX7_operate_195 (lv_at hl 1 rfl) ?_
        refine lv_lload hx hb dX7_operate_197 (lv_at hl 2 rfl) ?_
        refine lv_lmul hx hb dX7_operate_199 ?_
        refine W.lcmp hx hb dX7_operate_200 ?_
        refine lv_if_gt (tgt := 208) hx hb dX7_operate_201 (by decide) (fun z => ?_) (fun z => ?_)
        · have hf := it_pos z hf
          refine lv_iconst (v := (0 : Int32)) hx hb dX7_operate_208 (by decide) ?_
          refine lv_goto (tgt := 231) hx hb dX7_operate_209 (by decide) ?_
          exact wL231 x1 x2 x3 x4 x5 x6 (0 : Int32) u H locs ls hw (lv_sub hl [6, 5, 4, 3, 2, 1, 0] rfl) hf
        · have hf := it_neg z hf
          refine lv_iconst (v := (1 : Int32)) hx hb dX7_operate_204 (by decide) ?_
          refine lv_goto (tgt := 231) hx hb dX7_operate_205 (by decide) ?_
          exact wL231 x1 x2 x3 x4 x5 x6 (1 : Int32) u H locs ls hw (lv_sub hl [6, 5, 4, 3, 2, 1, 0] rfl) hf
    · have hf := it_neg z0 hf
      by_cases z : a1 = (42 : Int32)
      · have hf := it_pos z hf
        refine lv_tableIn (tgt := 144) (off := 92) hx hb dX7_operate_52 (by rw [z]; decide) (by rw [z]; decide) (by rw [z]; decide) (by decide) ?_
        refine lv_aload_n hx hb dX7_operate_144 rfl (lv_at hl 6 rfl) ?_
        refine gB4_0 hc hw fl_X7_12 dX7_operate_145 ?_
        refine lv_lload hx hb dX7_operate_148 (lv_at hl 3 rfl) ?_
        refine lv_lload hx hb dX7_operate_150 (lv_at hl 1 rfl) ?_
        refine lv_lmul hx hb dX7_operate_152 ?_
        refine lv_lload hx hb dX7_operate_153 (lv_at hl 2 rfl) ?_
        refine lv_lload hx hb dX7_operate_155 (lv_at hl 0 rfl) ?_
        refine lv_lmul hx hb dX7_operate_157 ?_
        obtain ⟨u13, h12, hf⟩ := ov_some hf
        refine endV okB hw (runV_ok (As := [.long (x3 * x5), .long (x4 * x6)]) (rest := []) okB hc hw (c_X3_put l ev (x3 * x5) (x4 * x6) u h12 H.size) kv_X3_put ml_X7_119 (rvB8 ev u) hl.1 rfl rfl (Nat.le_of_ble_eq_true rfl) (rm_le (by decide) (by decide)) dX7_operate_158) (fun H locs hw => ?_)
        refine lv_goto (tgt := 264) hx hb dX7_operate_161 (by decide) ?_
        exact wL264 x1 x2 u13 H locs ls hw (lv_sub hl [6, 5, 4] rfl) hf
      have hf := it_neg z hf
      by_cases z : a1 = (43 : Int32)
      · have hf := it_pos z hf
        refine lv_tableIn (tgt := 92) (off := 40) hx hb dX7_operate_52 (by rw [z]; decide) (by rw [z]; decide) (by rw [z]; decide) (by decide) ?_
        refine lv_aload_n hx hb dX7_operate_92 rfl (lv_at hl 6 rfl) ?_
        refine gB4_0 hc hw fl_X7_12 dX7_operate_93 ?_
        refine lv_lload hx hb dX7_operate_96 (lv_at hl 3 rfl) ?_
        refine lv_lload hx hb dX7_operate_98 (lv_at hl 0 rfl) ?_
        refine lv_lmul hx hb dX7_operate_100 ?_
        refine lv_lload hx hb dX7_operate_101 (lv_at hl 1 rfl) ?_
        refine lv_lload hx hb dX7_operate_103 (lv_at hl 2 rfl) ?_
        refine lv_lmul hx hb dX7_operate_105 ?_
        refine lv_ladd hx hb dX7_operate_106 ?_
        refine lv_lload hx hb dX7_operate_107 (lv_at hl 2 rfl) ?_
        refine lv_lload hx hb dX7_operate_109 (lv_at hl 0 rfl) ?_
        refine lv_lmul hx hb dX7_operate_111 ?_
        obtain ⟨u15, h14, hf⟩ := ov_some hf
        refine endV okB hw (runV_ok (As := [.long ((x3 * x6) + (x5 * x4)), .long (x4 * x6)]) (rest := []) okB hc hw (c_X3_put l ev ((x3 * x6) + (x5 * x4)) (x4 * x6) u h14 H.size) kv_X3_put ml_X7_119 (rvB8 ev u) hl.1 rfl rfl (Nat.le_of_ble_eq_true rfl) (rm_le (by decide) (by decide)) dX7_operate_112) (fun H locs hw => ?_)
        refine lv_goto (tgt := 264) hx hb dX7_operate_115 (by decide) ?_
        exact wL264 x1 x2 u15 H locs ls hw (lv_sub hl [6, 5, 4] rfl) hf
      have hf := it_neg z hf
      by_cases z : a1 = (44 : Int32)
      · have hf := it_pos z hf
        refine lv_tableIn (tgt := 184) (off := 132) hx hb dX7_operate_52 (by rw [z]; decide) (by rw [z]; decide) (by rw [z]; decide) (by decide) ?_
        refine lv_iload_n hx hb dX7_operate_184 rfl (lv_at hl 7 rfl) ?_
        refine lv_bipush (v := (60 : Int32)) hx hb dX7_operate_185 (by decide) ?_
        refine lv_icmp_ne (tgt := 212) hx hb dX7_operate_187 (by decide) (fun z => ?_) (fun z => ?_)
        · have hf := it_neg z hf
          refine lv_lload hx hb dX7_operate_212 (lv_at hl 3 rfl) ?_
          refine lv_lload hx hb dX7_operate_214 (lv_at hl 0 rfl) ?_
          refine lv_lmul hx hb dX7_operate_216 ?_
          refine lv_lload hx hb dX7_operate_217 (lv_at hl 1 rfl) ?_
          refine lv_lload hx hb dX7_operate_219 (lv_at hl 2 rfl) ?_
          refine lv_lmul hx hb dX7_operate_221 ?_
          refine W.lcmp hx hb dX7_operate_222 ?_
          refine lv_if_lt (tgt := 230) hx hb dX7_operate_223 (by decide) (fun z => ?_) (fun z => ?_)
          · have hf := it_pos z hf
            refine lv_iconst (v := (0 : Int32)) hx hb dX7_operate_230 (by decide) ?_
            exact wL231 x1 x2 x3 x4 x5 x6 (0 : Int32) u H locs ls hw (lv_sub hl [6, 5, 4, 3, 2, 1, 0] rfl) hf
          · have hf := it_neg z hf
            refine lv_iconst (v := (1 : Int32)) hx hb dX7_operate_226 (by decide) ?_
            refine lv_goto (tgt := 231) hx hb dX7_operate_227 (by decide) ?_
            exact wL231 x1 x2 x3 x4 x5 x6 (1 : Int32) u H locs ls hw (lv_sub hl [6, 5, 4, 3, 2, 1, 0] rfl) hf
        · have hf := it_pos z hf
          refine lv_lload hx hb dX7_operate_190 (lv_at hl 3 rfl) ?_
          refine lv_lload hx hb dX7_operate_192 (lv_at hl 0 rfl) ?_
          refine lv_lmul hx hb dX7_operate_194 ?_
          refine lv_lload hx hb dX7_operate_195 (lv_at hl 1 rfl) ?_
          refine lv_lload hx hb dX7_operate_197 (lv_at hl 2 rfl) ?_
          refine lv_lmul hx hb dX7_operate_199 ?_
          refine W.lcmp hx hb dX7_operate_200 ?_
          refine lv_if_gt (tgt := 208) hx hb dX7_operate_201 (by decide) (fun z => ?_) (fun z => ?_)
          · have hf := it_pos z hf
            refine lv_iconst (v := (0 : Int32)) hx hb dX7_operate_208 (by decide) ?_
            refine lv_goto (tgt := 231) hx hb dX7_operate_209 (by decide) ?_
            exact wL231 x1 x2 x3 x4 x5 x6 (0 : Int32) u H locs ls hw (lv_sub hl [6, 5, 4, 3, 2, 1, 0] rfl) hf
          · have hf := it_neg z hf
            refine lv_iconst (v := (1 : Int32)) hx hb dX7_operate_204 (by decide) ?_
            refine lv_goto (tgt := 231) hx hb dX7_operate_205 (by decide) ?_
            exact wL231 x1 x2 x3 x4 x5 x6 (1 : Int32) u H locs ls hw (lv_sub hl [6, 5, 4, 3, 2, 1, 0] rfl) hf
      have hf := it_neg z hf
      by_cases z : a1 = (45 : Int32)
      · have hf := it_pos z hf
        refine lv_tableIn (tgt := 118) (off := 66) hx hb dX7_operate_52 (by rw [z]; decide) (by rw [z]; decide) (by rw [z]; decide) (by decide) ?_
        refine lv_aload_n hx hb dX7_operate_118 rfl (lv_at hl 6 rfl) ?_
        refine gB4_0 hc hw fl_X7_12 dX7_operate_119 ?_
        refine lv_lload hx hb dX7_operate_122 (lv_at hl 3 rfl) ?_
        refine lv_lload hx hb dX7_operate_124 (lv_at hl 0 rfl) ?_
        refine lv_lmul hx hb dX7_operate_126 ?_
        refine lv_lload hx hb dX7_operate_127 (lv_at hl 1 rfl) ?_
        refine lv_lload hx hb dX7_operate_129 (lv_at hl 2 rfl) ?_
        refine lv_lmul hx hb dX7_operate_131 ?_
        refine lv_lsub hx hb dX7_operate_132 ?_
        refine lv_lload hx hb dX7_operate_133 (lv_at hl 2 rfl) ?_
        refine lv_lload hx hb dX7_operate_135 (lv_at hl 0 rfl) ?_
        refine lv_lmul hx hb dX7_operate_137 ?_
        obtain ⟨u17, h16, hf⟩ := ov_some hf
        refine endV okB hw (runV_ok (As := [.long ((x3 * x6) - (x5 * x4)), .long (x4 * x6)]) (rest := []) okB hc hw (c_X3_put l ev ((x3 * x6) - (x5 * x4)) (x4 * x6) u h16 H.size) kv_X3_put ml_X7_119 (rvB8 ev u) hl.1 rfl rfl (Nat.le_of_ble_eq_true rfl) (rm_le (by decide) (by decide)) dX7_operate_138) (fun H locs hw => ?_)
        refine lv_goto (tgt := 264) hx hb dX7_operate_141 (by decide) ?_
        exact wL264 x1 x2 u17 H locs ls hw (lv_sub hl [6, 5, 4] rfl) hf
      have hf := it_neg z hf
      by_cases z : a1 = (46 : Int32)
      · have hf := it_pos z hf
        refine lv_tableIn (tgt := 184) (off := 132) hx hb dX7_operate_52 (by rw [z]; decide) (by rw [z]; decide) (by rw [z]; decide) (by decide) ?_
        refine lv_iload_n hx hb dX7_operate_184 rfl (lv_at hl 7 rfl) ?_
        refine lv_bipush (v := (60 : Int32)) hx hb dX7_operate_185 (by decide) ?_
        refine lv_icmp_ne (tgt := 212) hx hb dX7_operate_187 (by decide) (fun z => ?_) (fun z => ?_)
        · have hf := it_neg z hf
          refine lv_lload hx hb dX7_operate_212 (lv_at hl 3 rfl) ?_
          refine lv_lload hx hb dX7_operate_214 (lv_at hl 0 rfl) ?_
          refine lv_lmul hx hb dX7_operate_216 ?_
          refine lv_lload hx hb dX7_operate_217 (lv_at hl 1 rfl) ?_
          refine lv_lload hx hb dX7_operate_219 (lv_at hl 2 rfl) ?_
          refine lv_lmul hx hb dX7_operate_221 ?_
          refine W.lcmp hx hb dX7_operate_222 ?_
          refine lv_if_lt (tgt := 230) hx hb dX7_operate_223 (by decide) (fun z => ?_) (fun z => ?_)
          · have hf := it_pos z hf
            refine lv_iconst (v := (0 : Int32)) hx hb dX7_operate_230 (by decide) ?_
            exact wL231 x1 x2 x3 x4 x5 x6 (0 : Int32) u H locs ls hw (lv_sub hl [6, 5, 4, 3, 2, 1, 0] rfl) hf
          · have hf := it_neg z hf
            refine lv_iconst (v := (1 : Int32)) hx hb dX7_operate_226 (by decide) ?_
            refine lv_goto (tgt := 231) hx hb dX7_operate_227 (by decide) ?_
            exact wL231 x1 x2 x3 x4 x5 x6 (1 : Int32) u H locs ls hw (lv_sub hl [6, 5, 4, 3, 2, 1, 0] rfl) hf
        · have hf := it_pos z hf
          refine lv_lload hx hb dX7_operate_190 (lv_at hl 3 rfl) ?_
          refine lv_lload hx hb dX7_operate_192 (lv_at hl 0 rfl) ?_
          refine lv_lmul hx hb dX7_operate_194 ?_
          refine lv_lload hx hb dX7_operate_195 (lv_at hl 1 rfl) ?_
          refine lv_lload hx hb dX7_operate_197 (lv_at hl 2 rfl) ?_
          refine lv_lmul hx hb dX7_operate_199 ?_
          refine W.lcmp hx hb dX7_operate_200 ?_
          refine lv_if_gt (tgt := 208) hx hb dX7_operate_201 (by decide) (fun z => ?_) (fun z => ?_)
          · have hf := it_pos z hf
            refine lv_iconst (v := (0 : Int32)) hx hb dX7_operate_208 (by decide) ?_
            refine lv_goto (tgt := 231) hx hb dX7_operate_209 (by decide) ?_
            exact wL231 x1 x2 x3 x4 x5 x6 (0 : Int32) u H locs ls hw (lv_sub hl [6, 5, 4, 3, 2, 1, 0] rfl) hf
          · have hf := it_neg z hf
            refine lv_iconst (v := (1 : Int32)) hx hb dX7_operate_204 (by decide) ?_
            refine lv_goto (tgt := 231) hx hb dX7_operate_205 (by decide) ?_
            exact wL231 x1 x2 x3 x4 x5 x6 (1 : Int32) u H locs ls hw (lv_sub hl [6, 5, 4, 3, 2, 1, 0] rfl) hf
      have hf := it_neg z hf
      by_cases z : a1 = (47 : Int32)
      · have hf := it_pos z hf
        refine lv_tableIn (tgt := 164) (off := 112) hx hb dX7_operate_52 (by rw [z]; decide) (by rw [z]; decide) (by rw [z]; decide) (by decide) ?_
        refine lv_aload_n hx hb dX7_operate_164 rfl (lv_at hl 6 rfl) ?_
        refine gB4_0 hc hw fl_X7_12 dX7_operate_165 ?_
        refine lv_lload hx hb dX7_operate_168 (lv_at hl 3 rfl) ?_
        refine lv_lload hx hb dX7_operate_170 (lv_at hl 0 rfl) ?_
        refine lv_lmul hx hb dX7_operate_172 ?_
        refine lv_lload hx hb dX7_operate_173 (lv_at hl 2 rfl) ?_
        refine lv_lload hx hb dX7_operate_175 (lv_at hl 1 rfl) ?_
        refine lv_lmul hx hb dX7_operate_177 ?_
        obtain ⟨u19, h18, hf⟩ := ov_some hf
        refine endV okB hw (runV_ok (As := [.long (x3 * x6), .long (x4 * x5)]) (rest := []) okB hc hw (c_X3_put l ev (x3 * x6) (x4 * x5) u h18 H.size) kv_X3_put ml_X7_119 (rvB8 ev u) hl.1 rfl rfl (Nat.le_of_ble_eq_true rfl) (rm_le (by decide) (by decide)) dX7_operate_178) (fun H locs hw => ?_)
        refine lv_goto (tgt := 264) hx hb dX7_operate_181 (by decide) ?_
        exact wL264 x1 x2 u19 H locs ls hw (lv_sub hl [6, 5, 4] rfl) hf
      have hf := it_neg z hf
      cases hf
  · have hf := it_neg z hf
    exact retV hc hr hlk hw hf dX7_operate_18
def f_X7_push (a1 : Int64) (a3 : Int64) (u : SS) : Option SS :=
  if (80 : Int32) ≤ (gI u 11) then (some u) else (oi (gI u 11) 80 (lt (tL u 4 (gI u 11) a1) fun u1 => oi (gI u1 11) 80 (lt (tL u1 5 (gI u1 11) a3) fun u2 => lt (sI u2 11 ((gI u2 11) + (1 : Int32))) fun u3 => some u3)))
set_option maxHeartbeats 4000000 in
set_option maxRecDepth 100000 in
theorem c_X7_push (l : Launch) (ev : EV) (a1 : Int64) (a3 : Int64) (u : SS) {u' : SS} (hf : f_X7_push a1 a3 u = some u') : MV wdB l yX7_push cX7_push 5 none 0 ev [.ref (ev.2.1 4), .long a1, .long a3] u u' := by
  refine bodyV (by decide +kernel) rfl (Nat.le_of_ble_eq_true rfl) ?_
  intro p e s m below meth cd ls H locs hc hr hlk hw hl
  generalize hav : (List.toArray [.ref (ev.2.1 4), .long a1, .long a3] : Array Value) = av at hc ⊢
  obtain ⟨hx, hb, hml, hown, hts, hK, hZ⟩ := id hc
  have hl : lv_has ls 5 [(0, .ref (ev.2.1 4)), (1, .long a1), (3, .long a3)] := hl
  unfold f_X7_push at hf
  refine lv_aload_n hx hb dX7_push_0 rfl (lv_at hl 0 rfl) ?_
  refine gB4_12 hc hw fl_X7_143 dX7_push_1 ?_
  refine lv_bipush (v := (80 : Int32)) hx hb dX7_push_4 (by decide) ?_
  refine lv_icmp_ge (tgt := 39) hx hb dX7_push_6 (by decide) (fun z => ?_) (fun z => ?_)
  · have hf := it_pos z hf
    exact retV hc hr hlk hw hf dX7_push_39
  · have hf := it_neg z hf
    refine lv_aload_n hx hb dX7_push_9 rfl (lv_at hl 0 rfl) ?_
    refine gB4_10 hc hw fl_X7_45 dX7_push_10 ?_
    refine lv_aload_n hx hb dX7_push_13 rfl (lv_at hl 0 rfl) ?_
    refine gB4_12 hc hw fl_X7_143 dX7_push_14 ?_
    refine lv_lload_n hx hb dX7_push_17 rfl (lv_at hl 1 rfl) ?_
    obtain ⟨z, hf⟩ := oi_some hf
    refine tB33 hc hw z dX7_push_18 (fun H locs hw => ?_)
    obtain ⟨u1, eu1, hf⟩ := lt_some hf
    have hw := VW.nm eu1 hw
    refine lv_aload_n hx hb dX7_push_19 rfl (lv_at hl 0 rfl) ?_
    refine gB4_11 hc hw fl_X7_48 dX7_push_20 ?_
    refine lv_aload_n hx hb dX7_push_23 rfl (lv_at hl 0 rfl) ?_
    refine gB4_12 hc hw fl_X7_143 dX7_push_24 ?_
    refine lv_lload_n hx hb dX7_push_27 rfl (lv_at hl 2 rfl) ?_
    obtain ⟨z, hf⟩ := oi_some hf
    refine tB34 hc hw z dX7_push_28 (fun H locs hw => ?_)
    obtain ⟨u2, eu2, hf⟩ := lt_some hf
    have hw := VW.nm eu2 hw
    refine lv_aload_n hx hb dX7_push_29 rfl (lv_at hl 0 rfl) ?_
    refine lv_dup hx hb dX7_push_30 rfl ?_
    refine gB4_12 hc hw fl_X7_143 dX7_push_31 ?_
    refine lv_iconst (v := (1 : Int32)) hx hb dX7_push_34 (by decide) ?_
    refine lv_iadd hx hb dX7_push_35 ?_
    refine pB4_12 hc hw fl_X7_143 dX7_push_36 (fun H locs hw => ?_)
    obtain ⟨u3, eu3, hf⟩ := lt_some hf
    have hw := VW.nm eu3 hw
    exact retV hc hr hlk hw hf dX7_push_39
