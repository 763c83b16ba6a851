def f_X7_pushName (a1 : Int32) (a2 : Int32) (u : SS) : Option SS :=
  if a1.toInt < 97 ∨ 113 < a1.toInt then (ov (f_X7_push ((gI u 12).toInt64) (1 : Int64) u) fun u2 => some u2) else if a1 = (97 : Int32) then (ov (f_X7_push (gJ u 2) (gJ u 3) u) fun u4 => some u4) else if a1 = (98 : Int32) then (ov (f_X7_push (gJ u 4) (gJ u 5) u) fun u6 => some u6) else if a1 = (99 : Int32) then (ov (f_X7_push ((gI u 12).toInt64) (1 : Int64) u) fun u8 => some u8) else if a1 = (100 : Int32) then (ov (f_X7_push ((gI u 12).toInt64) (1 : Int64) u) fun u10 => some u10) else if a1 = (101 : Int32) then (ov (f_X7_push ((gI u 12).toInt64) (1 : Int64) u) fun u12 => some u12) else if a1 = (102 : Int32) then (ov (f_X7_push ((gI u 12).toInt64) (1 : Int64) u) fun u14 => some u14) else if a1 = (103 : Int32) then (ov (f_X7_push ((gI u 12).toInt64) (1 : Int64) u) fun u16 => some u16) else if a1 = (104 : Int32) then (ov (f_X7_push (gJ u 1) (1 : Int64) u) fun u18 => some u18) else if a1 = (105 : Int32) then (ov (f_X7_push ((gI u 12).toInt64) (1 : Int64) u) fun u20 => some u20) else if a1 = (106 : Int32) then (ov (f_X7_push ((gI u 12).toInt64) (1 : Int64) u) fun u22 => some u22) else if a1 = (107 : Int32) then (ov (f_X7_push ((gI u 12).toInt64) (1 : Int64) u) fun u24 => some u24) else if a1 = (108 : Int32) then (ov (f_X7_push (gJ u 0) (1 : Int64) u) fun u26 => some u26) else if a1 = (109 : Int32) then (ov (f_X7_push ((gI u 12).toInt64) (1 : Int64) u) fun u28 => some u28) else if a1 = (110 : Int32) then (ov (f_X7_push ((gI u 12).toInt64) (1 : Int64) u) fun u30 => some u30) else if a1 = (111 : Int32) then (ov (f_X7_push ((gI u 12).toInt64) (1 : Int64) u) fun u32 => some u32) else if a1 = (112 : Int32) then (oi a2 8 (ov (f_X7_push ((gA u 17 a2.toNatClampNeg).toInt64) (1 : Int64) u) fun u34 => some u34)) else if a1 = (113 : Int32) then (oi a2 8 (oi a2 8 (ov (f_X7_push (gL u 0 a2.toNatClampNeg) (gL u 1 a2.toNatClampNeg) u) fun u36 => some u36))) else none
set_option maxHeartbeats 4000000 in
set_option maxRecDepth 100000 in
theorem c_X7_pushName (l : Launch) (ev : EV) (a1 : Int32) (a2 : Int32) (u : SS) {u' : SS} (hf : f_X7_pushName a1 a2 u = some u') : MV wdB l yX7_pushName cX7_pushName 3 none 1 ev [.ref (ev.2.1 4), .int a1, .int a2] u u' := by
  refine bodyV (by decide +kernel) rfl (Nat.le_of_ble_eq_true rfl) ?_
  intro p e s m below meth cd ls H locs hc hr hlk hw hl
  generalize hav : (List.toArray [.ref (ev.2.1 4), .int a1, .int a2] : Array Value) = av at hc ⊢
  obtain ⟨hx, hb, hml, hown, hts, hK, hZ⟩ := id hc
  have hl : lv_has ls 3 [(0, .ref (ev.2.1 4)), (1, .int a1), (2, .int a2)] := hl
  unfold f_X7_pushName at hf
  refine lv_iload_n hx hb dX7_pushName_0 rfl (lv_at hl 1 rfl) ?_
  by_cases z0 : a1.toInt < 97 ∨ 113 < a1.toInt
  · have hf := it_pos z0 hf
    refine lv_tableOut (tgt := 172) hx hb dX7_pushName_1 z0 (by decide) ?_
    refine lv_aload_n hx hb dX7_pushName_172 rfl (lv_at hl 0 rfl) ?_
    refine lv_aload_n hx hb dX7_pushName_173 rfl (lv_at hl 0 rfl) ?_
    refine gB4_17 hc hw fl_X7_98 dX7_pushName_174 ?_
    refine lv_i2l (v := (gI u 12).toInt64) hx hb dX7_pushName_177 rfl ?_
    refine lv_lconst (v := (1 : Int64)) hx hb dX7_pushName_178 (by decide) ?_
    obtain ⟨u2, h1, hf⟩ := ov_some hf
    refine endV okB hw (runV_ok (As := [.long ((gI u 12).toInt64), .long (1 : Int64)]) (rest := []) okB hc hw (c_X7_push l ev ((gI u 12).toInt64) (1 : Int64) u h1 H.size) kv_X7_push ml_X7_133 (rvB4 ev u) hl.1 rfl rfl (Nat.le_of_ble_eq_true rfl) (rm_le (by decide) (by decide)) dX7_pushName_179) (fun H locs hw => ?_)
    exact retV hc hr hlk hw hf dX7_pushName_182
  · have hf := it_neg z0 hf
    by_cases z : a1 = (97 : Int32)
    · have hf := it_pos z hf
      refine lv_tableIn (tgt := 123) (off := 122) hx hb dX7_pushName_1 (by rw [z]; decide) (by rw [z]; decide) (by rw [z]; decide) (by decide) ?_
      refine lv_aload_n hx hb dX7_pushName_123 rfl (lv_at hl 0 rfl) ?_
      refine lv_aload_n hx hb dX7_pushName_124 rfl (lv_at hl 0 rfl) ?_
      refine gB4_15 hc hw fl_X7_123 dX7_pushName_125 ?_
      refine lv_aload_n hx hb dX7_pushName_128 rfl (lv_at hl 0 rfl) ?_
      refine gB4_16 hc hw fl_X7_126 dX7_pushName_129 ?_
      obtain ⟨u4, h3, hf⟩ := ov_some hf
      refine endV okB hw (runV_ok (As := [.long (gJ u 2), .long (gJ u 3)]) (rest := []) okB hc hw (c_X7_push l ev (gJ u 2) (gJ u 3) u h3 H.size) kv_X7_push ml_X7_133 (rvB4 ev u) hl.1 rfl rfl (Nat.le_of_ble_eq_true rfl) (rm_le (by decide) (by decide)) dX7_pushName_132) (fun H locs hw => ?_)
      refine lv_goto (tgt := 182) hx hb dX7_pushName_135 (by decide) ?_
      exact retV hc hr hlk hw hf dX7_pushName_182
    have hf := it_neg z hf
    by_cases z : a1 = (98 : Int32)
    · have hf := it_pos z hf
      refine lv_tableIn (tgt := 157) (off := 156) hx hb dX7_pushName_1 (by rw [z]; decide) (by rw [z]; decide) (by rw [z]; decide) (by decide) ?_
      refine lv_aload_n hx hb dX7_pushName_157 rfl (lv_at hl 0 rfl) ?_
      refine lv_aload_n hx hb dX7_pushName_158 rfl (lv_at hl 0 rfl) ?_
      refine gB4_18 hc hw fl_X7_102 dX7_pushName_159 ?_
      refine lv_aload_n hx hb dX7_pushName_162 rfl (lv_at hl 0 rfl) ?_
      refine gB4_19 hc hw fl_X7_105 dX7_pushName_163 ?_
      obtain ⟨u6, h5, hf⟩ := ov_some hf
      refine endV okB hw (runV_ok (As := [.long (gJ u 4), .long (gJ u 5)]) (rest := []) okB hc hw (c_X7_push l ev (gJ u 4) (gJ u 5) u h5 H.size) kv_X7_push ml_X7_133 (rvB4 ev u) hl.1 rfl rfl (Nat.le_of_ble_eq_true rfl) (rm_le (by decide) (by decide)) dX7_pushName_166) (fun H locs hw => ?_)
      refine lv_goto (tgt := 182) hx hb dX7_pushName_169 (by decide) ?_
      exact retV hc hr hlk hw hf dX7_pushName_182
    have hf := it_neg z hf
    by_cases z : a1 = (99 : Int32)
    · have hf := it_pos z hf
      refine lv_tableIn (tgt := 172) (off := 171) hx hb dX7_pushName_1 (by rw [z]; decide) (by rw [z]; decide) (by rw [z]; decide) (by decide) ?_
      refine lv_aload_n hx hb dX7_pushName_172 rfl (lv_at hl 0 rfl) ?_
      refine lv_aload_n hx hb dX7_pushName_173 rfl (lv_at hl 0 rfl) ?_
      refine gB4_17 hc hw fl_X7_98 dX7_pushName_174 ?_
      refine lv_i2l (v := (gI u 12).toInt64) hx hb dX7_pushName_177 rfl ?_
      refine lv_lconst (v := (1 : Int64)) hx hb dX7_pushName_178 (by decide) ?_
      obtain ⟨u8, h7, hf⟩ := ov_some hf
      refine endV okB hw (runV_ok (As := [.long ((gI u 12).toInt64), .long (1 : Int64)]) (rest := []) okB hc hw (c_X7_push l ev ((gI u 12).toInt64) (1 : Int64) u h7 H.size) kv_X7_push ml_X7_133 (rvB4 ev u) hl.1 rfl rfl (Nat.le_of_ble_eq_true rfl) (rm_le (by decide) (by decide)) dX7_pushName_179) (fun H locs hw => ?_)
      exact retV hc hr hlk hw hf dX7_pushName_182
    have hf := it_neg z hf
    by_cases z : a1 = (100 : Int32)
    · have hf := it_pos z hf
      refine lv_tableIn (tgt := 172) (off := 171) hx hb dX7_pushName_1 (by rw [z]; decide) (by rw [z]; decide) (by rw [z]; decide) (by decide) ?_
      refine lv_aload_n hx hb dX7_pushName_172 rfl (lv_at hl 0 rfl) ?_
      refine lv_aload_n hx hb dX7_pushName_173 rfl (lv_at hl 0 rfl) ?_
      refine gB4_17 hc hw fl_X7_98 dX7_pushName_174 ?_
      refine lv_i2l (v := (gI u 12).toInt64) hx hb dX7_pushName_177 rfl ?_
      refine lv_lconst (v := (1 : Int64)) hx hb dX7_pushName_178 (by decide) ?_
      obtain ⟨u10, h9, hf⟩ := ov_some hf
      refine endV okB hw (runV_ok (As := [.long ((gI u 12).toInt64), .long (1 : Int64)]) (rest := []) okB hc hw (c_X7_push l ev ((gI u 12).toInt64) (1 : Int64) u h9 H.size) kv_X7_push ml_X7_133 (rvB4 ev u) hl.1 rfl rfl (Nat.le_of_ble_eq_true rfl) (rm_le (by decide) (by decide)) dX7_pushName_179) (fun H locs hw => ?_)
      exact retV hc hr hlk hw hf dX7_pushName_182
    have hf := it_neg z hf
    by_cases z : a1 = (101 : Int32)
    · have hf := it_pos z hf
      refine lv_tableIn (tgt := 172) (off := 171) hx hb dX7_pushName_1 (by rw [z]; decide) (by rw [z]; decide) (by rw [z]; decide) (by decide) ?_
      refine lv_aload_n hx hb dX7_pushName_172 rfl (lv_at hl 0 rfl) ?_
      refine lv_aload_n hx hb dX7_pushName_173 rfl (lv_at hl 0 rfl) ?_
      refine gB4_17 hc hw fl_X7_98 dX7_pushName_174 ?_
      refine lv_i2l (v := (gI u 12).toInt64) hx hb dX7_pushName_177 rfl ?_
      refine lv_lconst (v := (1 : Int64)) hx hb dX7_pushName_178 (by decide) ?_
      obtain ⟨u12, h11, hf⟩ := ov_some hf
      refine endV okB hw (runV_ok (As := [.long ((gI u 12).toInt64), .long (1 : Int64)]) (rest := []) okB hc hw (c_X7_push l ev ((gI u 12).toInt64) (1 : Int64) u h11 H.size) kv_X7_push ml_X7_133 (rvB4 ev u) hl.1 rfl rfl (Nat.le_of_ble_eq_true rfl) (rm_le (by decide) (by decide)) dX7_pushName_179) (fun H locs hw => ?_)
      exact retV hc hr hlk hw hf dX7_pushName_182
    have hf := it_neg z hf
    by_cases z : a1 = (102 : Int32)
    · have hf := it_pos z hf
      refine lv_tableIn (tgt := 172) (off := 171) hx hb dX7_pushName_1 (by rw [z]; decide) (by rw [z]; decide) (by rw [z]; decide) (by decide) ?_
      refine lv_aload_n hx hb dX7_pushName_172 rfl (lv_at hl 0 rfl) ?_
      refine lv_aload_n hx hb dX7_pushName_173 rfl (lv_at hl 0 rfl) ?_
      refine gB4_17 hc hw fl_X7_98 dX7_pushName_174 ?_
      refine lv_i2l (v := (gI u 12).toInt64) hx hb dX7_pushName_177 rfl ?_
      refine lv_lconst (v := (1 : Int64)) hx hb dX7_pushName_178 (by decide) ?_
      obtain ⟨u14, h13, hf⟩ := ov_some hf
      refine endV okB hw (runV_ok (As := [.long ((gI u 12).toInt64), .long (1 : Int64)]) (rest := []) okB hc hw (c_X7_push l ev ((gI u 12).toInt64) (1 : Int64) u h13 H.size) kv_X7_push ml_X7_133 (rvB4 ev u) hl.1 rfl rfl (Nat.le_of_ble_eq_true rfl) (rm_le (by decide) (by decide)) dX7_pushName_179) (fun H locs hw => ?_)
      exact retV hc hr hlk hw hf dX7_pushName_182
    have hf := it_neg z hf
    by_cases z : a1 = (103 : Int32)
    · have hf := it_pos z hf
      refine lv_tableIn (tgt := 172) (off := 171) hx hb dX7_pushName_1 (by rw [z]; decide) (by rw [z]; decide) (by rw [z]; decide) (by decide) ?_
      refine lv_aload_n hx hb dX7_pushName_172 rfl (lv_at hl 0 rfl) ?_
      refine lv_aload_n hx hb dX7_pushName_173 rfl (lv_at hl 0 rfl) ?_
      refine gB4_17 hc hw fl_X7_98 dX7_pushName_174 ?_
      refine lv_i2l (v := (gI u 12).toInt64) hx hb dX7_pushName_177 rfl ?_
      refine lv_lconst (v := (1 : Int64)) hx hb dX7_pushName_178 (by decide) ?_
      obtain ⟨u16, h15, hf⟩ := ov_some hf
      refine endV okB hw (runV_ok (As := [.long ((gI u 12).toInt64), .long (1 : Int64)]) (rest := []) okB hc hw (c_X7_push l ev ((gI u 12).toInt64) (1 : Int64) u h15 H.size) kv_X7_push ml_X7_133 (rvB4 ev u) hl.1 rfl rfl (Nat.le_of_ble_eq_true rfl) (rm_le (by decide) (by decide)) dX7_pushName_179) (fun H locs hw => ?_)
      exact retV hc hr hlk hw hf dX7_pushName_182
    have hf := it_neg z hf
    by_cases z : a1 = (104 : Int32)
    · have hf := it_pos z hf
      refine lv_tableIn (tgt := 111) (off := 110) hx hb dX7_pushName_1 (by rw [z]; decide) (by rw [z]; decide) (by rw [z]; decide) (by decide) ?_
      refine lv_aload_n hx hb dX7_pushName_111 rfl (lv_at hl 0 rfl) ?_
      refine lv_aload_n hx hb dX7_pushName_112 rfl (lv_at hl 0 rfl) ?_
      refine gB4_14 hc hw fl_X7_95 dX7_pushName_113 ?_
      refine lv_lconst (v := (1 : Int64)) hx hb dX7_pushName_116 (by decide) ?_
      obtain ⟨u18, h17, hf⟩ := ov_some hf
      refine endV okB hw (runV_ok (As := [.long (gJ u 1), .long (1 : Int64)]) (rest := []) okB hc hw (c_X7_push l ev (gJ u 1) (1 : Int64) u h17 H.size) kv_X7_push ml_X7_133 (rvB4 ev u) hl.1 rfl rfl (Nat.le_of_ble_eq_true rfl) (rm_le (by decide) (by decide)) dX7_pushName_117) (fun H locs hw => ?_)
      refine lv_goto (tgt := 182) hx hb dX7_pushName_120 (by decide) ?_
      exact retV hc hr hlk hw hf dX7_pushName_182
    have hf := it_neg z hf
    by_cases z : a1 = (105 : Int32)
    · have hf := it_pos z hf
      refine lv_tableIn (tgt := 172) (off := 171) hx hb dX7_pushName_1 (by rw [z]; decide) (by rw [z]; decide) (by rw [z]; decide) (by decide) ?_
      refine lv_aload_n hx hb dX7_pushName_172 rfl (lv_at hl 0 rfl) ?_
      refine lv_aload_n hx hb dX7_pushName_173 rfl (lv_at hl 0 rfl) ?_
      refine gB4_17 hc hw fl_X7_98 dX7_pushName_174 ?_
      refine lv_i2l (v := (gI u 12).toInt64) hx hb dX7_pushName_177 rfl ?_
      refine lv_lconst (v := (1 : Int64)) hx hb dX7_pushName_178 (by decide) ?_
      obtain ⟨u20, h19, hf⟩ := ov_some hf
      refine endV okB hw (runV_ok (As := [.long ((gI u 12).toInt64), .long (1 : Int64)]) (rest := []) okB hc hw (c_X7_push l ev ((gI u 12).toInt64) (1 : Int64) u h19 H.size) kv_X7_push ml_X7_133 (rvB4 ev u) hl.1 rfl rfl (Nat.le_of_ble_eq_true rfl) (rm_le (by decide) (by decide)) dX7_pushName_179) (fun H locs hw => ?_)
      exact retV hc hr hlk hw hf dX7_pushName_182
    have hf := it_neg z hf
    by_cases z : a1 = (106 : Int32)
    · have hf := it_pos z hf
      refine lv_tableIn (tgt := 172) (off := 171) hx hb dX7_pushName_1 (by rw [z]; decide) (by rw [z]; decide) (by rw [z]; decide) (by decide) ?_
      refine lv_aload_n hx hb dX7_pushName_172 rfl (lv_at hl 0 rfl) ?_
      refine lv_aload_n hx hb dX7_pushName_173 rfl (lv_at hl 0 rfl) ?_
      refine gB4_17 hc hw fl_X7_98 dX7_pushName_174 ?_
      refine lv_i2l (v := (gI u 12).toInt64) hx hb dX7_pushName_177 rfl ?_
      refine lv_lconst (v := (1 : Int64)) hx hb dX7_pushName_178 (by decide) ?_
      obtain ⟨u22, h21, hf⟩ := ov_some hf
      refine endV okB hw (runV_ok (As := [.long ((gI u 12).toInt64), .long (1 : Int64)]) (rest := []) okB hc hw (c_X7_push l ev ((gI u 12).toInt64) (1 : Int64) u h21 H.size) kv_X7_push ml_X7_133 (rvB4 ev u) hl.1 rfl rfl (Nat.le_of_ble_eq_true rfl) (rm_le (by decide) (by decide)) dX7_pushName_179) (fun H locs hw => ?_)
      exact retV hc hr hlk hw hf dX7_pushName_182
    have hf := it_neg z hf
    by_cases z : a1 = (107 : Int32)
    · have hf := it_pos z hf
      refine lv_tableIn (tgt := 172) (off := 171) hx hb dX7_pushName_1 (by rw [z]; decide) (by rw [z]; decide) (by rw [z]; decide) (by decide) ?_
      refine lv_aload_n hx hb dX7_pushName_172 rfl (lv_at hl 0 rfl) ?_
      refine lv_aload_n hx hb dX7_pushName_173 rfl (lv_at hl 0 rfl) ?_
      refine gB4_17 hc hw fl_X7_98 dX7_pushName_174 ?_
      refine lv_i2l (v := (gI u 12).toInt64) hx hb dX7_pushName_177 rfl ?_
      refine lv_lconst (v := (1 : Int64)) hx hb dX7_pushName_178 (by decide) ?_
      obtain ⟨u24, h23, hf⟩ := ov_some hf
      refine endV okB hw (runV_ok (As := [.long ((gI u 12).toInt64), .long (1 : Int64)]) (rest := []) okB hc hw (c_X7_push l ev ((gI u 12).toInt64) (1 : Int64) u h23 H.size) kv_X7_push ml_X7_133 (rvB4 ev u) hl.1 rfl rfl (Nat.le_of_ble_eq_true rfl) (rm_le (by decide) (by decide)) dX7_pushName_179) (fun H locs hw => ?_)
      exact retV hc hr hlk hw hf dX7_pushName_182
    have hf := it_neg z hf
    by_cases z : a1 = (108 : Int32)
    · have hf := it_pos z hf
      refine lv_tableIn (tgt := 99) (off := 98) hx hb dX7_pushName_1 (by rw [z]; decide) (by rw [z]; decide) (by rw [z]; decide) (by decide) ?_
      refine lv_aload_n hx hb dX7_pushName_99 rfl (lv_at hl 0 rfl) ?_
      refine lv_aload_n hx hb dX7_pushName_100 rfl (lv_at hl 0 rfl) ?_
      refine gB4_13 hc hw fl_X7_92 dX7_pushName_101 ?_
      refine lv_lconst (v := (1 : Int64)) hx hb dX7_pushName_104 (by decide) ?_
      obtain ⟨u26, h25, hf⟩ := ov_some hf
      refine endV okB hw (runV_ok (As := [.long (gJ u 0), .long (1 : Int64)]) (rest := []) okB hc hw (c_X7_push l ev (gJ u 0) (1 : Int64) u h25 H.size) kv_X7_push ml_X7_133 (rvB4 ev u) hl.1 rfl rfl (Nat.le_of_ble_eq_true rfl) (rm_le (by decide) (by decide)) dX7_pushName_105) (fun H locs hw => ?_)
      refine lv_goto (tgt := 182) hx hb dX7_pushName_108 (by decide) ?_
      exact retV hc hr hlk hw hf dX7_pushName_182
    have hf := it_neg z hf
    by_cases z : a1 = (109 : Int32)
    · have hf := it_pos z hf
      refine lv_tableIn (tgt := 172) (off := 171) hx hb dX7_pushName_1 (by rw [z]; decide) (by rw [z]; decide) (by rw [z]; decide) (by decide) ?_
      refine lv_aload_n hx hb dX7_pushName_172 rfl (lv_at hl 0 rfl) ?_
      refine lv_aload_n hx hb dX7_pushName_173 rfl (lv_at hl 0 rfl) ?_
      refine gB4_17 hc hw fl_X7_98 dX7_pushName_174 ?_
      refine lv_i2l (v := (gI u 12).toInt64) hx hb dX7_pushName_177 rfl ?_
      refine lv_lconst (v := (1 : Int64)) hx hb dX7_pushName_178 (by decide) ?_
      obtain ⟨u28, h27, hf⟩ := ov_some hf
      refine endV okB hw (runV_ok (As := [.long ((gI u 12).toInt64), .long (1 : Int64)]) (rest := []) okB hc hw (c_X7_push l ev ((gI u 12).toInt64) (1 : Int64) u h27 H.size) kv_X7_push ml_X7_133 (rvB4 ev u) hl.1 rfl rfl (Nat.le_of_ble_eq_true rfl) (rm_le (by decide) (by decide)) dX7_pushName_179) (fun H locs hw => ?_)
      exact retV hc hr hlk hw hf dX7_pushName_182
    have hf := it_neg z hf
    by_cases z : a1 = (110 : Int32)
    · have hf := it_pos z hf
      refine lv_tableIn (tgt := 172) (off := 171) hx hb dX7_pushName_1 (by rw [z]; decide) (by rw [z]; decide) (by rw [z]; decide) (by decide) ?_
      refine lv_aload_n hx hb dX7_pushName_172 rfl (lv_at hl 0 rfl) ?_
      refine lv_aload_n hx hb dX7_pushName_173 rfl (lv_at hl 0 rfl) ?_
      refine gB4_17 hc hw fl_X7_98 dX7_pushName_174 ?_
      refine lv_i2l (v := (gI u 12).toInt64) hx hb dX7_pushName_177 rfl ?_
      refine lv_lconst (v := (1 : Int64)) hx hb dX7_pushName_178 (by decide) ?_
      obtain ⟨u30, h29, hf⟩ := ov_some hf
      refine endV okB hw (runV_ok (As := [.long ((gI u 12).toInt64), .long (1 : Int64)]) (rest := []) okB hc hw (c_X7_push l ev ((gI u 12).toInt64) (1 : Int64) u h29 H.size) kv_X7_push ml_X7_133 (rvB4 ev u) hl.1 rfl rfl (Nat.le_of_ble_eq_true rfl) (rm_le (by decide) (by decide)) dX7_pushName_179) (fun H locs hw => ?_)
      exact retV hc hr hlk hw hf dX7_pushName_182
    have hf := it_neg z hf
    by_cases z : a1 = (111 : Int32)
    · have hf := it_pos z hf
      refine lv_tableIn (tgt := 172) (off := 171) hx hb dX7_pushName_1 (by rw [z]; decide) (by rw [z]; decide) (by rw [z]; decide) (by decide) ?_
      refine lv_aload_n hx hb dX7_pushName_172 rfl (lv_at hl 0 rfl) ?_
      refine lv_aload_n hx hb dX7_pushName_173 rfl (lv_at hl 0 rfl) ?_
      refine gB4_17 hc hw fl_X7_98 dX7_pushName_174 ?_
      refine lv_i2l (v := (gI u 12).toInt64) hx hb dX7_pushName_177 rfl ?_
      refine lv_lconst (v := (1 : Int64)) hx hb dX7_pushName_178 (by decide) ?_
      obtain ⟨u32, h31, hf⟩ := ov_some hf
      refine endV okB hw (runV_ok (As := [.long ((gI u 12).toInt64), .long (1 : Int64)]) (rest := []) okB hc hw (c_X7_push l ev ((gI u 12).toInt64) (1 : Int64) u h31 H.size) kv_X7_push ml_X7_133 (rvB4 ev u) hl.1 rfl rfl (Nat.le_of_ble_eq_true rfl) (rm_le (by decide) (by decide)) dX7_pushName_179) (fun H locs hw => ?_)
      exact retV hc hr hlk hw hf dX7_pushName_182
    have hf := it_neg z hf
    by_cases z : a1 = (112 : Int32)
    · have hf := it_pos z hf
      refine lv_tableIn (tgt := 84) (off := 83) hx hb dX7_pushName_1 (by rw [z]; decide) (by rw [z]; decide) (by rw [z]; decide) (by decide) ?_
      refine lv_aload_n hx hb dX7_pushName_84 rfl (lv_at hl 0 rfl) ?_
      refine lv_aload_n hx hb dX7_pushName_85 rfl (lv_at hl 0 rfl) ?_
      refine gB4_2 hc hw fl_X7_22 dX7_pushName_86 ?_
      refine lv_iload_n hx hb dX7_pushName_89 rfl (lv_at hl 2 rfl) ?_
      obtain ⟨z, hf⟩ := oi_some hf
      refine aB26 hc hw z dX7_pushName_90 ?_
      refine lv_i2l (v := (gA u 17 a2.toNatClampNeg).toInt64) hx hb dX7_pushName_91 rfl ?_
      refine lv_lconst (v := (1 : Int64)) hx hb dX7_pushName_92 (by decide) ?_
      obtain ⟨u34, h33, hf⟩ := ov_some hf
      refine endV okB hw (runV_ok (As := [.long ((gA u 17 a2.toNatClampNeg).toInt64), .long (1 : Int64)]) (rest := []) okB hc hw (c_X7_push l ev ((gA u 17 a2.toNatClampNeg).toInt64) (1 : Int64) u h33 H.size) kv_X7_push ml_X7_133 (rvB4 ev u) hl.1 rfl rfl (Nat.le_of_ble_eq_true rfl) (rm_le (by decide) (by decide)) dX7_pushName_93) (fun H locs hw => ?_)
      refine lv_goto (tgt := 182) hx hb dX7_pushName_96 (by decide) ?_
      exact retV hc hr hlk hw hf dX7_pushName_182
    have hf := it_neg z hf
    by_cases z : a1 = (113 : Int32)
    · have hf := it_pos z hf
      refine lv_tableIn (tgt := 138) (off := 137) hx hb dX7_pushName_1 (by rw [z]; decide) (by rw [z]; decide) (by rw [z]; decide) (by decide) ?_
      refine lv_aload_n hx hb dX7_pushName_138 rfl (lv_at hl 0 rfl) ?_
      refine lv_aload_n hx hb dX7_pushName_139 rfl (lv_at hl 0 rfl) ?_
      refine gB4_3 hc hw fl_X7_26 dX7_pushName_140 ?_
      refine lv_iload_n hx hb dX7_pushName_143 rfl (lv_at hl 2 rfl) ?_
      obtain ⟨z, hf⟩ := oi_some hf
      refine aB27 hc hw z dX7_pushName_144 ?_
      refine lv_aload_n hx hb dX7_pushName_145 rfl (lv_at hl 0 rfl) ?_
      refine gB4_4 hc hw fl_X7_30 dX7_pushName_146 ?_
      refine lv_iload_n hx hb dX7_pushName_149 rfl (lv_at hl 2 rfl) ?_
      obtain ⟨z, hf⟩ := oi_some hf
      refine aB28 hc hw z dX7_pushName_150 ?_
      obtain ⟨u36, h35, hf⟩ := ov_some hf
      refine endV okB hw (runV_ok (As := [.long (gL u 0 a2.toNatClampNeg), .long (gL u 1 a2.toNatClampNeg)]) (rest := []) okB hc hw (c_X7_push l ev (gL u 0 a2.toNatClampNeg) (gL u 1 a2.toNatClampNeg) u h35 H.size) kv_X7_push ml_X7_133 (rvB4 ev u) hl.1 rfl rfl (Nat.le_of_ble_eq_true rfl) (rm_le (by decide) (by decide)) dX7_pushName_151) (fun H locs hw => ?_)
      refine lv_goto (tgt := 182) hx hb dX7_pushName_154 (by decide) ?_
      exact retV hc hr hlk hw hf dX7_pushName_182
    have hf := it_neg z hf
    cases hf
def f_X7_work_L124 (b2 : Int32) (q0 : Int32) (q1 : Int32) (u : SS) : Option SS :=
  oi q1 8 (lt (tZ u 18 q1 q0) fun u3 => oi (0 : Int32) 80 (oi b2 8 (lt (tL u3 2 b2 (gL u3 4 (0 : Int32).toNatClampNeg)) fun u4 => oi (0 : Int32) 80 (oi b2 8 (lt (tL u4 3 b2 (gL u4 5 (0 : Int32).toNatClampNeg)) fun u5 => some u5)))))
def f_X7_work_L119 (b2 : Int32) (q0 : Int32) (u : SS) : Option SS :=
  f_X7_work_L124 b2 (1 : Int32) q0 u
def f_X7_work_L96 (b2 : Int32) (u : SS) : Option SS :=
  if (gI u 25) = 0 then (if (gI u 11) = (1 : Int32) then (f_X7_work_L124 b2 (0 : Int32) b2 u) else (f_X7_work_L119 b2 b2 u)) else (f_X7_work_L119 b2 b2 u)
def f_X7_work_L90 (k15 : Int32 → Int32 → SS → Option SS) (b2 : Int32) (b3 : Int32) (u : SS) : Option SS :=
  lt (b3 + (1 : Int32)) fun x12 => k15 b2 x12 u
def b_X7_work_L15 (k15 : Int32 → Int32 → SS → Option SS) (b2 : Int32) (b3 : Int32) (u : SS) : Option SS :=
  if (gI u 4) ≤ b3 then (f_X7_work_L96 b2 u) else (if (80 : Int32) ≤ b3 then (f_X7_work_L96 b2 u) else (if (gI u 25) = 0 then (oi b3 80 (lt (gA u 13 b3.toNatClampNeg) fun x6 => if x6 < 0 then (ob (f_X2_isName (-x6) u) fun r9 u8 => if r9 = 0 then (ov (f_X7_operate (-x6) u8) fun u11 => f_X7_work_L90 k15 b2 b3 u11) else (ov (f_X7_pushName (-x6) b2 u8) fun u14 => f_X7_work_L90 k15 b2 b3 u14)) else (ov (f_X7_push (x6.toInt64) (1 : Int64) u) fun u16 => f_X7_work_L90 k15 b2 b3 u16))) else (f_X7_work_L96 b2 u)))
def f_X7_work_L15 : Nat → Int32 → Int32 → SS → Option SS
  | 0 => fun _ _ _ => none
  | n + 1 => b_X7_work_L15 (f_X7_work_L15 n)
def f_X7_work (a2 : Int32) (u : SS) : Option SS :=
  lt (sI u 11 (0 : Int32)) fun u1 => lt (sI u1 25 (0 : Int32)) fun u2 => f_X7_work_L15 FU a2 (0 : Int32) u2
set_option maxHeartbeats 4000000 in
set_option maxRecDepth 100000 in
theorem c_X7_work (l : Launch) (ev : EV) (a2 : Int32) (u : SS) {u' : SS} (hf : f_X7_work a2 u = some u') : MV wdB l yX7_work cX7_work 5 none 3 ev [.ref (ev.2.1 4), .ref (ev.2.1 3), .int a2] u u' := by
  refine bodyV (by decide +kernel) rfl (Nat.le_of_ble_eq_true rfl) ?_
  intro p e s m below meth cd ls H locs hc hr hlk hw hl
  generalize hav : (List.toArray [.ref (ev.2.1 4), .ref (ev.2.1 3), .int a2] : Array Value) = av at hc ⊢
  obtain ⟨hx, hb, hml, hown, hts, hK, hZ⟩ := id hc
  have hl : lv_has ls 5 [(0, .ref (ev.2.1 4)), (1, .ref (ev.2.1 3)), (2, .int a2)] := hl
  have wL124 : ∀ (b2 : Int32) (q0 : Int32) (q1 : Int32) (u : SS) (H : Heap) (locs : List Loc) (ls : Array Slot), VW wdB ev s u H locs → lv_has ls 5 [(0, .ref (ev.2.1 4)), (2, .int b2)] → f_X7_work_L124 b2 q0 q1 u = some u' → W p l e (rmk 3) s m av below meth cd H locs 0 0 (ZV wdB ev s below av u') (F0 m 124 ls [.int q0, .int q1, .ref (ev.2.1 31)]) := by
    intro b2 q0 q1 u H locs ls hw hl hf
    unfold f_X7_work_L124 at hf
    obtain ⟨z, hf⟩ := oi_some hf
    refine tB31 hc hw z dX7_work_124 (fun H locs hw => ?_)
    obtain ⟨u3, eu3, hf⟩ := lt_some hf
    have hw := VW.nm eu3 hw
    refine lv_aload_n hx hb dX7_work_125 rfl (lv_at hl 0 rfl) ?_
    refine gB4_5 hc hw fl_X7_33 dX7_work_126 ?_
    refine lv_iload_n hx hb dX7_work_129 rfl (lv_at hl 1 rfl) ?_
    refine lv_aload_n hx hb dX7_work_130 rfl (lv_at hl 0 rfl) ?_
    refine gB4_10 hc hw fl_X7_45 dX7_work_131 ?_
    refine lv_iconst (v := (0 : Int32)) hx hb dX7_work_134 (by decide) ?_
    obtain ⟨z, hf⟩ := oi_some hf
    refine aB33 hc hw z dX7_work_135 ?_
    obtain ⟨z, hf⟩ := oi_some hf
    refine tB29 hc hw z dX7_work_136 (fun H locs hw => ?_)
    obtain ⟨u4, eu4, hf⟩ := lt_some hf
    have hw := VW.nm eu4 hw
    refine lv_aload_n hx hb dX7_work_137 rfl (lv_at hl 0 rfl) ?_
    refine gB4_6 hc hw fl_X7_36 dX7_work_138 ?_
    refine lv_iload_n hx hb dX7_work_141 rfl (lv_at hl 1 rfl) ?_
    refine lv_aload_n hx hb dX7_work_142 rfl (lv_at hl 0 rfl) ?_
    refine gB4_11 hc hw fl_X7_48 dX7_work_143 ?_
    refine lv_iconst (v := (0 : Int32)) hx hb dX7_work_146 (by decide) ?_
    obtain ⟨z, hf⟩ := oi_some hf
    refine aB34 hc hw z dX7_work_147 ?_
    obtain ⟨z, hf⟩ := oi_some hf
    refine tB30 hc hw z dX7_work_148 (fun H locs hw => ?_)
    obtain ⟨u5, eu5, hf⟩ := lt_some hf
    have hw := VW.nm eu5 hw
    exact retV hc hr hlk hw hf dX7_work_149
  have wL119 : ∀ (b2 : Int32) (q0 : Int32) (u : SS) (H : Heap) (locs : List Loc) (ls : Array Slot), VW wdB ev s u H locs → lv_has ls 5 [(0, .ref (ev.2.1 4)), (2, .int b2)] → f_X7_work_L119 b2 q0 u = some u' → W p l e (rmk 3) s m av below meth cd H locs 0 0 (ZV wdB ev s below av u') (F0 m 119 ls [.int q0, .ref (ev.2.1 31)]) := by
    intro b2 q0 u H locs ls hw hl hf
    unfold f_X7_work_L119 at hf
    refine lv_iconst (v := (1 : Int32)) hx hb dX7_work_119 (by decide) ?_
    refine lv_goto (tgt := 124) hx hb dX7_work_120 (by decide) ?_
    exact wL124 b2 (1 : Int32) q0 u H locs ls hw (lv_sub hl [0, 1] rfl) hf
  have wL96 : ∀ (b2 : Int32) (u : SS) (H : Heap) (locs : List Loc) (ls : Array Slot), VW wdB ev s u H locs → lv_has ls 5 [(0, .ref (ev.2.1 4)), (2, .int b2)] → f_X7_work_L96 b2 u = some u' → W p l e (rmk 3) s m av below meth cd H locs 0 0 (ZV wdB ev s below av u') (F0 m 96 ls []) := by
    intro b2 u H locs ls hw hl hf
    unfold f_X7_work_L96 at hf
    refine lv_aload_n hx hb dX7_work_96 rfl (lv_at hl 0 rfl) ?_
    refine gB4_7 hc hw fl_X7_39 dX7_work_97 ?_
    refine lv_iload_n hx hb dX7_work_100 rfl (lv_at hl 1 rfl) ?_
    refine lv_aload_n hx hb dX7_work_101 rfl (lv_at hl 0 rfl) ?_
    refine gB4_0 hc hw fl_X7_12 dX7_work_102 ?_
    refine gB8_2 hc hw fl_X7_140 dX7_work_105 ?_
    refine lv_if_ne (tgt := 119) hx hb dX7_work_108 (by decide) (fun z => ?_) (fun z => ?_)
    · have hf := it_neg z hf
      exact wL119 b2 b2 u H locs ls hw (lv_sub hl [0, 1] rfl) hf
    · have hf := it_pos z hf
      refine lv_aload_n hx hb dX7_work_111 rfl (lv_at hl 0 rfl) ?_
      refine gB4_12 hc hw fl_X7_143 dX7_work_112 ?_
      refine lv_iconst (v := (1 : Int32)) hx hb dX7_work_115 (by decide) ?_
      refine lv_icmp_eq (tgt := 123) hx hb dX7_work_116 (by decide) (fun z => ?_) (fun z => ?_)
      · have hf := it_pos z hf
        refine lv_iconst (v := (0 : Int32)) hx hb dX7_work_123 (by decide) ?_
        exact wL124 b2 (0 : Int32) b2 u H locs ls hw (lv_sub hl [0, 1] rfl) hf
      · have hf := it_neg z hf
        exact wL119 b2 b2 u H locs ls hw (lv_sub hl [0, 1] rfl) hf
  have wL90 : ∀ (k15 : Int32 → Int32 → SS → Option SS) (hk15 : ∀ (b2 : Int32) (b3 : Int32) (u : SS) (H : Heap) (locs : List Loc) (ls : Array Slot), VW wdB ev s u H locs → lv_has ls 5 [(0, .ref (ev.2.1 4)), (1, .ref (ev.2.1 3)), (2, .int b2), (3, .int b3)] → k15 b2 b3 u = some u' → W p l e (rmk 3) s m av below meth cd H locs 0 0 (ZV wdB ev s below av u') (F0 m 15 ls [])) (b2 : Int32) (b3 : Int32) (u : SS) (H : Heap) (locs : List Loc) (ls : Array Slot), VW wdB ev s u H locs → lv_has ls 5 [(0, .ref (ev.2.1 4)), (1, .ref (ev.2.1 3)), (2, .int b2), (3, .int b3)] → f_X7_work_L90 k15 b2 b3 u = some u' → W p l e (rmk 3) s m av below meth cd H locs 0 0 (ZV wdB ev s below av u') (F0 m 90 ls []) := by
    intro k15 hk15 b2 b3 u H locs ls hw hl hf
    unfold f_X7_work_L90 at hf
    obtain ⟨x12, ex12, hf⟩ := lt_some hf
    refine lv_iinc (v := x12) (lv' := [(3, .int x12), (0, .ref (ev.2.1 4)), (1, .ref (ev.2.1 3)), (2, .int b2)]) hx hb dX7_work_90 hl (k := 3) rfl (by rw [ex12]; rfl) (by decide) rfl (fun ls hl => ?_)
    refine lv_goto (tgt := 15) hx hb dX7_work_93 (by decide) ?_
    exact hk15 b2 x12 u H locs ls hw (lv_sub hl [1, 2, 3, 0] rfl) hf
  have wL15 : ∀ (n : Nat) (b2 : Int32) (b3 : Int32) (u : SS) (H : Heap) (locs : List Loc) (ls : Array Slot), VW wdB ev s u H locs → lv_has ls 5 [(0, .ref (ev.2.1 4)), (1, .ref (ev.2.1 3)), (2, .int b2), (3, .int b3)] → f_X7_work_L15 n b2 b3 u = some u' → W p l e (rmk 3) s m av below meth cd H locs 0 0 (ZV wdB ev s below av u') (F0 m 15 ls []) := by
    intro n
    induction n with
    | zero =>
      intro b2 b3 u H locs ls hw hl hf
      cases hf
    | succ n hk15 =>
      intro b2 b3 u H locs ls hw hl hf
      have hf : b_X7_work_L15 (f_X7_work_L15 n) b2 b3 u = some u' := hf
      unfold b_X7_work_L15 at hf
      refine lv_iload_n hx hb dX7_work_15 rfl (lv_at hl 3 rfl) ?_
      refine lv_aload_n hx hb dX7_work_16 rfl (lv_at hl 1 rfl) ?_
      refine gB3_1 hc hw fl_X7_146 dX7_work_17 ?_
      refine lv_icmp_ge (tgt := 96) hx hb dX7_work_20 (by decide) (fun z => ?_) (fun z => ?_)
      · have hf := it_pos z hf
        exact wL96 b2 u H locs ls hw (lv_sub hl [0, 2] rfl) hf
      · have hf := it_neg z hf
        refine lv_iload_n hx hb dX7_work_23 rfl (lv_at hl 3 rfl) ?_
        refine lv_bipush (v := (80 : Int32)) hx hb dX7_work_24 (by decide) ?_
        refine lv_icmp_ge (tgt := 96) hx hb dX7_work_26 (by decide) (fun z => ?_) (fun z => ?_)
        · have hf := it_pos z hf
          exact wL96 b2 u H locs ls hw (lv_sub hl [0, 2] rfl) hf
        · have hf := it_neg z hf
          refine lv_aload_n hx hb dX7_work_29 rfl (lv_at hl 0 rfl) ?_
          refine gB4_0 hc hw fl_X7_12 dX7_work_30 ?_
          refine gB8_2 hc hw fl_X7_140 dX7_work_33 ?_
          refine lv_if_ne (tgt := 96) hx hb dX7_work_36 (by decide) (fun z => ?_) (fun z => ?_)
          · have hf := it_neg z hf
            exact wL96 b2 u H locs ls hw (lv_sub hl [0, 2] rfl) hf
          · have hf := it_pos z hf
            refine lv_aload_n hx hb dX7_work_39 rfl (lv_at hl 1 rfl) ?_
            refine gB3_0 hc hw fl_X7_151 dX7_work_40 ?_
            refine lv_iload_n hx hb dX7_work_43 rfl (lv_at hl 3 rfl) ?_
            obtain ⟨z, hf⟩ := oi_some hf
            refine aB22 hc hw z dX7_work_44 ?_
            obtain ⟨x6, ex6, hf⟩ := lt_some hf
            refine tope ex6 ?_
            refine lv_istore (lv' := [(4, .int x6), (0, .ref (ev.2.1 4)), (1, .ref (ev.2.1 3)), (2, .int b2), (3, .int b3)]) hx hb dX7_work_45 hl (by decide) rfl (fun ls hl => ?_)
            refine lv_iload hx hb dX7_work_47 (lv_at hl 0 rfl) ?_
            refine lv_if_lt (tgt := 63) hx hb dX7_work_49 (by decide) (fun z => ?_) (fun z => ?_)
            · have hf := it_pos z hf
              refine lv_iload hx hb dX7_work_63 (lv_at hl 0 rfl) ?_
              refine lv_ineg hx hb dX7_work_65 ?_
              obtain ⟨r9, u8, h7, hf⟩ := ob_some hf
              refine endI okB hw (runS_ok (As := [.int (-x6)]) (rest := []) okB hc hw (c_X2_isName l ev (-x6) u h7 H.size) ks_X2_isName ml_X7_154 hl.1 rfl rfl (Nat.le_of_ble_eq_true rfl) (rm_le (by decide) (by decide)) dX7_work_66) (fun H locs hw => ?_)
              refine lv_if_eq (tgt := 83) hx hb dX7_work_69 (by decide) (fun z => ?_) (fun z => ?_)
              · have hf := it_pos z hf
                refine lv_aload_n hx hb dX7_work_83 rfl (lv_at hl 1 rfl) ?_
                refine lv_iload hx hb dX7_work_84 (lv_at hl 0 rfl) ?_
                refine lv_ineg hx hb dX7_work_86 ?_
                obtain ⟨u11, h10, hf⟩ := ov_some hf
                refine endV okB hw (runV_ok (As := [.int (-x6)]) (rest := []) okB hc hw (c_X7_operate l ev (-x6) u8 h10 H.size) kv_X7_operate ml_X7_136 (rvB4 ev u8) hl.1 rfl rfl (Nat.le_of_ble_eq_true rfl) (rm_le (by decide) (by decide)) dX7_work_87) (fun H locs hw => ?_)
                exact wL90 (f_X7_work_L15 n) hk15 b2 b3 u11 H locs ls hw (lv_sub hl [1, 2, 3, 4] rfl) hf
              · have hf := it_neg z hf
                refine lv_aload_n hx hb dX7_work_72 rfl (lv_at hl 1 rfl) ?_
                refine lv_iload hx hb dX7_work_73 (lv_at hl 0 rfl) ?_
                refine lv_ineg hx hb dX7_work_75 ?_
                refine lv_iload_n hx hb dX7_work_76 rfl (lv_at hl 3 rfl) ?_
                obtain ⟨u14, h13, hf⟩ := ov_some hf
                refine endV okB hw (runV_ok (As := [.int (-x6), .int b2]) (rest := []) okB hc hw (c_X7_pushName l ev (-x6) b2 u8 h13 H.size) kv_X7_pushName ml_X7_157 (rvB4 ev u8) hl.1 rfl rfl (Nat.le_of_ble_eq_true rfl) (rm_le (by decide) (by decide)) dX7_work_77) (fun H locs hw => ?_)
                refine lv_goto (tgt := 90) hx hb dX7_work_80 (by decide) ?_
                exact wL90 (f_X7_work_L15 n) hk15 b2 b3 u14 H locs ls hw (lv_sub hl [1, 2, 3, 4] rfl) hf
            · have hf := it_neg z hf
              refine lv_aload_n hx hb dX7_work_52 rfl (lv_at hl 1 rfl) ?_
              refine lv_iload hx hb dX7_work_53 (lv_at hl 0 rfl) ?_
              refine lv_i2l (v := x6.toInt64) hx hb dX7_work_55 rfl ?_
              refine lv_lconst (v := (1 : Int64)) hx hb dX7_work_56 (by decide) ?_
              obtain ⟨u16, h15, hf⟩ := ov_some hf
              refine endV okB hw (runV_ok (As := [.long (x6.toInt64), .long (1 : Int64)]) (rest := []) okB hc hw (c_X7_push l ev (x6.toInt64) (1 : Int64) u h15 H.size) kv_X7_push ml_X7_133 (rvB4 ev u) hl.1 rfl rfl (Nat.le_of_ble_eq_true rfl) (rm_le (by decide) (by decide)) dX7_work_57) (fun H locs hw => ?_)
              refine lv_goto (tgt := 90) hx hb dX7_work_60 (by decide) ?_
              exact wL90 (f_X7_work_L15 n) hk15 b2 b3 u16 H locs ls hw (lv_sub hl [1, 2, 3, 4] rfl) hf
  unfold f_X7_work at hf
  refine lv_aload_n hx hb dX7_work_0 rfl (lv_at hl 0 rfl) ?_
  refine lv_iconst (v := (0 : Int32)) hx hb dX7_work_1 (by decide) ?_
  refine pB4_12 hc hw fl_X7_143 dX7_work_2 (fun H locs hw => ?_)
  obtain ⟨u1, eu1, hf⟩ := lt_some hf
  have hw := VW.nm eu1 hw
  refine lv_aload_n hx hb dX7_work_5 rfl (lv_at hl 0 rfl) ?_
  refine gB4_0 hc hw fl_X7_12 dX7_work_6 ?_
  refine lv_iconst (v := (0 : Int32)) hx hb dX7_work_9 (by decide) ?_
  refine pB8_2 hc hw fl_X7_140 nz0 fz0 dX7_work_10 (fun H locs hw => ?_)
  obtain ⟨u2, eu2, hf⟩ := lt_some hf
  have hw := VW.nm eu2 hw
  refine lv_iconst (v := (0 : Int32)) hx hb dX7_work_13 (by decide) ?_
  refine lv_istore_n (lv' := [(3, .int (0 : Int32)), (0, .ref (ev.2.1 4)), (1, .ref (ev.2.1 3)), (2, .int a2)]) hx hb dX7_work_14 rfl hl (by decide) rfl (fun ls hl => ?_)
  exact wL15 FU a2 (0 : Int32) u2 H locs ls hw (lv_sub hl [1, 2, 3, 0] rfl) hf
def f_X9_refuseLong (a1 : Int32) (u : SS) : Option (Int64 × SS) :=
  ob (f_X9_refuse a1 u) fun r3 u2 => some (((4000000000000000000 : Int64) - (r3.toInt64)), u2)
set_option maxHeartbeats 4000000 in
set_option maxRecDepth 100000 in
theorem c_X9_refuseLong (l : Launch) (ev : EV) (a1 : Int32) (u : SS) {r : Int64} {u' : SS} (hf : f_X9_refuseLong a1 u = some (r, u')) : ML wdB l yX9_refuseLong cX9_refuseLong 2 (some .long) 1 ev [.ref (ev.2.1 0), .int a1] u r u' := by
  refine bodyL (by decide +kernel) rfl (Nat.le_of_ble_eq_true rfl) ?_
  intro p e s m below meth cd ls H locs hc hr hlk hw hl
  generalize hav : (List.toArray [.ref (ev.2.1 0), .int a1] : Array Value) = av at hc ⊢
  obtain ⟨hx, hb, hml, hown, hts, hK, hZ⟩ := id hc
  have hl : lv_has ls 2 [(0, .ref (ev.2.1 0)), (1, .int a1)] := hl
  unfold f_X9_refuseLong at hf
  refine lv_ldc2 (v := (4000000000000000000 : Int64)) hx hb hown (hts _ ct_X9_349) dX9_refuseLong_0 ?_
  refine lv_aload_n hx hb dX9_refuseLong_3 rfl (lv_at hl 0 rfl) ?_
  refine lv_iload_n hx hb dX9_refuseLong_4 rfl (lv_at hl 1 rfl) ?_
  obtain ⟨r3, u2, h1, hf⟩ := ob_some hf
  refine endI okB hw (runV_ok (As := [.int a1]) (rest := [.long (4000000000000000000 : Int64)]) okB hc hw (c_X9_refuse l ev a1 u h1 H.size) kv_X9_refuse ml_X9_62 (rvB0 ev u) hl.1 rfl rfl (Nat.le_of_ble_eq_true rfl) (rm_le (by decide) (by decide)) dX9_refuseLong_5) (fun H locs hw => ?_)
  refine lv_i2l (v := r3.toInt64) hx hb dX9_refuseLong_8 rfl ?_
  refine lv_lsub hx hb dX9_refuseLong_9 ?_
  exact retL hc hr hlk hw hf dX9_refuseLong_10
def f_X9_points (a1 : Int32) (a2 : Int32) (a3 : Int32) (u : SS) : Option (Int64 × SS) :=
  ob (f_X9_noBid a1 a2 u) fun r3 u2 => if r3 = 0 then (ob (f_X9_noPart a3 u2) fun r6 u5 => if r6 = 0 then (ob (f_X9_cell a1 a2 u5) fun r9 u8 => ob (f_X1_standsAt r9 u8) fun r12 u11 => if r12 = 0 then (ob (f_X9_refuseLong (-5 : Int32) u11) fun r22 u21 => some (r22, u21)) else (ov (f_X7_lay a2 (-1 : Int32) u11) fun u14 => ov (f_X7_work a1 u14) fun u16 => oi a1 8 (if (gA u16 18 a1.toNatClampNeg) = 0 then (if a3 = 0 then (oi a1 8 (some ((gL u16 2 a1.toNatClampNeg), u16))) else (oi a1 8 (some ((gL u16 3 a1.toNatClampNeg), u16)))) else (ob (f_X9_refuseLong (-7 : Int32) u16) fun r19 u18 => some (r19, u18))))) else (ob (f_X9_refuseLong (-2 : Int32) u5) fun r25 u24 => some (r25, u24))) else (ob (f_X9_refuseLong (-1 : Int32) u2) fun r28 u27 => some (r28, u27))
set_option maxHeartbeats 4000000 in
set_option maxRecDepth 100000 in
theorem c_X9_points (l : Launch) (ev : EV) (a1 : Int32) (a2 : Int32) (a3 : Int32) (u : SS) {r : Int64} {u' : SS} (hf : f_X9_points a1 a2 a3 u = some (r, u')) : ML wdB l yX9_points cX9_points 4 (some .long) 4 ev [.ref (ev.2.1 0), .int a1, .int a2, .int a3] u r u' := by
  refine bodyL (by decide +kernel) rfl (Nat.le_of_ble_eq_true rfl) ?_
  intro p e s m below meth cd ls H locs hc hr hlk hw hl
  generalize hav : (List.toArray [.ref (ev.2.1 0), .int a1, .int a2, .int a3] : Array Value) = av at hc ⊢
  obtain ⟨hx, hb, hml, hown, hts, hK, hZ⟩ := id hc
  have hl : lv_has ls 4 [(0, .ref (ev.2.1 0)), (1, .int a1), (2, .int a2), (3, .int a3)] := hl
  unfold f_X9_points at hf
  refine lv_aload_n hx hb dX9_points_0 rfl (lv_at hl 0 rfl) ?_
  refine lv_iload_n hx hb dX9_points_1 rfl (lv_at hl 1 rfl) ?_
  refine lv_iload_n hx hb dX9_points_2 rfl (lv_at hl 2 rfl) ?_
  obtain ⟨r3, u2, h1, hf⟩ := ob_some hf
  refine endI okB hw (runV_ok (As := [.int a1, .int a2]) (rest := []) okB hc hw (c_X9_noBid l ev a1 a2 u h1 H.size) kv_X9_noBid ml_X9_93 (rvB0 ev u) hl.1 rfl rfl (Nat.le_of_ble_eq_true rfl) (rm_le (by decide) (by decide)) dX9_points_3) (fun H locs hw => ?_)
  refine lv_if_eq (tgt := 15) hx hb dX9_points_6 (by decide) (fun z => ?_) (fun z => ?_)
  · have hf := it_pos z hf
    refine lv_iload_n hx hb dX9_points_15 rfl (lv_at hl 3 rfl) ?_
    obtain ⟨r6, u5, h4, hf⟩ := ob_some hf
    refine endI okB hw (runS_ok (As := [.int a3]) (rest := []) okB hc hw (c_X9_noPart l ev a3 u2 h4 H.size) ks_X9_noPart ml_X9_151 hl.1 rfl rfl (Nat.le_of_ble_eq_true rfl) (rm_le (by decide) (by decide)) dX9_points_16) (fun H locs hw => ?_)
    refine lv_if_eq (tgt := 29) hx hb dX9_points_19 (by decide) (fun z => ?_) (fun z => ?_)
    · have hf := it_pos z hf
      refine lv_aload_n hx hb dX9_points_29 rfl (lv_at hl 0 rfl) ?_
      refine gB0_0 hc hw fl_X9_12 dX9_points_30 ?_
      refine lv_iload_n hx hb dX9_points_33 rfl (lv_at hl 1 rfl) ?_
      refine lv_iload_n hx hb dX9_points_34 rfl (lv_at hl 2 rfl) ?_
      obtain ⟨r9, u8, h7, hf⟩ := ob_some hf
      refine endI okB hw (runS_ok (As := [.int a1, .int a2]) (rest := [.ref (ev.2.1 1)]) okB hc hw (c_X9_cell l ev a1 a2 u5 h7 H.size) ks_X9_cell ml_X9_110 hl.1 rfl rfl (Nat.le_of_ble_eq_true rfl) (rm_le (by decide) (by decide)) dX9_points_35) (fun H locs hw => ?_)
      obtain ⟨r12, u11, h10, hf⟩ := ob_some hf
      refine endI okB hw (runV_ok (As := [.int r9]) (rest := []) okB hc hw (c_X1_standsAt l ev r9 u8 h10 H.size) kv_X1_standsAt ml_X9_138 (rvB1 ev u8) hl.1 rfl rfl (Nat.le_of_ble_eq_true rfl) (rm_le (by decide) (by decide)) dX9_points_38) (fun H locs hw => ?_)
      refine lv_if_ne (tgt := 51) hx hb dX9_points_41 (by decide) (fun z => ?_) (fun z => ?_)
      · have hf := it_neg z hf
        refine lv_aload_n hx hb dX9_points_51 rfl (lv_at hl 0 rfl) ?_
        refine gB0_3 hc hw fl_X9_33 dX9_points_52 ?_
        refine lv_aload_n hx hb dX9_points_55 rfl (lv_at hl 0 rfl) ?_
        refine gB0_0 hc hw fl_X9_12 dX9_points_56 ?_
        refine lv_aload_n hx hb dX9_points_59 rfl (lv_at hl 0 rfl) ?_
        refine gB0_1 hc hw fl_X9_19 dX9_points_60 ?_
        refine lv_iload_n hx hb dX9_points_63 rfl (lv_at hl 2 rfl) ?_
        refine lv_iconst (v := (-1 : Int32)) hx hb dX9_points_64 (by decide) ?_
        obtain ⟨u14, h13, hf⟩ := ov_some hf
        refine endV okB hw (runV_ok (As := [.ref (ev.2.1 1), .ref (ev.2.1 2), .int a2, .int (-1 : Int32)]) (rest := []) okB hc hw (c_X7_lay l ev a2 (-1 : Int32) u11 h13 H.size) kv_X7_lay ml_X9_154 (rvB4 ev u11) hl.1 rfl rfl (Nat.le_of_ble_eq_true rfl) (rm_le (by decide) (by decide)) dX9_points_65) (fun H locs hw => ?_)
        refine lv_aload_n hx hb dX9_points_68 rfl (lv_at hl 0 rfl) ?_
        refine gB0_3 hc hw fl_X9_33 dX9_points_69 ?_
        refine lv_aload_n hx hb dX9_points_72 rfl (lv_at hl 0 rfl) ?_
        refine gB0_2 hc hw fl_X9_26 dX9_points_73 ?_
        refine lv_iload_n hx hb dX9_points_76 rfl (lv_at hl 1 rfl) ?_
        obtain ⟨u16, h15, hf⟩ := ov_some hf
        refine endV okB hw (runV_ok (As := [.ref (ev.2.1 3), .int a1]) (rest := []) okB hc hw (c_X7_work l ev a1 u14 h15 H.size) kv_X7_work ml_X9_180 (rvB4 ev u14) hl.1 rfl rfl (Nat.le_of_ble_eq_true rfl) (rm_le (by decide) (by decide)) dX9_points_77) (fun H locs hw => ?_)
        refine lv_aload_n hx hb dX9_points_80 rfl (lv_at hl 0 rfl) ?_
        refine gB0_3 hc hw fl_X9_33 dX9_points_81 ?_
        refine gB4_7 hc hw fl_X9_184 dX9_points_84 ?_
        refine lv_iload_n hx hb dX9_points_87 rfl (lv_at hl 1 rfl) ?_
        obtain ⟨z, hf⟩ := oi_some hf
        refine aB31 hc hw z dX9_points_88 ?_
        refine lv_if_eq (tgt := 99) hx hb dX9_points_89 (by decide) (fun z => ?_) (fun z => ?_)
        · have hf := it_pos z hf
          refine lv_iload_n hx hb dX9_points_99 rfl (lv_at hl 3 rfl) ?_
          refine lv_if_ne (tgt := 115) hx hb dX9_points_100 (by decide) (fun z => ?_) (fun z => ?_)
          · have hf := it_neg z hf
            refine lv_aload_n hx hb dX9_points_115 rfl (lv_at hl 0 rfl) ?_
            refine gB0_3 hc hw fl_X9_33 dX9_points_116 ?_
            refine gB4_6 hc hw fl_X9_190 dX9_points_119 ?_
            refine lv_iload_n hx hb dX9_points_122 rfl (lv_at hl 1 rfl) ?_
            obtain ⟨z, hf⟩ := oi_some hf
            refine aB30 hc hw z dX9_points_123 ?_
            exact retL hc hr hlk hw hf dX9_points_124
          · have hf := it_pos z hf
            refine lv_aload_n hx hb dX9_points_103 rfl (lv_at hl 0 rfl) ?_
            refine gB0_3 hc hw fl_X9_33 dX9_points_104 ?_
            refine gB4_5 hc hw fl_X9_187 dX9_points_107 ?_
            refine lv_iload_n hx hb dX9_points_110 rfl (lv_at hl 1 rfl) ?_
            obtain ⟨z, hf⟩ := oi_some hf
            refine aB29 hc hw z dX9_points_111 ?_
            refine lv_goto (tgt := 124) hx hb dX9_points_112 (by decide) ?_
            exact retL hc hr hlk hw hf dX9_points_124
        · have hf := it_neg z hf
          refine lv_aload_n hx hb dX9_points_92 rfl (lv_at hl 0 rfl) ?_
          refine lv_bipush (v := (-7 : Int32)) hx hb dX9_points_93 (by decide) ?_
          obtain ⟨r19, u18, h17, hf⟩ := ob_some hf
          refine endL okB hw (runV_ok (As := [.int (-7 : Int32)]) (rest := []) okB hc hw (c_X9_refuseLong l ev (-7 : Int32) u16 h17 H.size) kv_X9_refuseLong ml_X9_176 (rvB0 ev u16) hl.1 rfl rfl (Nat.le_of_ble_eq_true rfl) (rm_le (by decide) (by decide)) dX9_points_95) (fun H locs hw => ?_)
          exact retL hc hr hlk hw hf dX9_points_98
      · have hf := it_pos z hf
        refine lv_aload_n hx hb dX9_points_44 rfl (lv_at hl 0 rfl) ?_
        refine lv_bipush (v := (-5 : Int32)) hx hb dX9_points_45 (by decide) ?_
        obtain ⟨r22, u21, h20, hf⟩ := ob_some hf
        refine endL okB hw (runV_ok (As := [.int (-5 : Int32)]) (rest := []) okB hc hw (c_X9_refuseLong l ev (-5 : Int32) u11 h20 H.size) kv_X9_refuseLong ml_X9_176 (rvB0 ev u11) hl.1 rfl rfl (Nat.le_of_ble_eq_true rfl) (rm_le (by decide) (by decide)) dX9_points_47) (fun H locs hw => ?_)
        exact retL hc hr hlk hw hf dX9_points_50
    · have hf := it_neg z hf
      refine lv_aload_n hx hb dX9_points_22 rfl (lv_at hl 0 rfl) ?_
      refine lv_bipush (v := (-2 : Int32)) hx hb dX9_points_23 (by decide) ?_
      obtain ⟨r25, u24, h23, hf⟩ := ob_some hf
      refine endL okB hw (runV_ok (As := [.int (-2 : Int32)]) (rest := []) okB hc hw (c_X9_refuseLong l ev (-2 : Int32) u5 h23 H.size) kv_X9_refuseLong ml_X9_176 (rvB0 ev u5) hl.1 rfl rfl (Nat.le_of_ble_eq_true rfl) (rm_le (by decide) (by decide)) dX9_points_25) (fun H locs hw => ?_)
      exact retL hc hr hlk hw hf dX9_points_28
  · have hf := it_neg z hf
    refine lv_aload_n hx hb dX9_points_9 rfl (lv_at hl 0 rfl) ?_
    refine lv_iconst (v := (-1 : Int32)) hx hb dX9_points_10 (by decide) ?_
    obtain ⟨r28, u27, h26, hf⟩ := ob_some hf
    refine endL okB hw (runV_ok (As := [.int (-1 : Int32)]) (rest := []) okB hc hw (c_X9_refuseLong l ev (-1 : Int32) u2 h26 H.size) kv_X9_refuseLong ml_X9_176 (rvB0 ev u2) hl.1 rfl rfl (Nat.le_of_ble_eq_true rfl) (rm_le (by decide) (by decide)) dX9_points_11) (fun H locs hw => ?_)
    exact retL hc hr hlk hw hf dX9_points_14
def f_J13_compare_74951 (a0 : Int64) (a2 : Int64) (u : SS) : Option (Int32 × SS) :=
  if 0 ≤ (lg_cmp a0 a2) then (if (lg_cmp a0 a2) = 0 then (some ((0 : Int32), u)) else (some ((1 : Int32), u))) else (some ((-1 : Int32), u))
set_option maxHeartbeats 4000000 in
set_option maxRecDepth 100000 in
theorem c_J13_compare_74951 (l : Launch) (ev : EV) (a0 : Int64) (a2 : Int64) (u : SS) {r : Int32} {u' : SS} (hf : f_J13_compare_74951 a0 a2 u = some (r, u')) : MI wdB l yJ13_compare_74951 cJ13_compare_74951 4 (some .int) 0 ev [.long a0, .long a2] u r u' := by
  refine bodyI (by decide +kernel) rfl (Nat.le_of_ble_eq_true rfl) ?_
  intro p e s m below meth cd ls H locs hc hr hlk hw hl
  generalize hav : (List.toArray [.long a0, .long a2] : Array Value) = av at hc ⊢
  obtain ⟨hx, hb, hml, hown, hts, hK, hZ⟩ := id hc
  have hl : lv_has ls 4 [(0, .long a0), (2, .long a2)] := hl
  unfold f_J13_compare_74951 at hf
  refine lv_lload_n hx hb dJ13_compare_74951_0 rfl (lv_at hl 0 rfl) ?_
  refine lv_lload_n hx hb dJ13_compare_74951_1 rfl (lv_at hl 1 rfl) ?_
  refine W.lcmp hx hb dJ13_compare_74951_2 ?_
  refine lv_if_ge (tgt := 10) hx hb dJ13_compare_74951_3 (by decide) (fun z => ?_) (fun z => ?_)
  · have hf := it_pos z hf
    refine lv_lload_n hx hb dJ13_compare_74951_10 rfl (lv_at hl 0 rfl) ?_
    refine lv_lload_n hx hb dJ13_compare_74951_11 rfl (lv_at hl 1 rfl) ?_
    refine W.lcmp hx hb dJ13_compare_74951_12 ?_
    refine lv_if_ne (tgt := 20) hx hb dJ13_compare_74951_13 (by decide) (fun z => ?_) (fun z => ?_)
    · have hf := it_neg z hf
      refine lv_iconst (v := (1 : Int32)) hx hb dJ13_compare_74951_20 (by decide) ?_
      exact retI hc hr hlk hw hf dJ13_compare_74951_21
    · have hf := it_pos z hf
      refine lv_iconst (v := (0 : Int32)) hx hb dJ13_compare_74951_16 (by decide) ?_
      refine lv_goto (tgt := 21) hx hb dJ13_compare_74951_17 (by decide) ?_
      exact retI hc hr hlk hw hf dJ13_compare_74951_21
  · have hf := it_neg z hf
    refine lv_iconst (v := (-1 : Int32)) hx hb dJ13_compare_74951_6 (by decide) ?_
    refine lv_goto (tgt := 21) hx hb dJ13_compare_74951_7 (by decide) ?_
    exact retI hc hr hlk hw hf dJ13_compare_74951_21
def f_X7_isAhead (a1 : Int32) (a2 : Int32) (u : SS) : Option (Int32 × SS) :=
  oi a1 8 (oi a2 8 (oi a2 8 (oi a1 8 (ob (f_J13_compare_74951 ((gL u 2 a1.toNatClampNeg) * (gL u 3 a2.toNatClampNeg)) ((gL u 2 a2.toNatClampNeg) * (gL u 3 a1.toNatClampNeg)) u) fun r3 u2 => if r3 = 0 then (oi a1 8 (oi a2 8 (oi a2 8 (oi a1 8 (ob (f_J13_compare_74951 ((gL u2 0 a1.toNatClampNeg) * (gL u2 1 a2.toNatClampNeg)) ((gL u2 0 a2.toNatClampNeg) * (gL u2 1 a1.toNatClampNeg)) u2) fun r6 u5 => if r6 = 0 then (oi a1 8 (oi a2 8 (if (gA u5 17 a1.toNatClampNeg) = (gA u5 17 a2.toNatClampNeg) then (if a2 ≤ a1 then (some ((0 : Int32), u5)) else (some ((1 : Int32), u5))) else (oi a1 8 (oi a2 8 (if (gA u5 17 a2.toNatClampNeg) ≤ (gA u5 17 a1.toNatClampNeg) then (some ((0 : Int32), u5)) else (some ((1 : Int32), u5)))))))) else (if r6 ≤ 0 then (some ((0 : Int32), u5)) else (some ((1 : Int32), u5)))))))) else (if r3 ≤ 0 then (some ((0 : Int32), u2)) else (some ((1 : Int32), u2)))))))
set_option maxHeartbeats 4000000 in
set_option maxRecDepth 100000 in
theorem c_X7_isAhead (l : Launch) (ev : EV) (a1 : Int32) (a2 : Int32) (u : SS) {r : Int32} {u' : SS} (hf : f_X7_isAhead a1 a2 u = some (r, u')) : MI wdB l yX7_isAhead cX7_isAhead 5 (some .boolean) 1 ev [.ref (ev.2.1 4), .int a1, .int a2] u r u' := by
  refine bodyI (by decide +kernel) rfl (Nat.le_of_ble_eq_true rfl) ?_
  intro p e s m below meth cd ls H locs hc hr hlk hw hl
  generalize hav : (List.toArray [.ref (ev.2.1 4), .int a1, .int a2] : Array Value) = av at hc ⊢
  obtain ⟨hx, hb, hml, hown, hts, hK, hZ⟩ := id hc
  have hl : lv_has ls 5 [(0, .ref (ev.2.1 4)), (1, .int a1), (2, .int a2)] := hl
  unfold f_X7_isAhead at hf
  refine lv_aload_n hx hb dX7_isAhead_0 rfl (lv_at hl 0 rfl) ?_
  refine gB4_5 hc hw fl_X7_33 dX7_isAhead_1 ?_
  refine lv_iload_n hx hb dX7_isAhead_4 rfl (lv_at hl 1 rfl) ?_
  obtain ⟨z, hf⟩ := oi_some hf
  refine aB29 hc hw z dX7_isAhead_5 ?_
  refine lv_aload_n hx hb dX7_isAhead_6 rfl (lv_at hl 0 rfl) ?_
  refine gB4_6 hc hw fl_X7_36 dX7_isAhead_7 ?_
  refine lv_iload_n hx hb dX7_isAhead_10 rfl (lv_at hl 2 rfl) ?_
  obtain ⟨z, hf⟩ := oi_some hf
  refine aB30 hc hw z dX7_isAhead_11 ?_
  refine lv_lmul hx hb dX7_isAhead_12 ?_
  refine lv_aload_n hx hb dX7_isAhead_13 rfl (lv_at hl 0 rfl) ?_
  refine gB4_5 hc hw fl_X7_33 dX7_isAhead_14 ?_
  refine lv_iload_n hx hb dX7_isAhead_17 rfl (lv_at hl 2 rfl) ?_
  obtain ⟨z, hf⟩ := oi_some hf
  refine aB29 hc hw z dX7_isAhead_18 ?_
  refine lv_aload_n hx hb dX7_isAhead_19 rfl (lv_at hl 0 rfl) ?_
  refine gB4_6 hc hw fl_X7_36 dX7_isAhead_20 ?_
  refine lv_iload_n hx hb dX7_isAhead_23 rfl (lv_at hl 1 rfl) ?_
  obtain ⟨z, hf⟩ := oi_some hf
  refine aB30 hc hw z dX7_isAhead_24 ?_
  refine lv_lmul hx hb dX7_isAhead_25 ?_
  obtain ⟨r3, u2, h1, hf⟩ := ob_some hf
  refine endI okB hw (runS_ok (As := [.long ((gL u 2 a1.toNatClampNeg) * (gL u 3 a2.toNatClampNeg)), .long ((gL u 2 a2.toNatClampNeg) * (gL u 3 a1.toNatClampNeg))]) (rest := []) okB hc hw (c_J13_compare_74951 l ev ((gL u 2 a1.toNatClampNeg) * (gL u 3 a2.toNatClampNeg)) ((gL u 2 a2.toNatClampNeg) * (gL u 3 a1.toNatClampNeg)) u h1 H.size) ks_J13_compare_74951 ml_X7_171 hl.1 rfl rfl (Nat.le_of_ble_eq_true rfl) (rm_le (by decide) (by decide)) dX7_isAhead_26) (fun H locs hw => ?_)
  refine lv_istore_n (lv' := [(3, .int r3), (0, .ref (ev.2.1 4)), (1, .int a1), (2, .int a2)]) hx hb dX7_isAhead_29 rfl hl (by decide) rfl (fun ls hl => ?_)
  refine lv_iload_n hx hb dX7_isAhead_30 rfl (lv_at hl 0 rfl) ?_
  refine lv_if_eq (tgt := 44) hx hb dX7_isAhead_31 (by decide) (fun z => ?_) (fun z => ?_)
  · have hf := it_pos z hf
    refine lv_aload_n hx hb dX7_isAhead_44 rfl (lv_at hl 1 rfl) ?_
    refine gB4_3 hc hw fl_X7_26 dX7_isAhead_45 ?_
    refine lv_iload_n hx hb dX7_isAhead_48 rfl (lv_at hl 2 rfl) ?_
    obtain ⟨z, hf⟩ := oi_some hf
    refine aB27 hc hw z dX7_isAhead_49 ?_
    refine lv_aload_n hx hb dX7_isAhead_50 rfl (lv_at hl 1 rfl) ?_
    refine gB4_4 hc hw fl_X7_30 dX7_isAhead_51 ?_
    refine lv_iload_n hx hb dX7_isAhead_54 rfl (lv_at hl 3 rfl) ?_
    obtain ⟨z, hf⟩ := oi_some hf
    refine aB28 hc hw z dX7_isAhead_55 ?_
    refine lv_lmul hx hb dX7_isAhead_56 ?_
    refine lv_aload_n hx hb dX7_isAhead_57 rfl (lv_at hl 1 rfl) ?_
    refine gB4_3 hc hw fl_X7_26 dX7_isAhead_58 ?_
    refine lv_iload_n hx hb dX7_isAhead_61 rfl (lv_at hl 3 rfl) ?_
    obtain ⟨z, hf⟩ := oi_some hf
    refine aB27 hc hw z dX7_isAhead_62 ?_
    refine lv_aload_n hx hb dX7_isAhead_63 rfl (lv_at hl 1 rfl) ?_
    refine gB4_4 hc hw fl_X7_30 dX7_isAhead_64 ?_
    refine lv_iload_n hx hb dX7_isAhead_67 rfl (lv_at hl 2 rfl) ?_
    obtain ⟨z, hf⟩ := oi_some hf
    refine aB28 hc hw z dX7_isAhead_68 ?_
    refine lv_lmul hx hb dX7_isAhead_69 ?_
    obtain ⟨r6, u5, h4, hf⟩ := ob_some hf
    refine endI okB hw (runS_ok (As := [.long ((gL u2 0 a1.toNatClampNeg) * (gL u2 1 a2.toNatClampNeg)), .long ((gL u2 0 a2.toNatClampNeg) * (gL u2 1 a1.toNatClampNeg))]) (rest := []) okB hc hw (c_J13_compare_74951 l ev ((gL u2 0 a1.toNatClampNeg) * (gL u2 1 a2.toNatClampNeg)) ((gL u2 0 a2.toNatClampNeg) * (gL u2 1 a1.toNatClampNeg)) u2 h4 H.size) ks_J13_compare_74951 ml_X7_171 hl.1 rfl rfl (Nat.le_of_ble_eq_true rfl) (rm_le (by decide) (by decide)) dX7_isAhead_70) (fun H locs hw => ?_)
    refine lv_istore (lv' := [(4, .int r6), (3, .int r3), (0, .ref (ev.2.1 4)), (1, .int a1), (2, .int a2)]) hx hb dX7_isAhead_73 hl (by decide) rfl (fun ls hl => ?_)
    refine lv_iload hx hb dX7_isAhead_75 (lv_at hl 0 rfl) ?_
    refine lv_if_eq (tgt := 91) hx hb dX7_isAhead_77 (by decide) (fun z => ?_) (fun z => ?_)
    · have hf := it_pos z hf
      refine lv_aload_n hx hb dX7_isAhead_91 rfl (lv_at hl 2 rfl) ?_
      refine gB4_2 hc hw fl_X7_22 dX7_isAhead_92 ?_
      refine lv_iload_n hx hb dX7_isAhead_95 rfl (lv_at hl 3 rfl) ?_
      obtain ⟨z, hf⟩ := oi_some hf
      refine aB26 hc hw z dX7_isAhead_96 ?_
      refine lv_aload_n hx hb dX7_isAhead_97 rfl (lv_at hl 2 rfl) ?_
      refine gB4_2 hc hw fl_X7_22 dX7_isAhead_98 ?_
      refine lv_iload_n hx hb dX7_isAhead_101 rfl (lv_at hl 4 rfl) ?_
      obtain ⟨z, hf⟩ := oi_some hf
      refine aB26 hc hw z dX7_isAhead_102 ?_
      refine lv_icmp_eq (tgt := 129) hx hb dX7_isAhead_103 (by decide) (fun z => ?_) (fun z => ?_)
      · have hf := it_pos z hf
        refine lv_iload_n hx hb dX7_isAhead_129 rfl (lv_at hl 3 rfl) ?_
        refine lv_iload_n hx hb dX7_isAhead_130 rfl (lv_at hl 4 rfl) ?_
        refine lv_icmp_ge (tgt := 138) hx hb dX7_isAhead_131 (by decide) (fun z => ?_) (fun z => ?_)
        · have hf := it_pos z hf
          refine lv_iconst (v := (0 : Int32)) hx hb dX7_isAhead_138 (by decide) ?_
          exact retZ hc hr hlk hw nz0 hf dX7_isAhead_139
        · have hf := it_neg z hf
          refine lv_iconst (v := (1 : Int32)) hx hb dX7_isAhead_134 (by decide) ?_
          refine lv_goto (tgt := 139) hx hb dX7_isAhead_135 (by decide) ?_
          exact retZ hc hr hlk hw nz1 hf dX7_isAhead_139
      · have hf := it_neg z hf
        refine lv_aload_n hx hb dX7_isAhead_106 rfl (lv_at hl 2 rfl) ?_
        refine gB4_2 hc hw fl_X7_22 dX7_isAhead_107 ?_
        refine lv_iload_n hx hb dX7_isAhead_110 rfl (lv_at hl 3 rfl) ?_
        obtain ⟨z, hf⟩ := oi_some hf
        refine aB26 hc hw z dX7_isAhead_111 ?_
        refine lv_aload_n hx hb dX7_isAhead_112 rfl (lv_at hl 2 rfl) ?_
        refine gB4_2 hc hw fl_X7_22 dX7_isAhead_113 ?_
        refine lv_iload_n hx hb dX7_isAhead_116 rfl (lv_at hl 4 rfl) ?_
        obtain ⟨z, hf⟩ := oi_some hf
        refine aB26 hc hw z dX7_isAhead_117 ?_
        refine lv_icmp_ge (tgt := 125) hx hb dX7_isAhead_118 (by decide) (fun z => ?_) (fun z => ?_)
        · have hf := it_pos z hf
          refine lv_iconst (v := (0 : Int32)) hx hb dX7_isAhead_125 (by decide) ?_
          refine lv_goto (tgt := 139) hx hb dX7_isAhead_126 (by decide) ?_
          exact retZ hc hr hlk hw nz0 hf dX7_isAhead_139
        · have hf := it_neg z hf
          refine lv_iconst (v := (1 : Int32)) hx hb dX7_isAhead_121 (by decide) ?_
          refine lv_goto (tgt := 139) hx hb dX7_isAhead_122 (by decide) ?_
          exact retZ hc hr hlk hw nz1 hf dX7_isAhead_139
    · have hf := it_neg z hf
      refine lv_iload hx hb dX7_isAhead_80 (lv_at hl 0 rfl) ?_
      refine lv_if_le (tgt := 89) hx hb dX7_isAhead_82 (by decide) (fun z => ?_) (fun z => ?_)
      · have hf := it_pos z hf
        refine lv_iconst (v := (0 : Int32)) hx hb dX7_isAhead_89 (by decide) ?_
        exact retZ hc hr hlk hw nz0 hf dX7_isAhead_90
      · have hf := it_neg z hf
        refine lv_iconst (v := (1 : Int32)) hx hb dX7_isAhead_85 (by decide) ?_
        refine lv_goto (tgt := 90) hx hb dX7_isAhead_86 (by decide) ?_
        exact retZ hc hr hlk hw nz1 hf dX7_isAhead_90
  · have hf := it_neg z hf
    refine lv_iload_n hx hb dX7_isAhead_34 rfl (lv_at hl 0 rfl) ?_
    refine lv_if_le (tgt := 42) hx hb dX7_isAhead_35 (by decide) (fun z => ?_) (fun z => ?_)
    · have hf := it_pos z hf
      refine lv_iconst (v := (0 : Int32)) hx hb dX7_isAhead_42 (by decide) ?_
      exact retZ hc hr hlk hw nz0 hf dX7_isAhead_43
    · have hf := it_neg z hf
      refine lv_iconst (v := (1 : Int32)) hx hb dX7_isAhead_38 (by decide) ?_
      refine lv_goto (tgt := 43) hx hb dX7_isAhead_39 (by decide) ?_
      exact retZ hc hr hlk hw nz1 hf dX7_isAhead_43
def b_X7_insert_L15 (k15 : Int32 → Int32 → SS → Option SS) (b1 : Int32) (b2 : Int32) (u : SS) : Option SS :=
  if b2 ≤ 0 then (oi b2 8 (lt (tA u 19 b2 b1) fun u3 => some u3)) else (oi (b2 - (1 : Int32)) 8 (ob (f_X7_isAhead b1 (gA u 19 (b2 - (1 : Int32)).toNatClampNeg) u) fun r6 u5 => if r6 = 0 then (oi b2 8 (lt (tA u5 19 b2 b1) fun u7 => some u7)) else (oi (b2 - (1 : Int32)) 8 (oi b2 8 (lt (tA u5 19 b2 (gA u5 19 (b2 - (1 : Int32)).toNatClampNeg)) fun u8 => lt (b2 + (-1 : Int32)) fun x9 => k15 b1 x9 u8)))))
def f_X7_insert_L15 : Nat → Int32 → Int32 → SS → Option SS
  | 0 => fun _ _ _ => none
  | n + 1 => b_X7_insert_L15 (f_X7_insert_L15 n)
def f_X7_insert (a1 : Int32) (u : SS) : Option SS :=
  lt (gI u 10) fun x1 => lt (sI u 10 ((gI u 10) + (1 : Int32))) fun u2 => f_X7_insert_L15 FU a1 x1 u2
set_option maxHeartbeats 4000000 in
set_option maxRecDepth 100000 in
theorem c_X7_insert (l : Launch) (ev : EV) (a1 : Int32) (u : SS) {u' : SS} (hf : f_X7_insert a1 u = some u') : MV wdB l yX7_insert cX7_insert 3 none 2 ev [.ref (ev.2.1 4), .int a1] u u' := by
  refine bodyV (by decide +kernel) rfl (Nat.le_of_ble_eq_true rfl) ?_
  intro p e s m below meth cd ls H locs hc hr hlk hw hl
  generalize hav : (List.toArray [.ref (ev.2.1 4), .int a1] : Array Value) = av at hc ⊢
  obtain ⟨hx, hb, hml, hown, hts, hK, hZ⟩ := id hc
  have hl : lv_has ls 3 [(0, .ref (ev.2.1 4)), (1, .int a1)] := hl
  have wL15 : ∀ (n : Nat) (b1 : Int32) (b2 : Int32) (u : SS) (H : Heap) (locs : List Loc) (ls : Array Slot), VW wdB ev s u H locs → lv_has ls 3 [(0, .ref (ev.2.1 4)), (1, .int b1), (2, .int b2)] → f_X7_insert_L15 n b1 b2 u = some u' → W p l e (rmk 2) s m av below meth cd H locs 0 0 (ZV wdB ev s below av u') (F0 m 15 ls []) := by
    intro n
    induction n with
    | zero =>
      intro b1 b2 u H locs ls hw hl hf
      cases hf
    | succ n hk15 =>
      intro b1 b2 u H locs ls hw hl hf
      have hf : b_X7_insert_L15 (f_X7_insert_L15 n) b1 b2 u = some u' := hf
      unfold b_X7_insert_L15 at hf
      refine lv_iload_n hx hb dX7_insert_15 rfl (lv_at hl 2 rfl) ?_
      refine lv_if_le (tgt := 55) hx hb dX7_insert_16 (by decide) (fun z => ?_) (fun z => ?_)
      · have hf := it_pos z hf
        refine lv_aload_n hx hb dX7_insert_55 rfl (lv_at hl 0 rfl) ?_
        refine gB4_8 hc hw fl_X7_42 dX7_insert_56 ?_
        refine lv_iload_n hx hb dX7_insert_59 rfl (lv_at hl 2 rfl) ?_
        refine lv_iload_n hx hb dX7_insert_60 rfl (lv_at hl 1 rfl) ?_
        obtain ⟨z, hf⟩ := oi_some hf
        refine tB32 hc hw z dX7_insert_61 (fun H locs hw => ?_)
        obtain ⟨u3, eu3, hf⟩ := lt_some hf
        have hw := VW.nm eu3 hw
        exact retV hc hr hlk hw hf dX7_insert_62
      · have hf := it_neg z hf
        refine lv_aload_n hx hb dX7_insert_19 rfl (lv_at hl 0 rfl) ?_
        refine lv_iload_n hx hb dX7_insert_20 rfl (lv_at hl 1 rfl) ?_
        refine lv_aload_n hx hb dX7_insert_21 rfl (lv_at hl 0 rfl) ?_
        refine gB4_8 hc hw fl_X7_42 dX7_insert_22 ?_
        refine lv_iload_n hx hb dX7_insert_25 rfl (lv_at hl 2 rfl) ?_
        refine lv_iconst (v := (1 : Int32)) hx hb dX7_insert_26 (by decide) ?_
        refine lv_isub hx hb dX7_insert_27 ?_
        obtain ⟨z, hf⟩ := oi_some hf
        refine aB32 hc hw z dX7_insert_28 ?_
        obtain ⟨r6, u5, h4, hf⟩ := ob_some hf
        refine endI okB hw (runV_ok (As := [.int b1, .int (gA u 19 (b2 - (1 : Int32)).toNatClampNeg)]) (rest := []) okB hc hw (c_X7_isAhead l ev b1 (gA u 19 (b2 - (1 : Int32)).toNatClampNeg) u h4 H.size) kv_X7_isAhead ml_X7_167 (rvB4 ev u) hl.1 rfl rfl (Nat.le_of_ble_eq_true rfl) (rm_le (by decide) (by decide)) dX7_insert_29) (fun H locs hw => ?_)
        refine lv_if_eq (tgt := 55) hx hb dX7_insert_32 (by decide) (fun z => ?_) (fun z => ?_)
        · have hf := it_pos z hf
          refine lv_aload_n hx hb dX7_insert_55 rfl (lv_at hl 0 rfl) ?_
          refine gB4_8 hc hw fl_X7_42 dX7_insert_56 ?_
          refine lv_iload_n hx hb dX7_insert_59 rfl (lv_at hl 2 rfl) ?_
          refine lv_iload_n hx hb dX7_insert_60 rfl (lv_at hl 1 rfl) ?_
          obtain ⟨z, hf⟩ := oi_some hf
          refine tB32 hc hw z dX7_insert_61 (fun H locs hw => ?_)
          obtain ⟨u7, eu7, hf⟩ := lt_some hf
          have hw := VW.nm eu7 hw
          exact retV hc hr hlk hw hf dX7_insert_62
        · have hf := it_neg z hf
          refine lv_aload_n hx hb dX7_insert_35 rfl (lv_at hl 0 rfl) ?_
          refine gB4_8 hc hw fl_X7_42 dX7_insert_36 ?_
          refine lv_iload_n hx hb dX7_insert_39 rfl (lv_at hl 2 rfl) ?_
          refine lv_aload_n hx hb dX7_insert_40 rfl (lv_at hl 0 rfl) ?_
          refine gB4_8 hc hw fl_X7_42 dX7_insert_41 ?_
          refine lv_iload_n hx hb dX7_insert_44 rfl (lv_at hl 2 rfl) ?_
          refine lv_iconst (v := (1 : Int32)) hx hb dX7_insert_45 (by decide) ?_
          refine lv_isub hx hb dX7_insert_46 ?_
          obtain ⟨z, hf⟩ := oi_some hf
          refine aB32 hc hw z dX7_insert_47 ?_
          obtain ⟨z, hf⟩ := oi_some hf
          refine tB32 hc hw z dX7_insert_48 (fun H locs hw => ?_)
          obtain ⟨u8, eu8, hf⟩ := lt_some hf
          have hw := VW.nm eu8 hw
          obtain ⟨x9, ex9, hf⟩ := lt_some hf
          refine lv_iinc (v := x9) (lv' := [(2, .int x9), (0, .ref (ev.2.1 4)), (1, .int b1)]) hx hb dX7_insert_49 hl (k := 2) rfl (by rw [ex9]; rfl) (by decide) rfl (fun ls hl => ?_)
          refine lv_goto (tgt := 15) hx hb dX7_insert_52 (by decide) ?_
          exact hk15 b1 x9 u8 H locs ls hw (lv_sub hl [1, 2, 0] rfl) hf
  unfold f_X7_insert at hf
  refine lv_aload_n hx hb dX7_insert_0 rfl (lv_at hl 0 rfl) ?_
  refine gB4_9 hc hw fl_X7_161 dX7_insert_1 ?_
  obtain ⟨x1, ex1, hf⟩ := lt_some hf
  refine tope ex1 ?_
  refine lv_istore_n (lv' := [(2, .int x1), (0, .ref (ev.2.1 4)), (1, .int a1)]) hx hb dX7_insert_4 rfl hl (by decide) rfl (fun ls hl => ?_)
  refine lv_aload_n hx hb dX7_insert_5 rfl (lv_at hl 1 rfl) ?_
  refine lv_dup hx hb dX7_insert_6 rfl ?_
  refine gB4_9 hc hw fl_X7_161 dX7_insert_7 ?_
  refine lv_iconst (v := (1 : Int32)) hx hb dX7_insert_10 (by decide) ?_
  refine lv_iadd hx hb dX7_insert_11 ?_
  refine pB4_9 hc hw fl_X7_161 dX7_insert_12 (fun H locs hw => ?_)
  obtain ⟨u2, eu2, hf⟩ := lt_some hf
  have hw := VW.nm eu2 hw
  exact wL15 FU a1 x1 u2 H locs ls hw (lv_sub hl [1, 2, 0] rfl) hf
def f_X7_rank_L42 (k7 : Int32 → SS → Option SS) (b2 : Int32) (u : SS) : Option SS :=
  lt (b2 + (1 : Int32)) fun x2 => k7 x2 u
def b_X7_rank_L7 (k7 : Int32 → SS → Option SS) (b2 : Int32) (u : SS) : Option SS :=
  if (8 : Int32) ≤ b2 then (some u) else (oi b2 8 (if (gA u 16 b2.toNatClampNeg) = 0 then (f_X7_rank_L42 k7 b2 u) else (ov (f_X7_work b2 u) fun u4 => oi b2 8 (if (gA u4 18 b2.toNatClampNeg) = 0 then (ov (f_X7_insert b2 u4) fun u6 => f_X7_rank_L42 k7 b2 u6) else (f_X7_rank_L42 k7 b2 u4)))))
def f_X7_rank_L7 : Nat → Int32 → SS → Option SS
  | 0 => fun _ _ => none
  | n + 1 => b_X7_rank_L7 (f_X7_rank_L7 n)
def f_X7_rank (u : SS) : Option SS :=
  lt (sI u 10 (0 : Int32)) fun u1 => f_X7_rank_L7 FU (0 : Int32) u1
set_option maxHeartbeats 4000000 in
set_option maxRecDepth 100000 in
theorem c_X7_rank (l : Launch) (ev : EV) (u : SS) {u' : SS} (hf : f_X7_rank  u = some u') : MV wdB l yX7_rank cX7_rank 3 none 4 ev [.ref (ev.2.1 4), .ref (ev.2.1 3)] u u' := by
  refine bodyV (by decide +kernel) rfl (Nat.le_of_ble_eq_true rfl) ?_
  intro p e s m below meth cd ls H locs hc hr hlk hw hl
  generalize hav : (List.toArray [.ref (ev.2.1 4), .ref (ev.2.1 3)] : Array Value) = av at hc ⊢
  obtain ⟨hx, hb, hml, hown, hts, hK, hZ⟩ := id hc
  have hl : lv_has ls 3 [(0, .ref (ev.2.1 4)), (1, .ref (ev.2.1 3))] := hl
  have wL42 : ∀ (k7 : Int32 → SS → Option SS) (hk7 : ∀ (b2 : Int32) (u : SS) (H : Heap) (locs : List Loc) (ls : Array Slot), VW wdB ev s u H locs → lv_has ls 3 [(0, .ref (ev.2.1 4)), (1, .ref (ev.2.1 3)), (2, .int b2)] → k7 b2 u = some u' → W p l e (rmk 4) s m av below meth cd H locs 0 0 (ZV wdB ev s below av u') (F0 m 7 ls [])) (b2 : Int32) (u : SS) (H : Heap) (locs : List Loc) (ls : Array Slot), VW wdB ev s u H locs → lv_has ls 3 [(0, .ref (ev.2.1 4)), (1, .ref (ev.2.1 3)), (2, .int b2)] → f_X7_rank_L42 k7 b2 u = some u' → W p l e (rmk 4) s m av below meth cd H locs 0 0 (ZV wdB ev s below av u') (F0 m 42 ls []) := by
    intro k7 hk7 b2 u H locs ls hw hl hf
    unfold f_X7_rank_L42 at hf
    obtain ⟨x2, ex2, hf⟩ := lt_some hf
    refine lv_iinc (v := x2) (lv' := [(2, .int x2), (0, .ref (ev.2.1 4)), (1, .ref (ev.2.1 3))]) hx hb dX7_rank_42 hl (k := 2) rfl (by rw [ex2]; rfl) (by decide) rfl (fun ls hl => ?_)
    refine lv_goto (tgt := 7) hx hb dX7_rank_45 (by decide) ?_
    exact hk7 x2 u H locs ls hw (lv_sub hl [1, 2, 0] rfl) hf
  have wL7 : ∀ (n : Nat) (b2 : Int32) (u : SS) (H : Heap) (locs : List Loc) (ls : Array Slot), VW wdB ev s u H locs → lv_has ls 3 [(0, .ref (ev.2.1 4)), (1, .ref (ev.2.1 3)), (2, .int b2)] → f_X7_rank_L7 n b2 u = some u' → W p l e (rmk 4) s m av below meth cd H locs 0 0 (ZV wdB ev s below av u') (F0 m 7 ls []) := by
    intro n
    induction n with
    | zero =>
      intro b2 u H locs ls hw hl hf
      cases hf
    | succ n hk7 =>
      intro b2 u H locs ls hw hl hf
      have hf : b_X7_rank_L7 (f_X7_rank_L7 n) b2 u = some u' := hf
      unfold b_X7_rank_L7 at hf
      refine lv_iload_n hx hb dX7_rank_7 rfl (lv_at hl 2 rfl) ?_
      refine lv_bipush (v := (8 : Int32)) hx hb dX7_rank_8 (by decide) ?_
      refine lv_icmp_ge (tgt := 48) hx hb dX7_rank_10 (by decide) (fun z => ?_) (fun z => ?_)
      · have hf := it_pos z hf
        exact retV hc hr hlk hw hf dX7_rank_48
      · have hf := it_neg z hf
        refine lv_aload_n hx hb dX7_rank_13 rfl (lv_at hl 0 rfl) ?_
        refine gB4_1 hc hw fl_X7_18 dX7_rank_14 ?_
        refine lv_iload_n hx hb dX7_rank_17 rfl (lv_at hl 2 rfl) ?_
        obtain ⟨z, hf⟩ := oi_some hf
        refine aB25 hc hw z dX7_rank_18 ?_
        refine lv_if_eq (tgt := 42) hx hb dX7_rank_19 (by decide) (fun z => ?_) (fun z => ?_)
        · have hf := it_pos z hf
          exact wL42 (f_X7_rank_L7 n) hk7 b2 u H locs ls hw (lv_sub hl [0, 1, 2] rfl) hf
        · have hf := it_neg z hf
          refine lv_aload_n hx hb dX7_rank_22 rfl (lv_at hl 0 rfl) ?_
          refine lv_aload_n hx hb dX7_rank_23 rfl (lv_at hl 1 rfl) ?_
          refine lv_iload_n hx hb dX7_rank_24 rfl (lv_at hl 2 rfl) ?_
          obtain ⟨u4, h3, hf⟩ := ov_some hf
          refine endV okB hw (runV_ok (As := [.ref (ev.2.1 3), .int b2]) (rest := []) okB hc hw (c_X7_work l ev b2 u h3 H.size) kv_X7_work ml_X7_129 (rvB4 ev u) hl.1 rfl rfl (Nat.le_of_ble_eq_true rfl) (rm_le (by decide) (by decide)) dX7_rank_25) (fun H locs hw => ?_)
          refine lv_aload_n hx hb dX7_rank_28 rfl (lv_at hl 0 rfl) ?_
          refine gB4_7 hc hw fl_X7_39 dX7_rank_29 ?_
          refine lv_iload_n hx hb dX7_rank_32 rfl (lv_at hl 2 rfl) ?_
          obtain ⟨z, hf⟩ := oi_some hf
          refine aB31 hc hw z dX7_rank_33 ?_
          refine lv_if_ne (tgt := 42) hx hb dX7_rank_34 (by decide) (fun z => ?_) (fun z => ?_)
          · have hf := it_neg z hf
            exact wL42 (f_X7_rank_L7 n) hk7 b2 u4 H locs ls hw (lv_sub hl [0, 1, 2] rfl) hf
          · have hf := it_pos z hf
            refine lv_aload_n hx hb dX7_rank_37 rfl (lv_at hl 0 rfl) ?_
            refine lv_iload_n hx hb dX7_rank_38 rfl (lv_at hl 2 rfl) ?_
            obtain ⟨u6, h5, hf⟩ := ov_some hf
            refine endV okB hw (runV_ok (As := [.int b2]) (rest := []) okB hc hw (c_X7_insert l ev b2 u4 h5 H.size) kv_X7_insert ml_X7_164 (rvB4 ev u4) hl.1 rfl rfl (Nat.le_of_ble_eq_true rfl) (rm_le (by decide) (by decide)) dX7_rank_39) (fun H locs hw => ?_)
            exact wL42 (f_X7_rank_L7 n) hk7 b2 u6 H locs ls hw (lv_sub hl [0, 1, 2] rfl) hf
  unfold f_X7_rank at hf
  refine lv_aload_n hx hb dX7_rank_0 rfl (lv_at hl 0 rfl) ?_
  refine lv_iconst (v := (0 : Int32)) hx hb dX7_rank_1 (by decide) ?_
  refine pB4_9 hc hw fl_X7_161 dX7_rank_2 (fun H locs hw => ?_)
  obtain ⟨u1, eu1, hf⟩ := lt_some hf
  have hw := VW.nm eu1 hw
  refine lv_iconst (v := (0 : Int32)) hx hb dX7_rank_5 (by decide) ?_
  refine lv_istore_n (lv' := [(2, .int (0 : Int32)), (0, .ref (ev.2.1 4)), (1, .ref (ev.2.1 3))]) hx hb dX7_rank_6 rfl hl (by decide) rfl (fun ls hl => ?_)
  exact wL7 FU (0 : Int32) u1 H locs ls hw (lv_sub hl [1, 2, 0] rfl) hf
def f_X9_order (a1 : Int32) (a2 : Int32) (u : SS) : Option (Int32 × SS) :=
  ob (f_X9_noLot a1 u) fun r3 u2 => if r3 = 0 then (ov (f_X7_lay a1 (-1 : Int32) u2) fun u5 => ov (f_X7_rank u5) fun u7 => if a2 < 0 then (some ((-9 : Int32), u7)) else (if a2 < (gI u7 10) then (oi a2 8 (some ((gA u7 19 a2.toNatClampNeg), u7))) else (some ((-9 : Int32), u7)))) else (ob (f_X9_refuse (-1 : Int32) u2) fun r10 u9 => some (r10, u9))
set_option maxHeartbeats 4000000 in
set_option maxRecDepth 100000 in
theorem c_X9_order (l : Launch) (ev : EV) (a1 : Int32) (a2 : Int32) (u : SS) {r : Int32} {u' : SS} (hf : f_X9_order a1 a2 u = some (r, u')) : MI wdB l yX9_order cX9_order 3 (some .int) 5 ev [.ref (ev.2.1 0), .int a1, .int a2] u r u' := by
  refine bodyI (by decide +kernel) rfl (Nat.le_of_ble_eq_true rfl) ?_
  intro p e s m below meth cd ls H locs hc hr hlk hw hl
  generalize hav : (List.toArray [.ref (ev.2.1 0), .int a1, .int a2] : Array Value) = av at hc ⊢
  obtain ⟨hx, hb, hml, hown, hts, hK, hZ⟩ := id hc
  have hl : lv_has ls 3 [(0, .ref (ev.2.1 0)), (1, .int a1), (2, .int a2)] := hl
  unfold f_X9_order at hf
  refine lv_aload_n hx hb dX9_order_0 rfl (lv_at hl 0 rfl) ?_
  refine lv_iload_n hx hb dX9_order_1 rfl (lv_at hl 1 rfl) ?_
  obtain ⟨r3, u2, h1, hf⟩ := ob_some hf
  refine endI okB hw (runV_ok (As := [.int a1]) (rest := []) okB hc hw (c_X9_noLot l ev a1 u h1 H.size) kv_X9_noLot ml_X9_193 (rvB0 ev u) hl.1 rfl rfl (Nat.le_of_ble_eq_true rfl) (rm_le (by decide) (by decide)) dX9_order_2) (fun H locs hw => ?_)
  refine lv_if_eq (tgt := 14) hx hb dX9_order_5 (by decide) (fun z => ?_) (fun z => ?_)
  · have hf := it_pos z hf
    refine lv_aload_n hx hb dX9_order_14 rfl (lv_at hl 0 rfl) ?_
    refine gB0_3 hc hw fl_X9_33 dX9_order_15 ?_
    refine lv_aload_n hx hb dX9_order_18 rfl (lv_at hl 0 rfl) ?_
    refine gB0_0 hc hw fl_X9_12 dX9_order_19 ?_
    refine lv_aload_n hx hb dX9_order_22 rfl (lv_at hl 0 rfl) ?_
    refine gB0_1 hc hw fl_X9_19 dX9_order_23 ?_
    refine lv_iload_n hx hb dX9_order_26 rfl (lv_at hl 1 rfl) ?_
    refine lv_iconst (v := (-1 : Int32)) hx hb dX9_order_27 (by decide) ?_
    obtain ⟨u5, h4, hf⟩ := ov_some hf
    refine endV okB hw (runV_ok (As := [.ref (ev.2.1 1), .ref (ev.2.1 2), .int a1, .int (-1 : Int32)]) (rest := []) okB hc hw (c_X7_lay l ev a1 (-1 : Int32) u2 h4 H.size) kv_X7_lay ml_X9_154 (rvB4 ev u2) hl.1 rfl rfl (Nat.le_of_ble_eq_true rfl) (rm_le (by decide) (by decide)) dX9_order_28) (fun H locs hw => ?_)
    refine lv_aload_n hx hb dX9_order_31 rfl (lv_at hl 0 rfl) ?_
    refine gB0_3 hc hw fl_X9_33 dX9_order_32 ?_
    refine lv_aload_n hx hb dX9_order_35 rfl (lv_at hl 0 rfl) ?_
    refine gB0_2 hc hw fl_X9_26 dX9_order_36 ?_
    obtain ⟨u7, h6, hf⟩ := ov_some hf
    refine endV okB hw (runV_ok (As := [.ref (ev.2.1 3)]) (rest := []) okB hc hw (c_X7_rank l ev u5 h6 H.size) kv_X7_rank ml_X9_196 (rvB4 ev u5) hl.1 rfl rfl (Nat.le_of_ble_eq_true rfl) (rm_le (by decide) (by decide)) dX9_order_39) (fun H locs hw => ?_)
    refine lv_iload_n hx hb dX9_order_42 rfl (lv_at hl 2 rfl) ?_
    refine lv_if_lt (tgt := 57) hx hb dX9_order_43 (by decide) (fun z => ?_) (fun z => ?_)
    · have hf := it_pos z hf
      refine lv_bipush (v := (-9 : Int32)) hx hb dX9_order_57 (by decide) ?_
      refine lv_goto (tgt := 71) hx hb dX9_order_59 (by decide) ?_
      exact retI hc hr hlk hw hf dX9_order_71
    · have hf := it_neg z hf
      refine lv_iload_n hx hb dX9_order_46 rfl (lv_at hl 2 rfl) ?_
      refine lv_aload_n hx hb dX9_order_47 rfl (lv_at hl 0 rfl) ?_
      refine gB0_3 hc hw fl_X9_33 dX9_order_48 ?_
      refine gB4_9 hc hw fl_X9_200 dX9_order_51 ?_
      refine lv_icmp_lt (tgt := 62) hx hb dX9_order_54 (by decide) (fun z => ?_) (fun z => ?_)
      · have hf := it_pos z hf
        refine lv_aload_n hx hb dX9_order_62 rfl (lv_at hl 0 rfl) ?_
        refine gB0_3 hc hw fl_X9_33 dX9_order_63 ?_
        refine gB4_8 hc hw fl_X9_203 dX9_order_66 ?_
        refine lv_iload_n hx hb dX9_order_69 rfl (lv_at hl 2 rfl) ?_
        obtain ⟨z, hf⟩ := oi_some hf
        refine aB32 hc hw z dX9_order_70 ?_
        exact retI hc hr hlk hw hf dX9_order_71
      · have hf := it_neg z hf
        refine lv_bipush (v := (-9 : Int32)) hx hb dX9_order_57 (by decide) ?_
        refine lv_goto (tgt := 71) hx hb dX9_order_59 (by decide) ?_
        exact retI hc hr hlk hw hf dX9_order_71
  · have hf := it_neg z hf
    refine lv_aload_n hx hb dX9_order_8 rfl (lv_at hl 0 rfl) ?_
    refine lv_iconst (v := (-1 : Int32)) hx hb dX9_order_9 (by decide) ?_
    obtain ⟨r10, u9, h8, hf⟩ := ob_some hf
    refine endI okB hw (runV_ok (As := [.int (-1 : Int32)]) (rest := []) okB hc hw (c_X9_refuse l ev (-1 : Int32) u2 h8 H.size) kv_X9_refuse ml_X9_62 (rvB0 ev u2) hl.1 rfl rfl (Nat.le_of_ble_eq_true rfl) (rm_le (by decide) (by decide)) dX9_order_10) (fun H locs hw => ?_)
    exact retI hc hr hlk hw hf dX9_order_13
def f_X7_workGain (a2 : Int32) (a3 : Int32) (u : SS) : Option (Int32 × SS) :=
  ov (f_X7_work a2 u) fun u2 => oi a2 8 (if (gA u2 18 a2.toNatClampNeg) = 0 then (oi a2 8 (lt (gL u2 2 a2.toNatClampNeg) fun x3 => oi a2 8 (lt (gL u2 3 a2.toNatClampNeg) fun x4 => oi a2 8 (oi a2 8 (lt (tA u2 17 a2 (if (1 : Int32) < ((gA u2 17 a2.toNatClampNeg) - a3) then ((gA u2 17 a2.toNatClampNeg) - a3) else (1 : Int32))) fun u5 => ov (f_X7_sumUp u5) fun u7 => ov (f_X7_work a2 u7) fun u9 => oi a2 8 (if (gA u9 18 a2.toNatClampNeg) = 0 then (ov (f_X7_push x3 x4 u9) fun u11 => ov (f_X7_operate (45 : Int32) u11) fun u13 => if (gI u13 25) = 0 then (some ((1 : Int32), u13)) else (some ((0 : Int32), u13))) else (some ((0 : Int32), u9)))))))) else (some ((0 : Int32), u2)))
set_option maxHeartbeats 4000000 in
set_option maxRecDepth 100000 in
theorem c_X7_workGain (l : Launch) (ev : EV) (a2 : Int32) (a3 : Int32) (u : SS) {r : Int32} {u' : SS} (hf : f_X7_workGain a2 a3 u = some (r, u')) : MI wdB l yX7_workGain cX7_workGain 8 (some .boolean) 4 ev [.ref (ev.2.1 4), .ref (ev.2.1 3), .int a2, .int a3] u r u' := by
  refine bodyI (by decide +kernel) rfl (Nat.le_of_ble_eq_true rfl) ?_
  intro p e s m below meth cd ls H locs hc hr hlk hw hl
  generalize hav : (List.toArray [.ref (ev.2.1 4), .ref (ev.2.1 3), .int a2, .int a3] : Array Value) = av at hc ⊢
  obtain ⟨hx, hb, hml, hown, hts, hK, hZ⟩ := id hc
  have hl : lv_has ls 8 [(0, .ref (ev.2.1 4)), (1, .ref (ev.2.1 3)), (2, .int a2), (3, .int a3)] := hl
  unfold f_X7_workGain at hf
  refine lv_aload_n hx hb dX7_workGain_0 rfl (lv_at hl 0 rfl) ?_
  refine lv_aload_n hx hb dX7_workGain_1 rfl (lv_at hl 1 rfl) ?_
  refine lv_iload_n hx hb dX7_workGain_2 rfl (lv_at hl 2 rfl) ?_
  obtain ⟨u2, h1, hf⟩ := ov_some hf
  refine endV okB hw (runV_ok (As := [.ref (ev.2.1 3), .int a2]) (rest := []) okB hc hw (c_X7_work l ev a2 u h1 H.size) kv_X7_work ml_X7_129 (rvB4 ev u) hl.1 rfl rfl (Nat.le_of_ble_eq_true rfl) (rm_le (by decide) (by decide)) dX7_workGain_3) (fun H locs hw => ?_)
  refine lv_aload_n hx hb dX7_workGain_6 rfl (lv_at hl 0 rfl) ?_
  refine gB4_7 hc hw fl_X7_39 dX7_workGain_7 ?_
  refine lv_iload_n hx hb dX7_workGain_10 rfl (lv_at hl 2 rfl) ?_
  obtain ⟨z, hf⟩ := oi_some hf
  refine aB31 hc hw z dX7_workGain_11 ?_
  refine lv_if_eq (tgt := 17) hx hb dX7_workGain_12 (by decide) (fun z => ?_) (fun z => ?_)
  · have hf := it_pos z hf
    refine lv_aload_n hx hb dX7_workGain_17 rfl (lv_at hl 0 rfl) ?_
    refine gB4_5 hc hw fl_X7_33 dX7_workGain_18 ?_
    refine lv_iload_n hx hb dX7_workGain_21 rfl (lv_at hl 2 rfl) ?_
    obtain ⟨z, hf⟩ := oi_some hf
    refine aB29 hc hw z dX7_workGain_22 ?_
    obtain ⟨x3, ex3, hf⟩ := lt_some hf
    refine topel ex3 ?_
    refine lv_lstore (lv' := [(4, .long x3), (0, .ref (ev.2.1 4)), (1, .ref (ev.2.1 3)), (2, .int a2), (3, .int a3)]) hx hb dX7_workGain_23 hl (by decide) rfl (fun ls hl => ?_)
    refine lv_aload_n hx hb dX7_workGain_25 rfl (lv_at hl 1 rfl) ?_
    refine gB4_6 hc hw fl_X7_36 dX7_workGain_26 ?_
    refine lv_iload_n hx hb dX7_workGain_29 rfl (lv_at hl 3 rfl) ?_
    obtain ⟨z, hf⟩ := oi_some hf
    refine aB30 hc hw z dX7_workGain_30 ?_
    obtain ⟨x4, ex4, hf⟩ := lt_some hf
    refine topel ex4 ?_
    refine lv_lstore (lv' := [(6, .long x4), (4, .long x3), (0, .ref (ev.2.1 4)), (1, .ref (ev.2.1 3)), (2, .int a2), (3, .int a3)]) hx hb dX7_workGain_31 hl (by decide) rfl (fun ls hl => ?_)
    refine lv_aload_n hx hb dX7_workGain_33 rfl (lv_at hl 2 rfl) ?_
    refine gB4_2 hc hw fl_X7_22 dX7_workGain_34 ?_
    refine lv_iload_n hx hb dX7_workGain_37 rfl (lv_at hl 4 rfl) ?_
    refine lv_iconst (v := (1 : Int32)) hx hb dX7_workGain_38 (by decide) ?_
    refine lv_aload_n hx hb dX7_workGain_39 rfl (lv_at hl 2 rfl) ?_
    refine gB4_2 hc hw fl_X7_22 dX7_workGain_40 ?_
    refine lv_iload_n hx hb dX7_workGain_43 rfl (lv_at hl 4 rfl) ?_
    obtain ⟨z, hf⟩ := oi_some hf
    refine aB26 hc hw z dX7_workGain_44 ?_
    refine lv_iload_n hx hb dX7_workGain_45 rfl (lv_at hl 5 rfl) ?_
    refine lv_isub hx hb dX7_workGain_46 ?_
    refine va_mmax hx hb (hml.trans hl.1.symm) hown (hts _ ml_X7_117) (hts _ va_mmax_st) (hts _ math_in) (hts _ va_mmax_cd) (by decide) (Nat.le_of_ble_eq_true rfl) (Nat.zero_le _) (Nat.zero_le _) dX7_workGain_47 ?_
    obtain ⟨z, hf⟩ := oi_some hf
    refine tB26 hc hw z dX7_workGain_50 (fun H locs hw => ?_)
    obtain ⟨u5, eu5, hf⟩ := lt_some hf
    have hw := VW.nm eu5 hw
    refine lv_aload_n hx hb dX7_workGain_51 rfl (lv_at hl 2 rfl) ?_
    obtain ⟨u7, h6, hf⟩ := ov_some hf
    refine endV okB hw (runV_ok (As := []) (rest := []) okB hc hw (c_X7_sumUp l ev u5 h6 H.size) kv_X7_sumUp ml_X7_85 (rvB4 ev u5) hl.1 rfl rfl (Nat.le_of_ble_eq_true rfl) (rm_le (by decide) (by decide)) dX7_workGain_52) (fun H locs hw => ?_)
    refine lv_aload_n hx hb dX7_workGain_55 rfl (lv_at hl 2 rfl) ?_
    refine lv_aload_n hx hb dX7_workGain_56 rfl (lv_at hl 3 rfl) ?_
    refine lv_iload_n hx hb dX7_workGain_57 rfl (lv_at hl 4 rfl) ?_
    obtain ⟨u9, h8, hf⟩ := ov_some hf
    refine endV okB hw (runV_ok (As := [.ref (ev.2.1 3), .int a2]) (rest := []) okB hc hw (c_X7_work l ev a2 u7 h8 H.size) kv_X7_work ml_X7_129 (rvB4 ev u7) hl.1 rfl rfl (Nat.le_of_ble_eq_true rfl) (rm_le (by decide) (by decide)) dX7_workGain_58) (fun H locs hw => ?_)
    refine lv_aload_n hx hb dX7_workGain_61 rfl (lv_at hl 2 rfl) ?_
    refine gB4_7 hc hw fl_X7_39 dX7_workGain_62 ?_
    refine lv_iload_n hx hb dX7_workGain_65 rfl (lv_at hl 4 rfl) ?_
    obtain ⟨z, hf⟩ := oi_some hf
    refine aB31 hc hw z dX7_workGain_66 ?_
    refine lv_if_eq (tgt := 72) hx hb dX7_workGain_67 (by decide) (fun z => ?_) (fun z => ?_)
    · have hf := it_pos z hf
      refine lv_aload_n hx hb dX7_workGain_72 rfl (lv_at hl 2 rfl) ?_
      refine lv_lload hx hb dX7_workGain_73 (lv_at hl 1 rfl) ?_
      refine lv_lload hx hb dX7_workGain_75 (lv_at hl 0 rfl) ?_
      obtain ⟨u11, h10, hf⟩ := ov_some hf
      refine endV okB hw (runV_ok (As := [.long x3, .long x4]) (rest := []) okB hc hw (c_X7_push l ev x3 x4 u9 h10 H.size) kv_X7_push ml_X7_133 (rvB4 ev u9) hl.1 rfl rfl (Nat.le_of_ble_eq_true rfl) (rm_le (by decide) (by decide)) dX7_workGain_77) (fun H locs hw => ?_)
      refine lv_aload_n hx hb dX7_workGain_80 rfl (lv_at hl 2 rfl) ?_
      refine lv_bipush (v := (45 : Int32)) hx hb dX7_workGain_81 (by decide) ?_
      obtain ⟨u13, h12, hf⟩ := ov_some hf
      refine endV okB hw (runV_ok (As := [.int (45 : Int32)]) (rest := []) okB hc hw (c_X7_operate l ev (45 : Int32) u11 h12 H.size) kv_X7_operate ml_X7_136 (rvB4 ev u11) hl.1 rfl rfl (Nat.le_of_ble_eq_true rfl) (rm_le (by decide) (by decide)) dX7_workGain_83) (fun H locs hw => ?_)
      refine lv_aload_n hx hb dX7_workGain_86 rfl (lv_at hl 2 rfl) ?_
      refine gB4_0 hc hw fl_X7_12 dX7_workGain_87 ?_
      refine gB8_2 hc hw fl_X7_140 dX7_workGain_90 ?_
      refine lv_if_ne (tgt := 100) hx hb dX7_workGain_93 (by decide) (fun z => ?_) (fun z => ?_)
      · have hf := it_neg z hf
        refine lv_iconst (v := (0 : Int32)) hx hb dX7_workGain_100 (by decide) ?_
        exact retZ hc hr hlk hw nz0 hf dX7_workGain_101
      · have hf := it_pos z hf
        refine lv_iconst (v := (1 : Int32)) hx hb dX7_workGain_96 (by decide) ?_
        refine lv_goto (tgt := 101) hx hb dX7_workGain_97 (by decide) ?_
        exact retZ hc hr hlk hw nz1 hf dX7_workGain_101
    · have hf := it_neg z hf
      refine lv_iconst (v := (0 : Int32)) hx hb dX7_workGain_70 (by decide) ?_
      exact retZ hc hr hlk hw nz0 hf dX7_workGain_71
  · have hf := it_neg z hf
    refine lv_iconst (v := (0 : Int32)) hx hb dX7_workGain_15 (by decide) ?_
    exact retZ hc hr hlk hw nz0 hf dX7_workGain_16
def f_X9_gain (a1 : Int32) (a2 : Int32) (a3 : Int32) (a4 : Int32) (u : SS) : Option (Int64 × SS) :=
  ob (f_X9_noBid a1 a2 u) fun r3 u2 => if r3 = 0 then (ob (f_X9_noPart a4 u2) fun r6 u5 => if r6 = 0 then (ob (f_X9_cell a1 a2 u5) fun r9 u8 => ob (f_X1_standsAt r9 u8) fun r12 u11 => if r12 = 0 then (ob (f_X9_refuseLong (-5 : Int32) u11) fun r29 u28 => some (r29, u28)) else (ob (f_X9_inRange a3 (1 : Int32) (99999 : Int32) u11) fun r15 u14 => if r15 = 0 then (ov (f_X7_lay a2 (-1 : Int32) u14) fun u17 => ob (f_X7_workGain a1 a3 u17) fun r20 u19 => if r20 = 0 then (ob (f_X9_refuseLong (-7 : Int32) u19) fun r23 u22 => some (r23, u22)) else (if a4 = 0 then (some ((gJ u19 6), u19)) else (some ((gJ u19 7), u19)))) else (ob (f_X9_refuseLong r15 u14) fun r26 u25 => some (r26, u25)))) else (ob (f_X9_refuseLong (-2 : Int32) u5) fun r32 u31 => some (r32, u31))) else (ob (f_X9_refuseLong (-1 : Int32) u2) fun r35 u34 => some (r35, u34))
set_option maxHeartbeats 4000000 in
set_option maxRecDepth 100000 in
theorem c_X9_gain (l : Launch) (ev : EV) (a1 : Int32) (a2 : Int32) (a3 : Int32) (a4 : Int32) (u : SS) {r : Int64} {u' : SS} (hf : f_X9_gain a1 a2 a3 a4 u = some (r, u')) : ML wdB l yX9_gain cX9_gain 6 (some .long) 5 ev [.ref (ev.2.1 0), .int a1, .int a2, .int a3, .int a4] u r u' := by
  refine bodyL (by decide +kernel) rfl (Nat.le_of_ble_eq_true rfl) ?_
  intro p e s m below meth cd ls H locs hc hr hlk hw hl
  generalize hav : (List.toArray [.ref (ev.2.1 0), .int a1, .int a2, .int a3, .int a4] : Array Value) = av at hc ⊢
  obtain ⟨hx, hb, hml, hown, hts, hK, hZ⟩ := id hc
  have hl : lv_has ls 6 [(0, .ref (ev.2.1 0)), (1, .int a1), (2, .int a2), (3, .int a3), (4, .int a4)] := hl
  unfold f_X9_gain at hf
  refine lv_aload_n hx hb dX9_gain_0 rfl (lv_at hl 0 rfl) ?_
  refine lv_iload_n hx hb dX9_gain_1 rfl (lv_at hl 1 rfl) ?_
  refine lv_iload_n hx hb dX9_gain_2 rfl (lv_at hl 2 rfl) ?_
  obtain ⟨r3, u2, h1, hf⟩ := ob_some hf
  refine endI okB hw (runV_ok (As := [.int a1, .int a2]) (rest := []) okB hc hw (c_X9_noBid l ev a1 a2 u h1 H.size) kv_X9_noBid ml_X9_93 (rvB0 ev u) hl.1 rfl rfl (Nat.le_of_ble_eq_true rfl) (rm_le (by decide) (by decide)) dX9_gain_3) (fun H locs hw => ?_)
  refine lv_if_eq (tgt := 15) hx hb dX9_gain_6 (by decide) (fun z => ?_) (fun z => ?_)
  · have hf := it_pos z hf
    refine lv_iload hx hb dX9_gain_15 (lv_at hl 4 rfl) ?_
    obtain ⟨r6, u5, h4, hf⟩ := ob_some hf
    refine endI okB hw (runS_ok (As := [.int a4]) (rest := []) okB hc hw (c_X9_noPart l ev a4 u2 h4 H.size) ks_X9_noPart ml_X9_151 hl.1 rfl rfl (Nat.le_of_ble_eq_true rfl) (rm_le (by decide) (by decide)) dX9_gain_17) (fun H locs hw => ?_)
    refine lv_if_eq (tgt := 30) hx hb dX9_gain_20 (by decide) (fun z => ?_) (fun z => ?_)
    · have hf := it_pos z hf
      refine lv_aload_n hx hb dX9_gain_30 rfl (lv_at hl 0 rfl) ?_
      refine gB0_0 hc hw fl_X9_12 dX9_gain_31 ?_
      refine lv_iload_n hx hb dX9_gain_34 rfl (lv_at hl 1 rfl) ?_
      refine lv_iload_n hx hb dX9_gain_35 rfl (lv_at hl 2 rfl) ?_
      obtain ⟨r9, u8, h7, hf⟩ := ob_some hf
      refine endI okB hw (runS_ok (As := [.int a1, .int a2]) (rest := [.ref (ev.2.1 1)]) okB hc hw (c_X9_cell l ev a1 a2 u5 h7 H.size) ks_X9_cell ml_X9_110 hl.1 rfl rfl (Nat.le_of_ble_eq_true rfl) (rm_le (by decide) (by decide)) dX9_gain_36) (fun H locs hw => ?_)
      obtain ⟨r12, u11, h10, hf⟩ := ob_some hf
      refine endI okB hw (runV_ok (As := [.int r9]) (rest := []) okB hc hw (c_X1_standsAt l ev r9 u8 h10 H.size) kv_X1_standsAt ml_X9_138 (rvB1 ev u8) hl.1 rfl rfl (Nat.le_of_ble_eq_true rfl) (rm_le (by decide) (by decide)) dX9_gain_39) (fun H locs hw => ?_)
      refine lv_if_ne (tgt := 52) hx hb dX9_gain_42 (by decide) (fun z => ?_) (fun z => ?_)
      · have hf := it_neg z hf
        refine lv_iload_n hx hb dX9_gain_52 rfl (lv_at hl 3 rfl) ?_
        refine lv_iconst (v := (1 : Int32)) hx hb dX9_gain_53 (by decide) ?_
        refine lv_ldc (v := (99999 : Int32)) hx hb hown (hts _ ct_X9_106) dX9_gain_54 ?_
        obtain ⟨r15, u14, h13, hf⟩ := ob_some hf
        refine endI okB hw (runS_ok (As := [.int a3, .int (1 : Int32), .int (99999 : Int32)]) (rest := []) okB hc hw (c_X9_inRange l ev a3 (1 : Int32) (99999 : Int32) u11 h13 H.size) ks_X9_inRange ml_X9_76 hl.1 rfl rfl (Nat.le_of_ble_eq_true rfl) (rm_le (by decide) (by decide)) dX9_gain_56) (fun H locs hw => ?_)
        refine lv_istore (lv' := [(5, .int r15), (0, .ref (ev.2.1 0)), (1, .int a1), (2, .int a2), (3, .int a3), (4, .int a4)]) hx hb dX9_gain_59 hl (by decide) rfl (fun ls hl => ?_)
        refine lv_iload hx hb dX9_gain_61 (lv_at hl 0 rfl) ?_
        refine lv_if_eq (tgt := 73) hx hb dX9_gain_63 (by decide) (fun z => ?_) (fun z => ?_)
        · have hf := it_pos z hf
          refine lv_aload_n hx hb dX9_gain_73 rfl (lv_at hl 1 rfl) ?_
          refine gB0_3 hc hw fl_X9_33 dX9_gain_74 ?_
          refine lv_aload_n hx hb dX9_gain_77 rfl (lv_at hl 1 rfl) ?_
          refine gB0_0 hc hw fl_X9_12 dX9_gain_78 ?_
          refine lv_aload_n hx hb dX9_gain_81 rfl (lv_at hl 1 rfl) ?_
          refine gB0_1 hc hw fl_X9_19 dX9_gain_82 ?_
          refine lv_iload_n hx hb dX9_gain_85 rfl (lv_at hl 3 rfl) ?_
          refine lv_iconst (v := (-1 : Int32)) hx hb dX9_gain_86 (by decide) ?_
          obtain ⟨u17, h16, hf⟩ := ov_some hf
          refine endV okB hw (runV_ok (As := [.ref (ev.2.1 1), .ref (ev.2.1 2), .int a2, .int (-1 : Int32)]) (rest := []) okB hc hw (c_X7_lay l ev a2 (-1 : Int32) u14 h16 H.size) kv_X7_lay ml_X9_154 (rvB4 ev u14) hl.1 rfl rfl (Nat.le_of_ble_eq_true rfl) (rm_le (by decide) (by decide)) dX9_gain_87) (fun H locs hw => ?_)
          refine lv_aload_n hx hb dX9_gain_90 rfl (lv_at hl 1 rfl) ?_
          refine gB0_3 hc hw fl_X9_33 dX9_gain_91 ?_
          refine lv_aload_n hx hb dX9_gain_94 rfl (lv_at hl 1 rfl) ?_
          refine gB0_2 hc hw fl_X9_26 dX9_gain_95 ?_
          refine lv_iload_n hx hb dX9_gain_98 rfl (lv_at hl 2 rfl) ?_
          refine lv_iload_n hx hb dX9_gain_99 rfl (lv_at hl 4 rfl) ?_
          obtain ⟨r20, u19, h18, hf⟩ := ob_some hf
          refine endI okB hw (runV_ok (As := [.ref (ev.2.1 3), .int a1, .int a3]) (rest := []) okB hc hw (c_X7_workGain l ev a1 a3 u17 h18 H.size) kv_X7_workGain ml_X9_206 (rvB4 ev u17) hl.1 rfl rfl (Nat.le_of_ble_eq_true rfl) (rm_le (by decide) (by decide)) dX9_gain_100) (fun H locs hw => ?_)
          refine lv_if_ne (tgt := 113) hx hb dX9_gain_103 (by decide) (fun z => ?_) (fun z => ?_)
          · have hf := it_neg z hf
            refine lv_iload hx hb dX9_gain_113 (lv_at hl 5 rfl) ?_
            refine lv_if_ne (tgt := 131) hx hb dX9_gain_115 (by decide) (fun z => ?_) (fun z => ?_)
            · have hf := it_neg z hf
              refine lv_aload_n hx hb dX9_gain_131 rfl (lv_at hl 1 rfl) ?_
              refine gB0_3 hc hw fl_X9_33 dX9_gain_132 ?_
              refine gB4_0 hc hw fl_X9_210 dX9_gain_135 ?_
              refine gB8_1 hc hw fl_X9_220 dX9_gain_138 ?_
              exact retL hc hr hlk hw hf dX9_gain_141
            · have hf := it_pos z hf
              refine lv_aload_n hx hb dX9_gain_118 rfl (lv_at hl 1 rfl) ?_
              refine gB0_3 hc hw fl_X9_33 dX9_gain_119 ?_
              refine gB4_0 hc hw fl_X9_210 dX9_gain_122 ?_
              refine gB8_0 hc hw fl_X9_214 dX9_gain_125 ?_
              refine lv_goto (tgt := 141) hx hb dX9_gain_128 (by decide) ?_
              exact retL hc hr hlk hw hf dX9_gain_141
          · have hf := it_pos z hf
            refine lv_aload_n hx hb dX9_gain_106 rfl (lv_at hl 1 rfl) ?_
            refine lv_bipush (v := (-7 : Int32)) hx hb dX9_gain_107 (by decide) ?_
            obtain ⟨r23, u22, h21, hf⟩ := ob_some hf
            refine endL okB hw (runV_ok (As := [.int (-7 : Int32)]) (rest := []) okB hc hw (c_X9_refuseLong l ev (-7 : Int32) u19 h21 H.size) kv_X9_refuseLong ml_X9_176 (rvB0 ev u19) hl.1 rfl rfl (Nat.le_of_ble_eq_true rfl) (rm_le (by decide) (by decide)) dX9_gain_109) (fun H locs hw => ?_)
            exact retL hc hr hlk hw hf dX9_gain_112
        · have hf := it_neg z hf
          refine lv_aload_n hx hb dX9_gain_66 rfl (lv_at hl 1 rfl) ?_
          refine lv_iload hx hb dX9_gain_67 (lv_at hl 0 rfl) ?_
          obtain ⟨r26, u25, h24, hf⟩ := ob_some hf
          refine endL okB hw (runV_ok (As := [.int r15]) (rest := []) okB hc hw (c_X9_refuseLong l ev r15 u14 h24 H.size) kv_X9_refuseLong ml_X9_176 (rvB0 ev u14) hl.1 rfl rfl (Nat.le_of_ble_eq_true rfl) (rm_le (by decide) (by decide)) dX9_gain_69) (fun H locs hw => ?_)
          exact retL hc hr hlk hw hf dX9_gain_72
      · have hf := it_pos z hf
        refine lv_aload_n hx hb dX9_gain_45 rfl (lv_at hl 0 rfl) ?_
        refine lv_bipush (v := (-5 : Int32)) hx hb dX9_gain_46 (by decide) ?_
        obtain ⟨r29, u28, h27, hf⟩ := ob_some hf
        refine endL okB hw (runV_ok (As := [.int (-5 : Int32)]) (rest := []) okB hc hw (c_X9_refuseLong l ev (-5 : Int32) u11 h27 H.size) kv_X9_refuseLong ml_X9_176 (rvB0 ev u11) hl.1 rfl rfl (Nat.le_of_ble_eq_true rfl) (rm_le (by decide) (by decide)) dX9_gain_48) (fun H locs hw => ?_)
        exact retL hc hr hlk hw hf dX9_gain_51
    · have hf := it_neg z hf
      refine lv_aload_n hx hb dX9_gain_23 rfl (lv_at hl 0 rfl) ?_
      refine lv_bipush (v := (-2 : Int32)) hx hb dX9_gain_24 (by decide) ?_
      obtain ⟨r32, u31, h30, hf⟩ := ob_some hf
      refine endL okB hw (runV_ok (As := [.int (-2 : Int32)]) (rest := []) okB hc hw (c_X9_refuseLong l ev (-2 : Int32) u5 h30 H.size) kv_X9_refuseLong ml_X9_176 (rvB0 ev u5) hl.1 rfl rfl (Nat.le_of_ble_eq_true rfl) (rm_le (by decide) (by decide)) dX9_gain_26) (fun H locs hw => ?_)
      exact retL hc hr hlk hw hf dX9_gain_29
  · have hf := it_neg z hf
    refine lv_aload_n hx hb dX9_gain_9 rfl (lv_at hl 0 rfl) ?_
    refine lv_iconst (v := (-1 : Int32)) hx hb dX9_gain_10 (by decide) ?_
    obtain ⟨r35, u34, h33, hf⟩ := ob_some hf
    refine endL okB hw (runV_ok (As := [.int (-1 : Int32)]) (rest := []) okB hc hw (c_X9_refuseLong l ev (-1 : Int32) u2 h33 H.size) kv_X9_refuseLong ml_X9_176 (rvB0 ev u2) hl.1 rfl rfl (Nat.le_of_ble_eq_true rfl) (rm_le (by decide) (by decide)) dX9_gain_11) (fun H locs hw => ?_)
    exact retL hc hr hlk hw hf dX9_gain_14
def f_X9_noPair (a1 : Int32) (a2 : Int32) (a3 : Int32) (u : SS) : Option (Int32 × SS) :=
  ob (f_X9_noLot a1 u) fun r3 u2 => if r3 = 0 then (ob (f_X9_noBidder a2 u2) fun r6 u5 => if r6 = 0 then (ob (f_X9_noBidder a3 u5) fun r9 u8 => if r9 = 0 then (if a2 = a3 then (some ((1 : Int32), u8)) else (some ((0 : Int32), u8))) else (some ((1 : Int32), u8))) else (some ((1 : Int32), u5))) else (some ((1 : Int32), u2))
set_option maxHeartbeats 4000000 in
set_option maxRecDepth 100000 in
theorem c_X9_noPair (l : Launch) (ev : EV) (a1 : Int32) (a2 : Int32) (a3 : Int32) (u : SS) {r : Int32} {u' : SS} (hf : f_X9_noPair a1 a2 a3 u = some (r, u')) : MI wdB l yX9_noPair cX9_noPair 4 (some .boolean) 1 ev [.ref (ev.2.1 0), .int a1, .int a2, .int a3] u r u' := by
  refine bodyI (by decide +kernel) rfl (Nat.le_of_ble_eq_true rfl) ?_
  intro p e s m below meth cd ls H locs hc hr hlk hw hl
  generalize hav : (List.toArray [.ref (ev.2.1 0), .int a1, .int a2, .int a3] : Array Value) = av at hc ⊢
  obtain ⟨hx, hb, hml, hown, hts, hK, hZ⟩ := id hc
  have hl : lv_has ls 4 [(0, .ref (ev.2.1 0)), (1, .int a1), (2, .int a2), (3, .int a3)] := hl
  unfold f_X9_noPair at hf
  refine lv_aload_n hx hb dX9_noPair_0 rfl (lv_at hl 0 rfl) ?_
  refine lv_iload_n hx hb dX9_noPair_1 rfl (lv_at hl 1 rfl) ?_
  obtain ⟨r3, u2, h1, hf⟩ := ob_some hf
  refine endI okB hw (runV_ok (As := [.int a1]) (rest := []) okB hc hw (c_X9_noLot l ev a1 u h1 H.size) kv_X9_noLot ml_X9_193 (rvB0 ev u) hl.1 rfl rfl (Nat.le_of_ble_eq_true rfl) (rm_le (by decide) (by decide)) dX9_noPair_2) (fun H locs hw => ?_)
  refine lv_if_ne (tgt := 27) hx hb dX9_noPair_5 (by decide) (fun z => ?_) (fun z => ?_)
  · have hf := it_neg z hf
    refine lv_iconst (v := (1 : Int32)) hx hb dX9_noPair_27 (by decide) ?_
    refine lv_goto (tgt := 32) hx hb dX9_noPair_28 (by decide) ?_
    exact retZ hc hr hlk hw nz1 hf dX9_noPair_32
  · have hf := it_pos z hf
    refine lv_iload_n hx hb dX9_noPair_8 rfl (lv_at hl 2 rfl) ?_
    obtain ⟨r6, u5, h4, hf⟩ := ob_some hf
    refine endI okB hw (runS_ok (As := [.int a2]) (rest := []) okB hc hw (c_X9_noBidder l ev a2 u2 h4 H.size) ks_X9_noBidder ml_X9_144 hl.1 rfl rfl (Nat.le_of_ble_eq_true rfl) (rm_le (by decide) (by decide)) dX9_noPair_9) (fun H locs hw => ?_)
    refine lv_if_ne (tgt := 27) hx hb dX9_noPair_12 (by decide) (fun z => ?_) (fun z => ?_)
    · have hf := it_neg z hf
      refine lv_iconst (v := (1 : Int32)) hx hb dX9_noPair_27 (by decide) ?_
      refine lv_goto (tgt := 32) hx hb dX9_noPair_28 (by decide) ?_
      exact retZ hc hr hlk hw nz1 hf dX9_noPair_32
    · have hf := it_pos z hf
      refine lv_iload_n hx hb dX9_noPair_15 rfl (lv_at hl 3 rfl) ?_
      obtain ⟨r9, u8, h7, hf⟩ := ob_some hf
      refine endI okB hw (runS_ok (As := [.int a3]) (rest := []) okB hc hw (c_X9_noBidder l ev a3 u5 h7 H.size) ks_X9_noBidder ml_X9_144 hl.1 rfl rfl (Nat.le_of_ble_eq_true rfl) (rm_le (by decide) (by decide)) dX9_noPair_16) (fun H locs hw => ?_)
      refine lv_if_ne (tgt := 27) hx hb dX9_noPair_19 (by decide) (fun z => ?_) (fun z => ?_)
      · have hf := it_neg z hf
        refine lv_iconst (v := (1 : Int32)) hx hb dX9_noPair_27 (by decide) ?_
        refine lv_goto (tgt := 32) hx hb dX9_noPair_28 (by decide) ?_
        exact retZ hc hr hlk hw nz1 hf dX9_noPair_32
      · have hf := it_pos z hf
        refine lv_iload_n hx hb dX9_noPair_22 rfl (lv_at hl 2 rfl) ?_
        refine lv_iload_n hx hb dX9_noPair_23 rfl (lv_at hl 3 rfl) ?_
        refine lv_icmp_ne (tgt := 31) hx hb dX9_noPair_24 (by decide) (fun z => ?_) (fun z => ?_)
        · have hf := it_neg z hf
          refine lv_iconst (v := (0 : Int32)) hx hb dX9_noPair_31 (by decide) ?_
          exact retZ hc hr hlk hw nz0 hf dX9_noPair_32
        · have hf := it_pos z hf
          refine lv_iconst (v := (1 : Int32)) hx hb dX9_noPair_27 (by decide) ?_
          refine lv_goto (tgt := 32) hx hb dX9_noPair_28 (by decide) ?_
          exact retZ hc hr hlk hw nz1 hf dX9_noPair_32
def f_X9_workPair (a1 : Int32) (a2 : Int32) (a3 : Int32) (a4 : Int32) (u : SS) : Option SS :=
  ov (f_X7_lay a1 a4 u) fun u2 => ov (f_X7_work a2 u2) fun u4 => ov (f_X7_work a3 u4) fun u6 => some u6
set_option maxHeartbeats 4000000 in
set_option maxRecDepth 100000 in
theorem c_X9_workPair (l : Launch) (ev : EV) (a1 : Int32) (a2 : Int32) (a3 : Int32) (a4 : Int32) (u : SS) {u' : SS} (hf : f_X9_workPair a1 a2 a3 a4 u = some u') : MV wdB l yX9_workPair cX9_workPair 5 none 4 ev [.ref (ev.2.1 0), .int a1, .int a2, .int a3, .int a4] u u' := by
  refine bodyV (by decide +kernel) rfl (Nat.le_of_ble_eq_true rfl) ?_
  intro p e s m below meth cd ls H locs hc hr hlk hw hl
  generalize hav : (List.toArray [.ref (ev.2.1 0), .int a1, .int a2, .int a3, .int a4] : Array Value) = av at hc ⊢
  obtain ⟨hx, hb, hml, hown, hts, hK, hZ⟩ := id hc
  have hl : lv_has ls 5 [(0, .ref (ev.2.1 0)), (1, .int a1), (2, .int a2), (3, .int a3), (4, .int a4)] := hl
  unfold f_X9_workPair at hf
  refine lv_aload_n hx hb dX9_workPair_0 rfl (lv_at hl 0 rfl) ?_
  refine gB0_3 hc hw fl_X9_33 dX9_workPair_1 ?_
  refine lv_aload_n hx hb dX9_workPair_4 rfl (lv_at hl 0 rfl) ?_
  refine gB0_0 hc hw fl_X9_12 dX9_workPair_5 ?_
  refine lv_aload_n hx hb dX9_workPair_8 rfl (lv_at hl 0 rfl) ?_
  refine gB0_1 hc hw fl_X9_19 dX9_workPair_9 ?_
  refine lv_iload_n hx hb dX9_workPair_12 rfl (lv_at hl 1 rfl) ?_
  refine lv_iload hx hb dX9_workPair_13 (lv_at hl 4 rfl) ?_
  obtain ⟨u2, h1, hf⟩ := ov_some hf
  refine endV okB hw (runV_ok (As := [.ref (ev.2.1 1), .ref (ev.2.1 2), .int a1, .int a4]) (rest := []) okB hc hw (c_X7_lay l ev a1 a4 u h1 H.size) kv_X7_lay ml_X9_154 (rvB4 ev u) hl.1 rfl rfl (Nat.le_of_ble_eq_true rfl) (rm_le (by decide) (by decide)) dX9_workPair_15) (fun H locs hw => ?_)
  refine lv_aload_n hx hb dX9_workPair_18 rfl (lv_at hl 0 rfl) ?_
  refine gB0_3 hc hw fl_X9_33 dX9_workPair_19 ?_
  refine lv_aload_n hx hb dX9_workPair_22 rfl (lv_at hl 0 rfl) ?_
  refine gB0_2 hc hw fl_X9_26 dX9_workPair_23 ?_
  refine lv_iload_n hx hb dX9_workPair_26 rfl (lv_at hl 2 rfl) ?_
  obtain ⟨u4, h3, hf⟩ := ov_some hf
  refine endV okB hw (runV_ok (As := [.ref (ev.2.1 3), .int a2]) (rest := []) okB hc hw (c_X7_work l ev a2 u2 h3 H.size) kv_X7_work ml_X9_180 (rvB4 ev u2) hl.1 rfl rfl (Nat.le_of_ble_eq_true rfl) (rm_le (by decide) (by decide)) dX9_workPair_27) (fun H locs hw => ?_)
  refine lv_aload_n hx hb dX9_workPair_30 rfl (lv_at hl 0 rfl) ?_
  refine gB0_3 hc hw fl_X9_33 dX9_workPair_31 ?_
  refine lv_aload_n hx hb dX9_workPair_34 rfl (lv_at hl 0 rfl) ?_
  refine gB0_2 hc hw fl_X9_26 dX9_workPair_35 ?_
  refine lv_iload_n hx hb dX9_workPair_38 rfl (lv_at hl 3 rfl) ?_
  obtain ⟨u6, h5, hf⟩ := ov_some hf
  refine endV okB hw (runV_ok (As := [.ref (ev.2.1 3), .int a3]) (rest := []) okB hc hw (c_X7_work l ev a3 u4 h5 H.size) kv_X7_work ml_X9_180 (rvB4 ev u4) hl.1 rfl rfl (Nat.le_of_ble_eq_true rfl) (rm_le (by decide) (by decide)) dX9_workPair_39) (fun H locs hw => ?_)
  exact retV hc hr hlk hw hf dX9_workPair_42
