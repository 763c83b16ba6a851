def b_X10_findNames_L357 (k357 : Int32 → SS → Option SS) (b14 : Int32) (u : SS) : Option SS :=
  if (6 : Int32) ≤ b14 then (some u) else (oi b14 7 (oi b14 7 (ob (f_X10_divisor (gL u 0 b14.toNatClampNeg) (gL u 1 b14.toNatClampNeg) u) fun r20 u19 => oi b14 7 (if r20 = 0 then none else oi b14 7 (lt (tL u19 0 b14 ((gL u19 0 b14.toNatClampNeg) / r20)) fun u21 => oi b14 7 (if r20 = 0 then none else oi b14 7 (lt (tL u21 1 b14 ((gL u21 1 b14.toNatClampNeg) / r20)) fun u22 => lt (b14 + (1 : Int32)) fun x23 => k357 x23 u22)))))))
def f_X10_findNames_L357 : Nat → Int32 → SS → Option SS
  | 0 => fun _ _ => none
  | n + 1 => b_X10_findNames_L357 (f_X10_findNames_L357 n)
def f_X10_findNames_L310 (k281 : Int32 → Int32 → Int32 → Int32 → SS → Option SS) (b1 : Int32) (b3 : Int32) (b11 : Int32) (b14 : Int32) (q0 : Int64) (q1 : Int32) (u : SS) : Option SS :=
  oi q1 7 (lt (tL u 1 q1 q0) fun u24 => lt (b14 + (1 : Int32)) fun x25 => k281 b1 b3 b11 x25 u24)
def b_X10_findNames_L281 (k281 : Int32 → Int32 → Int32 → Int32 → SS → Option SS) (b1 : Int32) (b3 : Int32) (b11 : Int32) (b14 : Int32) (u : SS) : Option SS :=
  if (7 : Int32) ≤ b14 then (oi (3 : Int32) 7 (lt (tL u 1 (3 : Int32) (b11.toInt64)) fun u13 => ov (f_X10_findQuality b1 b3 u13) fun u15 => oi (4 : Int32) 7 (lt (tL u15 0 (4 : Int32) ((gI u15 4).toInt64)) fun u16 => oi (4 : Int32) 7 (lt (tL u16 1 (4 : Int32) ((gI u16 5).toInt64)) fun u17 => f_X10_findNames_L357 FU (3 : Int32) u17)))) else (if b14 = (5 : Int32) then (oi (5 : Int32) 7 (f_X10_findNames_L310 k281 b1 b3 b11 b14 (gL u 1 (5 : Int32).toNatClampNeg) b14 u)) else (f_X10_findNames_L310 k281 b1 b3 b11 b14 (1 : Int64) b14 u))
def f_X10_findNames_L281 : Nat → Int32 → Int32 → Int32 → Int32 → SS → Option SS
  | 0 => fun _ _ _ _ _ => none
  | n + 1 => b_X10_findNames_L281 (f_X10_findNames_L281 n)
def f_X10_findNames_L243 (b1 : Int32) (b3 : Int32) (b5 : Int64) (b7 : Int64) (b9 : Int64) (b11 : Int32) (q0 : Int64) (q1 : Int32) (u : SS) : Option SS :=
  oi q1 7 (lt (tL u 0 q1 q0) fun u8 => oi (1 : Int32) 7 (lt (tL u8 0 (1 : Int32) b5) fun u9 => oi (2 : Int32) 7 (lt (tL u9 0 (2 : Int32) b7) fun u10 => oi (3 : Int32) 7 (lt (tL u10 0 (3 : Int32) b9) fun u11 => oi (6 : Int32) 7 (lt (tL u11 0 (6 : Int32) (b11.toInt64)) fun u12 => f_X10_findNames_L281 FU b1 b3 b11 (0 : Int32) u12)))))
def f_X10_findNames_L209 (k35 : Int32 → Int32 → Int32 → Int32 → Int64 → Int64 → Int64 → Int32 → Int32 → SS → Option SS) (b1 : Int32) (b2 : Int32) (b3 : Int32) (b4 : Int32) (b5 : Int64) (b7 : Int64) (b9 : Int64) (b11 : Int32) (b12 : Int32) (u : SS) : Option SS :=
  lt (b12 + (1 : Int32)) fun x30 => k35 b1 b2 b3 b4 b5 b7 b9 b11 x30 u
def f_X10_findNames_L140 (k35 : Int32 → Int32 → Int32 → Int32 → Int64 → Int64 → Int64 → Int32 → Int32 → SS → Option SS) (b1 : Int32) (b2 : Int32) (b3 : Int32) (b4 : Int32) (b5 : Int64) (b9 : Int64) (b11 : Int32) (b12 : Int32) (b13 : Int32) (b14 : Int64) (q0 : Int64) (u : SS) : Option SS :=
  lt (b9 + b14) fun x35 => lt (b11 + (1 : Int32)) fun x36 => ov (f_X10_findQuality b13 b3 u) fun u38 => oi (5 : Int32) 7 (oi (5 : Int32) 7 (if (lg_cmp (((gI u38 4).toInt64) * (gL u38 1 (5 : Int32).toNatClampNeg)) ((gL u38 0 (5 : Int32).toNatClampNeg) * ((gI u38 5).toInt64))) ≤ 0 then (f_X10_findNames_L209 k35 b1 b2 b3 b4 b5 q0 x35 x36 b12 u38) else (oi (5 : Int32) 7 (lt (tL u38 0 (5 : Int32) ((gI u38 4).toInt64)) fun u39 => oi (5 : Int32) 7 (lt (tL u39 1 (5 : Int32) ((gI u39 5).toInt64)) fun u40 => f_X10_findNames_L209 k35 b1 b2 b3 b4 b5 q0 x35 x36 b12 u40)))))
def f_X10_findNames_L123 (k35 : Int32 → Int32 → Int32 → Int32 → Int64 → Int64 → Int64 → Int32 → Int32 → SS → Option SS) (b1 : Int32) (b2 : Int32) (b3 : Int32) (b4 : Int32) (b7 : Int64) (b9 : Int64) (b11 : Int32) (b12 : Int32) (b13 : Int32) (b14 : Int64) (q0 : Int64) (u : SS) : Option SS :=
  if (lg_cmp b14 b7) ≤ 0 then (f_X10_findNames_L140 k35 b1 b2 b3 b4 q0 b9 b11 b12 b13 b14 b7 u) else (f_X10_findNames_L140 k35 b1 b2 b3 b4 q0 b9 b11 b12 b13 b14 b14 u)
def f_X10_findNames_L116 (k35 : Int32 → Int32 → Int32 → Int32 → Int64 → Int64 → Int64 → Int32 → Int32 → SS → Option SS) (b1 : Int32) (b2 : Int32) (b3 : Int32) (b4 : Int32) (b7 : Int64) (b9 : Int64) (b11 : Int32) (b12 : Int32) (b13 : Int32) (b14 : Int64) (u : SS) : Option SS :=
  f_X10_findNames_L123 k35 b1 b2 b3 b4 b7 b9 b11 b12 b13 b14 b14 u
def f_X10_findNames_L101 (k35 : Int32 → Int32 → Int32 → Int32 → Int64 → Int64 → Int64 → Int32 → Int32 → SS → Option SS) (b1 : Int32) (b2 : Int32) (b3 : Int32) (b4 : Int32) (b5 : Int64) (b7 : Int64) (b9 : Int64) (b11 : Int32) (b12 : Int32) (b13 : Int32) (q0 : Int64) (u : SS) : Option SS :=
  if b11 = 0 then (f_X10_findNames_L116 k35 b1 b2 b3 b4 b7 b9 b11 b12 b13 q0 u) else (if 0 ≤ (lg_cmp q0 b5) then (f_X10_findNames_L123 k35 b1 b2 b3 b4 b7 b9 b11 b12 b13 q0 b5 u) else (f_X10_findNames_L116 k35 b1 b2 b3 b4 b7 b9 b11 b12 b13 q0 u))
def f_X10_findNames_L84 (k35 : Int32 → Int32 → Int32 → Int32 → Int64 → Int64 → Int64 → Int32 → Int32 → SS → Option SS) (b1 : Int32) (b2 : Int32) (b3 : Int32) (b4 : Int32) (b5 : Int64) (b7 : Int64) (b9 : Int64) (b11 : Int32) (b12 : Int32) (b13 : Int32) (q0 : Int32) (q1 : Int32) (u : SS) : Option SS :=
  lt ((q1 - q0).toInt64) fun x34 => if 0 ≤ (lg_cmp x34 (1 : Int64)) then (f_X10_findNames_L101 k35 b1 b2 b3 b4 b5 b7 b9 b11 b12 b13 x34 u) else (f_X10_findNames_L101 k35 b1 b2 b3 b4 b5 b7 b9 b11 b12 b13 (1 : Int64) u)
def b_X10_findNames_L35 (k35 : Int32 → Int32 → Int32 → Int32 → Int64 → Int64 → Int64 → Int32 → Int32 → SS → Option SS) (b1 : Int32) (b2 : Int32) (b3 : Int32) (b4 : Int32) (b5 : Int64) (b7 : Int64) (b9 : Int64) (b11 : Int32) (b12 : Int32) (u : SS) : Option SS :=
  if (8 : Int32) ≤ b12 then (ob (f_X10_priceOf b1 u) fun r6 u5 => lt ((r6 - b2).toInt64) fun x7 => if 0 ≤ (lg_cmp x7 (1 : Int64)) then (f_X10_findNames_L243 b1 b3 b5 b7 b9 b11 x7 (0 : Int32) u5) else (f_X10_findNames_L243 b1 b3 b5 b7 b9 b11 (1 : Int64) (0 : Int32) u5)) else (lt (((8 : Int32) * b4) + b12) fun x26 => ob (f_X10_doesStand x26 u) fun r29 u28 => if r29 = 0 then (f_X10_findNames_L209 k35 b1 b2 b3 b4 b5 b7 b9 b11 b12 u28) else (if b12 = b3 then (f_X10_findNames_L209 k35 b1 b2 b3 b4 b5 b7 b9 b11 b12 u28) else (ob (f_X10_priceOf x26 u28) fun r33 u32 => if x26 = b1 then (f_X10_findNames_L84 k35 b1 b2 b3 b4 b5 b7 b9 b11 b12 x26 b2 r33 u32) else (f_X10_findNames_L84 k35 b1 b2 b3 b4 b5 b7 b9 b11 b12 x26 (0 : Int32) r33 u32))))
def f_X10_findNames_L35 : Nat → Int32 → Int32 → Int32 → Int32 → Int64 → Int64 → Int64 → Int32 → Int32 → SS → Option SS
  | 0 => fun _ _ _ _ _ _ _ _ _ _ => none
  | n + 1 => b_X10_findNames_L35 (f_X10_findNames_L35 n)
def f_X10_findNames (a1 : Int32) (a2 : Int32) (a3 : Int32) (u : SS) : Option SS :=
  lt (a1 / (8 : Int32)) fun x1 => oi (5 : Int32) 7 (lt (tL u 0 (5 : Int32) (0 : Int64)) fun u2 => oi (5 : Int32) 7 (lt (tL u2 1 (5 : Int32) (1 : Int64)) fun u3 => f_X10_findNames_L35 FU a1 a2 a3 x1 (0 : Int64) (0 : Int64) (0 : Int64) (0 : Int32) (0 : Int32) u3))
set_option maxHeartbeats 4000000 in
set_option maxRecDepth 100000 in
theorem c_X10_findNames (l : Launch) (ev : EV) (a1 : Int32) (a2 : Int32) (a3 : Int32) (u : SS) {u' : SS} (hf : f_X10_findNames a1 a2 a3 u = some u') : MV wdM l yX10_findNames cX10_findNames 17 none 4 ev [.ref (ev.2.1 0), .int a1, .int a2, .int a3] u u' := by
  refine bodyV (by decide +kernel) rfl (Nat.le_of_ble_eq_true rfl) ?_
  intro p e s m below meth cd ls H locs hc hr hlk hw hl
  generalize hav : (List.toArray [.ref (ev.2.1 0), .int a1, .int a2, .int a3] : Array Value) = av at hc ⊢
  obtain ⟨hx, hb, hml, hown, hts, hK, hZ⟩ := id hc
  have hl : lv_has ls 17 [(0, .ref (ev.2.1 0)), (1, .int a1), (2, .int a2), (3, .int a3)] := hl
  have wL357 : ∀ (n : Nat) (b14 : Int32) (u : SS) (H : Heap) (locs : List Loc) (ls : Array Slot), VW wdM ev s u H locs → lv_has ls 17 [(0, .ref (ev.2.1 0)), (14, .int b14)] → f_X10_findNames_L357 n b14 u = some u' → W p l e (rmk 4) s m av below meth cd H locs 0 0 (ZV wdM ev s below av u') (F0 m 357 ls []) := by
    intro n
    induction n with
    | zero =>
      intro b14 u H locs ls hw hl hf
      cases hf
    | succ n hk357 =>
      intro b14 u H locs ls hw hl hf
      have hf : b_X10_findNames_L357 (f_X10_findNames_L357 n) b14 u = some u' := hf
      unfold b_X10_findNames_L357 at hf
      refine lv_iload hx hb dX10_findNames_357 (lv_at hl 1 rfl) ?_
      refine lv_bipush (v := (6 : Int32)) hx hb dX10_findNames_359 (by decide) ?_
      refine lv_icmp_ge (tgt := 413) hx hb dX10_findNames_361 (by decide) (fun z => ?_) (fun z => ?_)
      · have hf := it_pos z hf
        exact retV hc hr hlk hw hf dX10_findNames_413
      · have hf := it_neg z hf
        refine lv_aload_n hx hb dX10_findNames_364 rfl (lv_at hl 0 rfl) ?_
        refine gM0_22 hc hw fl_X10_60 dX10_findNames_365 ?_
        refine lv_iload hx hb dX10_findNames_368 (lv_at hl 1 rfl) ?_
        obtain ⟨z, hf⟩ := oi_some hf
        refine aM15 hc hw z dX10_findNames_370 ?_
        refine lv_aload_n hx hb dX10_findNames_371 rfl (lv_at hl 0 rfl) ?_
        refine gM0_23 hc hw fl_X10_64 dX10_findNames_372 ?_
        refine lv_iload hx hb dX10_findNames_375 (lv_at hl 1 rfl) ?_
        obtain ⟨z, hf⟩ := oi_some hf
        refine aM16 hc hw z dX10_findNames_377 ?_
        obtain ⟨r20, u19, h18, hf⟩ := ob_some hf
        refine endL okM hw (runS_ok (As := [.long (gL u 0 b14.toNatClampNeg), .long (gL u 1 b14.toNatClampNeg)]) (rest := []) okM hc hw (c_X10_divisor l ev (gL u 0 b14.toNatClampNeg) (gL u 1 b14.toNatClampNeg) u h18 H.size) ks_X10_divisor ml_X10_219 hl.1 rfl rfl (Nat.le_of_ble_eq_true rfl) (rm_le (by decide) (by decide)) dX10_findNames_378) (fun H locs hw => ?_)
        refine lv_lstore (lv' := [(15, .long r20), (0, .ref (ev.2.1 0)), (14, .int b14)]) hx hb dX10_findNames_381 hl (by decide) rfl (fun ls hl => ?_)
        refine lv_aload_n hx hb dX10_findNames_383 rfl (lv_at hl 1 rfl) ?_
        refine gM0_22 hc hw fl_X10_60 dX10_findNames_384 ?_
        refine lv_iload hx hb dX10_findNames_387 (lv_at hl 2 rfl) ?_
        refine lv_dup2_11 hx hb dX10_findNames_389 rfl rfl ?_
        obtain ⟨z, hf⟩ := oi_some hf
        refine aM15 hc hw z dX10_findNames_390 ?_
        refine lv_lload hx hb dX10_findNames_391 (lv_at hl 0 rfl) ?_
        obtain ⟨z, hf⟩ := it_none hf
        refine lv_ldiv hx hb dX10_findNames_393 z ?_
        obtain ⟨z, hf⟩ := oi_some hf
        refine tM15 hc hw z dX10_findNames_394 (fun H locs hw => ?_)
        obtain ⟨u21, eu21, hf⟩ := lt_some hf
        have hw := VW.nm eu21 hw
        refine lv_aload_n hx hb dX10_findNames_395 rfl (lv_at hl 1 rfl) ?_
        refine gM0_23 hc hw fl_X10_64 dX10_findNames_396 ?_
        refine lv_iload hx hb dX10_findNames_399 (lv_at hl 2 rfl) ?_
        refine lv_dup2_11 hx hb dX10_findNames_401 rfl rfl ?_
        obtain ⟨z, hf⟩ := oi_some hf
        refine aM16 hc hw z dX10_findNames_402 ?_
        refine lv_lload hx hb dX10_findNames_403 (lv_at hl 0 rfl) ?_
        obtain ⟨z, hf⟩ := it_none hf
        refine lv_ldiv hx hb dX10_findNames_405 z ?_
        obtain ⟨z, hf⟩ := oi_some hf
        refine tM16 hc hw z dX10_findNames_406 (fun H locs hw => ?_)
        obtain ⟨u22, eu22, hf⟩ := lt_some hf
        have hw := VW.nm eu22 hw
        obtain ⟨x23, ex23, hf⟩ := lt_some hf
        refine lv_iinc (v := x23) (lv' := [(14, .int x23), (15, .long r20), (0, .ref (ev.2.1 0))]) hx hb dX10_findNames_407 hl (k := 2) rfl (by rw [ex23]; rfl) (by decide) rfl (fun ls hl => ?_)
        refine lv_goto (tgt := 357) hx hb dX10_findNames_410 (by decide) ?_
        exact hk357 x23 u22 H locs ls hw (lv_sub hl [2, 0] rfl) hf
  have wL310 : ∀ (k281 : Int32 → Int32 → Int32 → Int32 → SS → Option SS) (hk281 : ∀ (b1 : Int32) (b3 : Int32) (b11 : Int32) (b14 : Int32) (u : SS) (H : Heap) (locs : List Loc) (ls : Array Slot), VW wdM ev s u H locs → lv_has ls 17 [(0, .ref (ev.2.1 0)), (1, .int b1), (3, .int b3), (11, .int b11), (14, .int b14)] → k281 b1 b3 b11 b14 u = some u' → W p l e (rmk 4) s m av below meth cd H locs 0 0 (ZV wdM ev s below av u') (F0 m 281 ls [])) (b1 : Int32) (b3 : Int32) (b11 : Int32) (b14 : Int32) (q0 : Int64) (q1 : Int32) (u : SS) (H : Heap) (locs : List Loc) (ls : Array Slot), VW wdM ev s u H locs → lv_has ls 17 [(0, .ref (ev.2.1 0)), (1, .int b1), (3, .int b3), (11, .int b11), (14, .int b14)] → f_X10_findNames_L310 k281 b1 b3 b11 b14 q0 q1 u = some u' → W p l e (rmk 4) s m av below meth cd H locs 0 0 (ZV wdM ev s below av u') (F0 m 310 ls [.long q0, .int q1, .ref (ev.2.1 16)]) := by
    intro k281 hk281 b1 b3 b11 b14 q0 q1 u H locs ls hw hl hf
    unfold f_X10_findNames_L310 at hf
    obtain ⟨z, hf⟩ := oi_some hf
    refine tM16 hc hw z dX10_findNames_310 (fun H locs hw => ?_)
    obtain ⟨u24, eu24, hf⟩ := lt_some hf
    have hw := VW.nm eu24 hw
    obtain ⟨x25, ex25, hf⟩ := lt_some hf
    refine lv_iinc (v := x25) (lv' := [(14, .int x25), (0, .ref (ev.2.1 0)), (1, .int b1), (3, .int b3), (11, .int b11)]) hx hb dX10_findNames_311 hl (k := 4) rfl (by rw [ex25]; rfl) (by decide) rfl (fun ls hl => ?_)
    refine lv_goto (tgt := 281) hx hb dX10_findNames_314 (by decide) ?_
    exact hk281 b1 b3 b11 x25 u24 H locs ls hw (lv_sub hl [1, 2, 3, 4, 0] rfl) hf
  have wL281 : ∀ (n : Nat) (b1 : Int32) (b3 : Int32) (b11 : Int32) (b14 : Int32) (u : SS) (H : Heap) (locs : List Loc) (ls : Array Slot), VW wdM ev s u H locs → lv_has ls 17 [(0, .ref (ev.2.1 0)), (1, .int b1), (3, .int b3), (11, .int b11), (14, .int b14)] → f_X10_findNames_L281 n b1 b3 b11 b14 u = some u' → W p l e (rmk 4) s m av below meth cd H locs 0 0 (ZV wdM ev s below av u') (F0 m 281 ls []) := by
    intro n
    induction n with
    | zero =>
      intro b1 b3 b11 b14 u H locs ls hw hl hf
      cases hf
    | succ n hk281 =>
      intro b1 b3 b11 b14 u H locs ls hw hl hf
      have hf : b_X10_findNames_L281 (f_X10_findNames_L281 n) b1 b3 b11 b14 u = some u' := hf
      unfold b_X10_findNames_L281 at hf
      refine lv_iload hx hb dX10_findNames_281 (lv_at hl 4 rfl) ?_
      refine lv_bipush (v := (7 : Int32)) hx hb dX10_findNames_283 (by decide) ?_
      refine lv_icmp_ge (tgt := 317) hx hb dX10_findNames_285 (by decide) (fun z => ?_) (fun z => ?_)
      · have hf := it_pos z hf
        refine lv_aload_n hx hb dX10_findNames_317 rfl (lv_at hl 0 rfl) ?_
        refine gM0_23 hc hw fl_X10_64 dX10_findNames_318 ?_
        refine lv_iconst (v := (3 : Int32)) hx hb dX10_findNames_321 (by decide) ?_
        refine lv_iload hx hb dX10_findNames_322 (lv_at hl 3 rfl) ?_
        refine lv_i2l (v := b11.toInt64) hx hb dX10_findNames_324 rfl ?_
        obtain ⟨z, hf⟩ := oi_some hf
        refine tM16 hc hw z dX10_findNames_325 (fun H locs hw => ?_)
        obtain ⟨u13, eu13, hf⟩ := lt_some hf
        have hw := VW.nm eu13 hw
        refine lv_aload_n hx hb dX10_findNames_326 rfl (lv_at hl 0 rfl) ?_
        refine lv_iload_n hx hb dX10_findNames_327 rfl (lv_at hl 1 rfl) ?_
        refine lv_iload_n hx hb dX10_findNames_328 rfl (lv_at hl 2 rfl) ?_
        obtain ⟨u15, h14, hf⟩ := ov_some hf
        refine endV okM hw (runV_ok (As := [.int b1, .int b3]) (rest := []) okM hc hw (c_X10_findQuality l ev b1 b3 u13 h14 H.size) kv_X10_findQuality ml_X10_215 (rvM0 ev u13) hl.1 rfl rfl (Nat.le_of_ble_eq_true rfl) (rm_le (by decide) (by decide)) dX10_findNames_329) (fun H locs hw => ?_)
        refine lv_aload_n hx hb dX10_findNames_332 rfl (lv_at hl 0 rfl) ?_
        refine gM0_22 hc hw fl_X10_60 dX10_findNames_333 ?_
        refine lv_iconst (v := (4 : Int32)) hx hb dX10_findNames_336 (by decide) ?_
        refine lv_aload_n hx hb dX10_findNames_337 rfl (lv_at hl 0 rfl) ?_
        refine gM0_16 hc hw fl_X10_206 dX10_findNames_338 ?_
        refine lv_i2l (v := (gI u15 4).toInt64) hx hb dX10_findNames_341 rfl ?_
        obtain ⟨z, hf⟩ := oi_some hf
        refine tM15 hc hw z dX10_findNames_342 (fun H locs hw => ?_)
        obtain ⟨u16, eu16, hf⟩ := lt_some hf
        have hw := VW.nm eu16 hw
        refine lv_aload_n hx hb dX10_findNames_343 rfl (lv_at hl 0 rfl) ?_
        refine gM0_23 hc hw fl_X10_64 dX10_findNames_344 ?_
        refine lv_iconst (v := (4 : Int32)) hx hb dX10_findNames_347 (by decide) ?_
        refine lv_aload_n hx hb dX10_findNames_348 rfl (lv_at hl 0 rfl) ?_
        refine gM0_17 hc hw fl_X10_209 dX10_findNames_349 ?_
        refine lv_i2l (v := (gI u16 5).toInt64) hx hb dX10_findNames_352 rfl ?_
        obtain ⟨z, hf⟩ := oi_some hf
        refine tM16 hc hw z dX10_findNames_353 (fun H locs hw => ?_)
        obtain ⟨u17, eu17, hf⟩ := lt_some hf
        have hw := VW.nm eu17 hw
        refine lv_iconst (v := (3 : Int32)) hx hb dX10_findNames_354 (by decide) ?_
        refine lv_istore (lv' := [(14, .int (3 : Int32)), (0, .ref (ev.2.1 0)), (1, .int b1), (3, .int b3), (11, .int b11)]) hx hb dX10_findNames_355 hl (by decide) rfl (fun ls hl => ?_)
        exact wL357 FU (3 : Int32) u17 H locs ls hw (lv_sub hl [1, 0] rfl) hf
      · have hf := it_neg z hf
        refine lv_aload_n hx hb dX10_findNames_288 rfl (lv_at hl 0 rfl) ?_
        refine gM0_23 hc hw fl_X10_64 dX10_findNames_289 ?_
        refine lv_iload hx hb dX10_findNames_292 (lv_at hl 4 rfl) ?_
        refine lv_iload hx hb dX10_findNames_294 (lv_at hl 4 rfl) ?_
        refine lv_iconst (v := (5 : Int32)) hx hb dX10_findNames_296 (by decide) ?_
        refine lv_icmp_ne (tgt := 309) hx hb dX10_findNames_297 (by decide) (fun z => ?_) (fun z => ?_)
        · have hf := it_neg z hf
          refine lv_lconst (v := (1 : Int64)) hx hb dX10_findNames_309 (by decide) ?_
          exact wL310 (f_X10_findNames_L281 n) hk281 b1 b3 b11 b14 (1 : Int64) b14 u H locs ls hw (lv_sub hl [0, 1, 2, 3, 4] rfl) hf
        · have hf := it_pos z hf
          refine lv_aload_n hx hb dX10_findNames_300 rfl (lv_at hl 0 rfl) ?_
          refine gM0_23 hc hw fl_X10_64 dX10_findNames_301 ?_
          refine lv_iconst (v := (5 : Int32)) hx hb dX10_findNames_304 (by decide) ?_
          obtain ⟨z, hf⟩ := oi_some hf
          refine aM16 hc hw z dX10_findNames_305 ?_
          refine lv_goto (tgt := 310) hx hb dX10_findNames_306 (by decide) ?_
          exact wL310 (f_X10_findNames_L281 n) hk281 b1 b3 b11 b14 (gL u 1 (5 : Int32).toNatClampNeg) b14 u H locs ls hw (lv_sub hl [0, 1, 2, 3, 4] rfl) hf
  have wL243 : ∀ (b1 : Int32) (b3 : Int32) (b5 : Int64) (b7 : Int64) (b9 : Int64) (b11 : Int32) (q0 : Int64) (q1 : Int32) (u : SS) (H : Heap) (locs : List Loc) (ls : Array Slot), VW wdM ev s u H locs → lv_has ls 17 [(0, .ref (ev.2.1 0)), (1, .int b1), (3, .int b3), (5, .long b5), (7, .long b7), (9, .long b9), (11, .int b11)] → f_X10_findNames_L243 b1 b3 b5 b7 b9 b11 q0 q1 u = some u' → W p l e (rmk 4) s m av below meth cd H locs 0 0 (ZV wdM ev s below av u') (F0 m 243 ls [.long q0, .int q1, .ref (ev.2.1 15)]) := by
    intro b1 b3 b5 b7 b9 b11 q0 q1 u H locs ls hw hl hf
    unfold f_X10_findNames_L243 at hf
    obtain ⟨z, hf⟩ := oi_some hf
    refine tM15 hc hw z dX10_findNames_243 (fun H locs hw => ?_)
    obtain ⟨u8, eu8, hf⟩ := lt_some hf
    have hw := VW.nm eu8 hw
    refine lv_aload_n hx hb dX10_findNames_244 rfl (lv_at hl 0 rfl) ?_
    refine gM0_22 hc hw fl_X10_60 dX10_findNames_245 ?_
    refine lv_iconst (v := (1 : Int32)) hx hb dX10_findNames_248 (by decide) ?_
    refine lv_lload hx hb dX10_findNames_249 (lv_at hl 3 rfl) ?_
    obtain ⟨z, hf⟩ := oi_some hf
    refine tM15 hc hw z dX10_findNames_251 (fun H locs hw => ?_)
    obtain ⟨u9, eu9, hf⟩ := lt_some hf
    have hw := VW.nm eu9 hw
    refine lv_aload_n hx hb dX10_findNames_252 rfl (lv_at hl 0 rfl) ?_
    refine gM0_22 hc hw fl_X10_60 dX10_findNames_253 ?_
    refine lv_iconst (v := (2 : Int32)) hx hb dX10_findNames_256 (by decide) ?_
    refine lv_lload hx hb dX10_findNames_257 (lv_at hl 4 rfl) ?_
    obtain ⟨z, hf⟩ := oi_some hf
    refine tM15 hc hw z dX10_findNames_259 (fun H locs hw => ?_)
    obtain ⟨u10, eu10, hf⟩ := lt_some hf
    have hw := VW.nm eu10 hw
    refine lv_aload_n hx hb dX10_findNames_260 rfl (lv_at hl 0 rfl) ?_
    refine gM0_22 hc hw fl_X10_60 dX10_findNames_261 ?_
    refine lv_iconst (v := (3 : Int32)) hx hb dX10_findNames_264 (by decide) ?_
    refine lv_lload hx hb dX10_findNames_265 (lv_at hl 5 rfl) ?_
    obtain ⟨z, hf⟩ := oi_some hf
    refine tM15 hc hw z dX10_findNames_267 (fun H locs hw => ?_)
    obtain ⟨u11, eu11, hf⟩ := lt_some hf
    have hw := VW.nm eu11 hw
    refine lv_aload_n hx hb dX10_findNames_268 rfl (lv_at hl 0 rfl) ?_
    refine gM0_22 hc hw fl_X10_60 dX10_findNames_269 ?_
    refine lv_bipush (v := (6 : Int32)) hx hb dX10_findNames_272 (by decide) ?_
    refine lv_iload hx hb dX10_findNames_274 (lv_at hl 6 rfl) ?_
    refine lv_i2l (v := b11.toInt64) hx hb dX10_findNames_276 rfl ?_
    obtain ⟨z, hf⟩ := oi_some hf
    refine tM15 hc hw z dX10_findNames_277 (fun H locs hw => ?_)
    obtain ⟨u12, eu12, hf⟩ := lt_some hf
    have hw := VW.nm eu12 hw
    refine lv_iconst (v := (0 : Int32)) hx hb dX10_findNames_278 (by decide) ?_
    refine lv_istore (lv' := [(14, .int (0 : Int32)), (0, .ref (ev.2.1 0)), (1, .int b1), (3, .int b3), (5, .long b5), (7, .long b7), (9, .long b9), (11, .int b11)]) hx hb dX10_findNames_279 hl (by decide) rfl (fun ls hl => ?_)
    exact wL281 FU b1 b3 b11 (0 : Int32) u12 H locs ls hw (lv_sub hl [1, 2, 3, 7, 0] rfl) hf
  have wL209 : ∀ (k35 : Int32 → Int32 → Int32 → Int32 → Int64 → Int64 → Int64 → Int32 → Int32 → SS → Option SS) (hk35 : ∀ (b1 : Int32) (b2 : Int32) (b3 : Int32) (b4 : Int32) (b5 : Int64) (b7 : Int64) (b9 : Int64) (b11 : Int32) (b12 : Int32) (u : SS) (H : Heap) (locs : List Loc) (ls : Array Slot), VW wdM ev s u H locs → lv_has ls 17 [(0, .ref (ev.2.1 0)), (1, .int b1), (2, .int b2), (3, .int b3), (4, .int b4), (5, .long b5), (7, .long b7), (9, .long b9), (11, .int b11), (12, .int b12)] → k35 b1 b2 b3 b4 b5 b7 b9 b11 b12 u = some u' → W p l e (rmk 4) s m av below meth cd H locs 0 0 (ZV wdM ev s below av u') (F0 m 35 ls [])) (b1 : Int32) (b2 : Int32) (b3 : Int32) (b4 : Int32) (b5 : Int64) (b7 : Int64) (b9 : Int64) (b11 : Int32) (b12 : Int32) (u : SS) (H : Heap) (locs : List Loc) (ls : Array Slot), VW wdM ev s u H locs → lv_has ls 17 [(0, .ref (ev.2.1 0)), (1, .int b1), (2, .int b2), (3, .int b3), (4, .int b4), (5, .long b5), (7, .long b7), (9, .long b9), (11, .int b11), (12, .int b12)] → f_X10_findNames_L209 k35 b1 b2 b3 b4 b5 b7 b9 b11 b12 u = some u' → W p l e (rmk 4) s m av below meth cd H locs 0 0 (ZV wdM ev s below av u') (F0 m 209 ls []) := by
    intro k35 hk35 b1 b2 b3 b4 b5 b7 b9 b11 b12 u H locs ls hw hl hf
    unfold f_X10_findNames_L209 at hf
    obtain ⟨x30, ex30, hf⟩ := lt_some hf
    refine lv_iinc (v := x30) (lv' := [(12, .int x30), (0, .ref (ev.2.1 0)), (1, .int b1), (2, .int b2), (3, .int b3), (4, .int b4), (5, .long b5), (7, .long b7), (9, .long b9), (11, .int b11)]) hx hb dX10_findNames_209 hl (k := 9) rfl (by rw [ex30]; rfl) (by decide) rfl (fun ls hl => ?_)
    refine lv_goto (tgt := 35) hx hb dX10_findNames_212 (by decide) ?_
    exact hk35 b1 b2 b3 b4 b5 b7 b9 b11 x30 u H locs ls hw (lv_sub hl [1, 2, 3, 4, 5, 6, 7, 8, 9, 0] rfl) hf
  have wL140 : ∀ (k35 : Int32 → Int32 → Int32 → Int32 → Int64 → Int64 → Int64 → Int32 → Int32 → SS → Option SS) (hk35 : ∀ (b1 : Int32) (b2 : Int32) (b3 : Int32) (b4 : Int32) (b5 : Int64) (b7 : Int64) (b9 : Int64) (b11 : Int32) (b12 : Int32) (u : SS) (H : Heap) (locs : List Loc) (ls : Array Slot), VW wdM ev s u H locs → lv_has ls 17 [(0, .ref (ev.2.1 0)), (1, .int b1), (2, .int b2), (3, .int b3), (4, .int b4), (5, .long b5), (7, .long b7), (9, .long b9), (11, .int b11), (12, .int b12)] → k35 b1 b2 b3 b4 b5 b7 b9 b11 b12 u = some u' → W p l e (rmk 4) s m av below meth cd H locs 0 0 (ZV wdM ev s below av u') (F0 m 35 ls [])) (b1 : Int32) (b2 : Int32) (b3 : Int32) (b4 : Int32) (b5 : Int64) (b9 : Int64) (b11 : Int32) (b12 : Int32) (b13 : Int32) (b14 : Int64) (q0 : Int64) (u : SS) (H : Heap) (locs : List Loc) (ls : Array Slot), VW wdM ev s u H locs → lv_has ls 17 [(0, .ref (ev.2.1 0)), (1, .int b1), (2, .int b2), (3, .int b3), (4, .int b4), (5, .long b5), (9, .long b9), (11, .int b11), (12, .int b12), (13, .int b13), (14, .long b14)] → f_X10_findNames_L140 k35 b1 b2 b3 b4 b5 b9 b11 b12 b13 b14 q0 u = some u' → W p l e (rmk 4) s m av below meth cd H locs 0 0 (ZV wdM ev s below av u') (F0 m 140 ls [.long q0]) := by
    intro k35 hk35 b1 b2 b3 b4 b5 b9 b11 b12 b13 b14 q0 u H locs ls hw hl hf
    unfold f_X10_findNames_L140 at hf
    refine lv_lstore (lv' := [(7, .long q0), (0, .ref (ev.2.1 0)), (1, .int b1), (2, .int b2), (3, .int b3), (4, .int b4), (5, .long b5), (9, .long b9), (11, .int b11), (12, .int b12), (13, .int b13), (14, .long b14)]) hx hb dX10_findNames_140 hl (by decide) rfl (fun ls hl => ?_)
    refine lv_lload hx hb dX10_findNames_142 (lv_at hl 7 rfl) ?_
    refine lv_lload hx hb dX10_findNames_144 (lv_at hl 11 rfl) ?_
    refine lv_ladd hx hb dX10_findNames_146 ?_
    obtain ⟨x35, ex35, hf⟩ := lt_some hf
    refine topel ex35 ?_
    refine lv_lstore (lv' := [(9, .long x35), (7, .long q0), (0, .ref (ev.2.1 0)), (1, .int b1), (2, .int b2), (3, .int b3), (4, .int b4), (5, .long b5), (11, .int b11), (12, .int b12), (13, .int b13), (14, .long b14)]) hx hb dX10_findNames_147 hl (by decide) rfl (fun ls hl => ?_)
    obtain ⟨x36, ex36, hf⟩ := lt_some hf
    refine lv_iinc (v := x36) (lv' := [(11, .int x36), (9, .long x35), (7, .long q0), (0, .ref (ev.2.1 0)), (1, .int b1), (2, .int b2), (3, .int b3), (4, .int b4), (5, .long b5), (12, .int b12), (13, .int b13), (14, .long b14)]) hx hb dX10_findNames_149 hl (k := 8) rfl (by rw [ex36]; rfl) (by decide) rfl (fun ls hl => ?_)
    refine lv_aload_n hx hb dX10_findNames_152 rfl (lv_at hl 3 rfl) ?_
    refine lv_iload hx hb dX10_findNames_153 (lv_at hl 10 rfl) ?_
    refine lv_iload_n hx hb dX10_findNames_155 rfl (lv_at hl 6 rfl) ?_
    obtain ⟨u38, h37, hf⟩ := ov_some hf
    refine endV okM hw (runV_ok (As := [.int b13, .int b3]) (rest := []) okM hc hw (c_X10_findQuality l ev b13 b3 u h37 H.size) kv_X10_findQuality ml_X10_215 (rvM0 ev u) hl.1 rfl rfl (Nat.le_of_ble_eq_true rfl) (rm_le (by decide) (by decide)) dX10_findNames_156) (fun H locs hw => ?_)
    refine lv_aload_n hx hb dX10_findNames_159 rfl (lv_at hl 3 rfl) ?_
    refine gM0_16 hc hw fl_X10_206 dX10_findNames_160 ?_
    refine lv_i2l (v := (gI u38 4).toInt64) hx hb dX10_findNames_163 rfl ?_
    refine lv_aload_n hx hb dX10_findNames_164 rfl (lv_at hl 3 rfl) ?_
    refine gM0_23 hc hw fl_X10_64 dX10_findNames_165 ?_
    refine lv_iconst (v := (5 : Int32)) hx hb dX10_findNames_168 (by decide) ?_
    obtain ⟨z, hf⟩ := oi_some hf
    refine aM16 hc hw z dX10_findNames_169 ?_
    refine lv_lmul hx hb dX10_findNames_170 ?_
    refine lv_aload_n hx hb dX10_findNames_171 rfl (lv_at hl 3 rfl) ?_
    refine gM0_22 hc hw fl_X10_60 dX10_findNames_172 ?_
    refine lv_iconst (v := (5 : Int32)) hx hb dX10_findNames_175 (by decide) ?_
    obtain ⟨z, hf⟩ := oi_some hf
    refine aM15 hc hw z dX10_findNames_176 ?_
    refine lv_aload_n hx hb dX10_findNames_177 rfl (lv_at hl 3 rfl) ?_
    refine gM0_17 hc hw fl_X10_209 dX10_findNames_178 ?_
    refine lv_i2l (v := (gI u38 5).toInt64) hx hb dX10_findNames_181 rfl ?_
    refine lv_lmul hx hb dX10_findNames_182 ?_
    refine W.lcmp hx hb dX10_findNames_183 ?_
    refine lv_if_le (tgt := 209) hx hb dX10_findNames_184 (by decide) (fun z => ?_) (fun z => ?_)
    · have hf := it_pos z hf
      exact wL209 k35 hk35 b1 b2 b3 b4 b5 q0 x35 x36 b12 u38 H locs ls hw (lv_sub hl [3, 4, 5, 6, 7, 8, 2, 1, 0, 9] rfl) hf
    · have hf := it_neg z hf
      refine lv_aload_n hx hb dX10_findNames_187 rfl (lv_at hl 3 rfl) ?_
      refine gM0_22 hc hw fl_X10_60 dX10_findNames_188 ?_
      refine lv_iconst (v := (5 : Int32)) hx hb dX10_findNames_191 (by decide) ?_
      refine lv_aload_n hx hb dX10_findNames_192 rfl (lv_at hl 3 rfl) ?_
      refine gM0_16 hc hw fl_X10_206 dX10_findNames_193 ?_
      refine lv_i2l (v := (gI u38 4).toInt64) hx hb dX10_findNames_196 rfl ?_
      obtain ⟨z, hf⟩ := oi_some hf
      refine tM15 hc hw z dX10_findNames_197 (fun H locs hw => ?_)
      obtain ⟨u39, eu39, hf⟩ := lt_some hf
      have hw := VW.nm eu39 hw
      refine lv_aload_n hx hb dX10_findNames_198 rfl (lv_at hl 3 rfl) ?_
      refine gM0_23 hc hw fl_X10_64 dX10_findNames_199 ?_
      refine lv_iconst (v := (5 : Int32)) hx hb dX10_findNames_202 (by decide) ?_
      refine lv_aload_n hx hb dX10_findNames_203 rfl (lv_at hl 3 rfl) ?_
      refine gM0_17 hc hw fl_X10_209 dX10_findNames_204 ?_
      refine lv_i2l (v := (gI u39 5).toInt64) hx hb dX10_findNames_207 rfl ?_
      obtain ⟨z, hf⟩ := oi_some hf
      refine tM16 hc hw z dX10_findNames_208 (fun H locs hw => ?_)
      obtain ⟨u40, eu40, hf⟩ := lt_some hf
      have hw := VW.nm eu40 hw
      exact wL209 k35 hk35 b1 b2 b3 b4 b5 q0 x35 x36 b12 u40 H locs ls hw (lv_sub hl [3, 4, 5, 6, 7, 8, 2, 1, 0, 9] rfl) hf
  have wL123 : ∀ (k35 : Int32 → Int32 → Int32 → Int32 → Int64 → Int64 → Int64 → Int32 → Int32 → SS → Option SS) (hk35 : ∀ (b1 : Int32) (b2 : Int32) (b3 : Int32) (b4 : Int32) (b5 : Int64) (b7 : Int64) (b9 : Int64) (b11 : Int32) (b12 : Int32) (u : SS) (H : Heap) (locs : List Loc) (ls : Array Slot), VW wdM ev s u H locs → lv_has ls 17 [(0, .ref (ev.2.1 0)), (1, .int b1), (2, .int b2), (3, .int b3), (4, .int b4), (5, .long b5), (7, .long b7), (9, .long b9), (11, .int b11), (12, .int b12)] → k35 b1 b2 b3 b4 b5 b7 b9 b11 b12 u = some u' → W p l e (rmk 4) s m av below meth cd H locs 0 0 (ZV wdM ev s below av u') (F0 m 35 ls [])) (b1 : Int32) (b2 : Int32) (b3 : Int32) (b4 : Int32) (b7 : Int64) (b9 : Int64) (b11 : Int32) (b12 : Int32) (b13 : Int32) (b14 : Int64) (q0 : Int64) (u : SS) (H : Heap) (locs : List Loc) (ls : Array Slot), VW wdM ev s u H locs → lv_has ls 17 [(0, .ref (ev.2.1 0)), (1, .int b1), (2, .int b2), (3, .int b3), (4, .int b4), (7, .long b7), (9, .long b9), (11, .int b11), (12, .int b12), (13, .int b13), (14, .long b14)] → f_X10_findNames_L123 k35 b1 b2 b3 b4 b7 b9 b11 b12 b13 b14 q0 u = some u' → W p l e (rmk 4) s m av below meth cd H locs 0 0 (ZV wdM ev s below av u') (F0 m 123 ls [.long q0]) := by
    intro k35 hk35 b1 b2 b3 b4 b7 b9 b11 b12 b13 b14 q0 u H locs ls hw hl hf
    unfold f_X10_findNames_L123 at hf
    refine lv_lstore (lv' := [(5, .long q0), (0, .ref (ev.2.1 0)), (1, .int b1), (2, .int b2), (3, .int b3), (4, .int b4), (7, .long b7), (9, .long b9), (11, .int b11), (12, .int b12), (13, .int b13), (14, .long b14)]) hx hb dX10_findNames_123 hl (by decide) rfl (fun ls hl => ?_)
    refine lv_lload hx hb dX10_findNames_125 (lv_at hl 11 rfl) ?_
    refine lv_lload hx hb dX10_findNames_127 (lv_at hl 6 rfl) ?_
    refine W.lcmp hx hb dX10_findNames_129 ?_
    refine lv_if_le (tgt := 138) hx hb dX10_findNames_130 (by decide) (fun z => ?_) (fun z => ?_)
    · have hf := it_pos z hf
      refine lv_lload hx hb dX10_findNames_138 (lv_at hl 6 rfl) ?_
      exact wL140 k35 hk35 b1 b2 b3 b4 q0 b9 b11 b12 b13 b14 b7 u H locs ls hw (lv_sub hl [1, 2, 3, 4, 5, 0, 7, 8, 9, 10, 11] rfl) hf
    · have hf := it_neg z hf
      refine lv_lload hx hb dX10_findNames_133 (lv_at hl 11 rfl) ?_
      refine lv_goto (tgt := 140) hx hb dX10_findNames_135 (by decide) ?_
      exact wL140 k35 hk35 b1 b2 b3 b4 q0 b9 b11 b12 b13 b14 b14 u H locs ls hw (lv_sub hl [1, 2, 3, 4, 5, 0, 7, 8, 9, 10, 11] rfl) hf
  have wL116 : ∀ (k35 : Int32 → Int32 → Int32 → Int32 → Int64 → Int64 → Int64 → Int32 → Int32 → SS → Option SS) (hk35 : ∀ (b1 : Int32) (b2 : Int32) (b3 : Int32) (b4 : Int32) (b5 : Int64) (b7 : Int64) (b9 : Int64) (b11 : Int32) (b12 : Int32) (u : SS) (H : Heap) (locs : List Loc) (ls : Array Slot), VW wdM ev s u H locs → lv_has ls 17 [(0, .ref (ev.2.1 0)), (1, .int b1), (2, .int b2), (3, .int b3), (4, .int b4), (5, .long b5), (7, .long b7), (9, .long b9), (11, .int b11), (12, .int b12)] → k35 b1 b2 b3 b4 b5 b7 b9 b11 b12 u = some u' → W p l e (rmk 4) s m av below meth cd H locs 0 0 (ZV wdM ev s below av u') (F0 m 35 ls [])) (b1 : Int32) (b2 : Int32) (b3 : Int32) (b4 : Int32) (b7 : Int64) (b9 : Int64) (b11 : Int32) (b12 : Int32) (b13 : Int32) (b14 : Int64) (u : SS) (H : Heap) (locs : List Loc) (ls : Array Slot), VW wdM ev s u H locs → lv_has ls 17 [(0, .ref (ev.2.1 0)), (1, .int b1), (2, .int b2), (3, .int b3), (4, .int b4), (7, .long b7), (9, .long b9), (11, .int b11), (12, .int b12), (13, .int b13), (14, .long b14)] → f_X10_findNames_L116 k35 b1 b2 b3 b4 b7 b9 b11 b12 b13 b14 u = some u' → W p l e (rmk 4) s m av below meth cd H locs 0 0 (ZV wdM ev s below av u') (F0 m 116 ls []) := by
    intro k35 hk35 b1 b2 b3 b4 b7 b9 b11 b12 b13 b14 u H locs ls hw hl hf
    unfold f_X10_findNames_L116 at hf
    refine lv_lload hx hb dX10_findNames_116 (lv_at hl 10 rfl) ?_
    refine lv_goto (tgt := 123) hx hb dX10_findNames_118 (by decide) ?_
    exact wL123 k35 hk35 b1 b2 b3 b4 b7 b9 b11 b12 b13 b14 b14 u H locs ls hw (lv_sub hl [0, 1, 2, 3, 4, 5, 6, 7, 8, 9, 10] rfl) hf
  have wL101 : ∀ (k35 : Int32 → Int32 → Int32 → Int32 → Int64 → Int64 → Int64 → Int32 → Int32 → SS → Option SS) (hk35 : ∀ (b1 : Int32) (b2 : Int32) (b3 : Int32) (b4 : Int32) (b5 : Int64) (b7 : Int64) (b9 : Int64) (b11 : Int32) (b12 : Int32) (u : SS) (H : Heap) (locs : List Loc) (ls : Array Slot), VW wdM ev s u H locs → lv_has ls 17 [(0, .ref (ev.2.1 0)), (1, .int b1), (2, .int b2), (3, .int b3), (4, .int b4), (5, .long b5), (7, .long b7), (9, .long b9), (11, .int b11), (12, .int b12)] → k35 b1 b2 b3 b4 b5 b7 b9 b11 b12 u = some u' → W p l e (rmk 4) s m av below meth cd H locs 0 0 (ZV wdM ev s below av u') (F0 m 35 ls [])) (b1 : Int32) (b2 : Int32) (b3 : Int32) (b4 : Int32) (b5 : Int64) (b7 : Int64) (b9 : Int64) (b11 : Int32) (b12 : Int32) (b13 : Int32) (q0 : Int64) (u : SS) (H : Heap) (locs : List Loc) (ls : Array Slot), VW wdM ev s u H locs → lv_has ls 17 [(0, .ref (ev.2.1 0)), (1, .int b1), (2, .int b2), (3, .int b3), (4, .int b4), (5, .long b5), (7, .long b7), (9, .long b9), (11, .int b11), (12, .int b12), (13, .int b13)] → f_X10_findNames_L101 k35 b1 b2 b3 b4 b5 b7 b9 b11 b12 b13 q0 u = some u' → W p l e (rmk 4) s m av below meth cd H locs 0 0 (ZV wdM ev s below av u') (F0 m 101 ls [.long q0]) := by
    intro k35 hk35 b1 b2 b3 b4 b5 b7 b9 b11 b12 b13 q0 u H locs ls hw hl hf
    unfold f_X10_findNames_L101 at hf
    refine lv_lstore (lv' := [(14, .long q0), (0, .ref (ev.2.1 0)), (1, .int b1), (2, .int b2), (3, .int b3), (4, .int b4), (5, .long b5), (7, .long b7), (9, .long b9), (11, .int b11), (12, .int b12), (13, .int b13)]) hx hb dX10_findNames_101 hl (by decide) rfl (fun ls hl => ?_)
    refine lv_iload hx hb dX10_findNames_103 (lv_at hl 9 rfl) ?_
    refine lv_if_eq (tgt := 116) hx hb dX10_findNames_105 (by decide) (fun z => ?_) (fun z => ?_)
    · have hf := it_pos z hf
      exact wL116 k35 hk35 b1 b2 b3 b4 b7 b9 b11 b12 b13 q0 u H locs ls hw (lv_sub hl [1, 2, 3, 4, 5, 7, 8, 9, 10, 11, 0] rfl) hf
    · have hf := it_neg z hf
      refine lv_lload hx hb dX10_findNames_108 (lv_at hl 0 rfl) ?_
      refine lv_lload hx hb dX10_findNames_110 (lv_at hl 6 rfl) ?_
      refine W.lcmp hx hb dX10_findNames_112 ?_
      refine lv_if_ge (tgt := 121) hx hb dX10_findNames_113 (by decide) (fun z => ?_) (fun z => ?_)
      · have hf := it_pos z hf
        refine lv_lload hx hb dX10_findNames_121 (lv_at hl 6 rfl) ?_
        exact wL123 k35 hk35 b1 b2 b3 b4 b7 b9 b11 b12 b13 q0 b5 u H locs ls hw (lv_sub hl [1, 2, 3, 4, 5, 7, 8, 9, 10, 11, 0] rfl) hf
      · have hf := it_neg z hf
        exact wL116 k35 hk35 b1 b2 b3 b4 b7 b9 b11 b12 b13 q0 u H locs ls hw (lv_sub hl [1, 2, 3, 4, 5, 7, 8, 9, 10, 11, 0] rfl) hf
  have wL84 : ∀ (k35 : Int32 → Int32 → Int32 → Int32 → Int64 → Int64 → Int64 → Int32 → Int32 → SS → Option SS) (hk35 : ∀ (b1 : Int32) (b2 : Int32) (b3 : Int32) (b4 : Int32) (b5 : Int64) (b7 : Int64) (b9 : Int64) (b11 : Int32) (b12 : Int32) (u : SS) (H : Heap) (locs : List Loc) (ls : Array Slot), VW wdM ev s u H locs → lv_has ls 17 [(0, .ref (ev.2.1 0)), (1, .int b1), (2, .int b2), (3, .int b3), (4, .int b4), (5, .long b5), (7, .long b7), (9, .long b9), (11, .int b11), (12, .int b12)] → k35 b1 b2 b3 b4 b5 b7 b9 b11 b12 u = some u' → W p l e (rmk 4) s m av below meth cd H locs 0 0 (ZV wdM ev s below av u') (F0 m 35 ls [])) (b1 : Int32) (b2 : Int32) (b3 : Int32) (b4 : Int32) (b5 : Int64) (b7 : Int64) (b9 : Int64) (b11 : Int32) (b12 : Int32) (b13 : Int32) (q0 : Int32) (q1 : Int32) (u : SS) (H : Heap) (locs : List Loc) (ls : Array Slot), VW wdM ev s u H locs → lv_has ls 17 [(0, .ref (ev.2.1 0)), (1, .int b1), (2, .int b2), (3, .int b3), (4, .int b4), (5, .long b5), (7, .long b7), (9, .long b9), (11, .int b11), (12, .int b12), (13, .int b13)] → f_X10_findNames_L84 k35 b1 b2 b3 b4 b5 b7 b9 b11 b12 b13 q0 q1 u = some u' → W p l e (rmk 4) s m av below meth cd H locs 0 0 (ZV wdM ev s below av u') (F0 m 84 ls [.int q0, .int q1]) := by
    intro k35 hk35 b1 b2 b3 b4 b5 b7 b9 b11 b12 b13 q0 q1 u H locs ls hw hl hf
    unfold f_X10_findNames_L84 at hf
    refine lv_isub hx hb dX10_findNames_84 ?_
    refine lv_i2l (v := (q1 - q0).toInt64) hx hb dX10_findNames_85 rfl ?_
    obtain ⟨x34, ex34, hf⟩ := lt_some hf
    refine topel ex34 ?_
    refine lv_lstore (lv' := [(14, .long x34), (0, .ref (ev.2.1 0)), (1, .int b1), (2, .int b2), (3, .int b3), (4, .int b4), (5, .long b5), (7, .long b7), (9, .long b9), (11, .int b11), (12, .int b12), (13, .int b13)]) hx hb dX10_findNames_86 hl (by decide) rfl (fun ls hl => ?_)
    refine lv_lload hx hb dX10_findNames_88 (lv_at hl 0 rfl) ?_
    refine lv_lconst (v := (1 : Int64)) hx hb dX10_findNames_90 (by decide) ?_
    refine W.lcmp hx hb dX10_findNames_91 ?_
    refine lv_if_ge (tgt := 99) hx hb dX10_findNames_92 (by decide) (fun z => ?_) (fun z => ?_)
    · have hf := it_pos z hf
      refine lv_lload hx hb dX10_findNames_99 (lv_at hl 0 rfl) ?_
      exact wL101 k35 hk35 b1 b2 b3 b4 b5 b7 b9 b11 b12 b13 x34 u H locs ls hw (lv_sub hl [1, 2, 3, 4, 5, 6, 7, 8, 9, 10, 11] rfl) hf
    · have hf := it_neg z hf
      refine lv_lconst (v := (1 : Int64)) hx hb dX10_findNames_95 (by decide) ?_
      refine lv_goto (tgt := 101) hx hb dX10_findNames_96 (by decide) ?_
      exact wL101 k35 hk35 b1 b2 b3 b4 b5 b7 b9 b11 b12 b13 (1 : Int64) u H locs ls hw (lv_sub hl [1, 2, 3, 4, 5, 6, 7, 8, 9, 10, 11] rfl) hf
  have wL35 : ∀ (n : Nat) (b1 : Int32) (b2 : Int32) (b3 : Int32) (b4 : Int32) (b5 : Int64) (b7 : Int64) (b9 : Int64) (b11 : Int32) (b12 : Int32) (u : SS) (H : Heap) (locs : List Loc) (ls : Array Slot), VW wdM ev s u H locs → lv_has ls 17 [(0, .ref (ev.2.1 0)), (1, .int b1), (2, .int b2), (3, .int b3), (4, .int b4), (5, .long b5), (7, .long b7), (9, .long b9), (11, .int b11), (12, .int b12)] → f_X10_findNames_L35 n b1 b2 b3 b4 b5 b7 b9 b11 b12 u = some u' → W p l e (rmk 4) s m av below meth cd H locs 0 0 (ZV wdM ev s below av u') (F0 m 35 ls []) := by
    intro n
    induction n with
    | zero =>
      intro b1 b2 b3 b4 b5 b7 b9 b11 b12 u H locs ls hw hl hf
      cases hf
    | succ n hk35 =>
      intro b1 b2 b3 b4 b5 b7 b9 b11 b12 u H locs ls hw hl hf
      have hf : b_X10_findNames_L35 (f_X10_findNames_L35 n) b1 b2 b3 b4 b5 b7 b9 b11 b12 u = some u' := hf
      unfold b_X10_findNames_L35 at hf
      refine lv_iload hx hb dX10_findNames_35 (lv_at hl 9 rfl) ?_
      refine lv_bipush (v := (8 : Int32)) hx hb dX10_findNames_37 (by decide) ?_
      refine lv_icmp_ge (tgt := 215) hx hb dX10_findNames_39 (by decide) (fun z => ?_) (fun z => ?_)
      · have hf := it_pos z hf
        refine lv_aload_n hx hb dX10_findNames_215 rfl (lv_at hl 0 rfl) ?_
        refine lv_iload_n hx hb dX10_findNames_216 rfl (lv_at hl 1 rfl) ?_
        obtain ⟨r6, u5, h4, hf⟩ := ob_some hf
        refine endI okM hw (runV_ok (As := [.int b1]) (rest := []) okM hc hw (c_X10_priceOf l ev b1 u h4 H.size) kv_X10_priceOf ml_X10_191 (rvM0 ev u) hl.1 rfl rfl (Nat.le_of_ble_eq_true rfl) (rm_le (by decide) (by decide)) dX10_findNames_217) (fun H locs hw => ?_)
        refine lv_iload_n hx hb dX10_findNames_220 rfl (lv_at hl 2 rfl) ?_
        refine lv_isub hx hb dX10_findNames_221 ?_
        refine lv_i2l (v := (r6 - b2).toInt64) hx hb dX10_findNames_222 rfl ?_
        obtain ⟨x7, ex7, hf⟩ := lt_some hf
        refine topel ex7 ?_
        refine lv_lstore (lv' := [(12, .long x7), (0, .ref (ev.2.1 0)), (1, .int b1), (2, .int b2), (3, .int b3), (4, .int b4), (5, .long b5), (7, .long b7), (9, .long b9), (11, .int b11)]) hx hb dX10_findNames_223 hl (by decide) rfl (fun ls hl => ?_)
        refine lv_aload_n hx hb dX10_findNames_225 rfl (lv_at hl 1 rfl) ?_
        refine gM0_22 hc hw fl_X10_60 dX10_findNames_226 ?_
        refine lv_iconst (v := (0 : Int32)) hx hb dX10_findNames_229 (by decide) ?_
        refine lv_lload hx hb dX10_findNames_230 (lv_at hl 0 rfl) ?_
        refine lv_lconst (v := (1 : Int64)) hx hb dX10_findNames_232 (by decide) ?_
        refine W.lcmp hx hb dX10_findNames_233 ?_
        refine lv_if_ge (tgt := 241) hx hb dX10_findNames_234 (by decide) (fun z => ?_) (fun z => ?_)
        · have hf := it_pos z hf
          refine lv_lload hx hb dX10_findNames_241 (lv_at hl 0 rfl) ?_
          exact wL243 b1 b3 b5 b7 b9 b11 x7 (0 : Int32) u5 H locs ls hw (lv_sub hl [1, 2, 4, 6, 7, 8, 9] rfl) hf
        · have hf := it_neg z hf
          refine lv_lconst (v := (1 : Int64)) hx hb dX10_findNames_237 (by decide) ?_
          refine lv_goto (tgt := 243) hx hb dX10_findNames_238 (by decide) ?_
          exact wL243 b1 b3 b5 b7 b9 b11 (1 : Int64) (0 : Int32) u5 H locs ls hw (lv_sub hl [1, 2, 4, 6, 7, 8, 9] rfl) hf
      · have hf := it_neg z hf
        refine lv_bipush (v := (8 : Int32)) hx hb dX10_findNames_42 (by decide) ?_
        refine lv_iload hx hb dX10_findNames_44 (lv_at hl 4 rfl) ?_
        refine lv_imul hx hb dX10_findNames_46 ?_
        refine lv_iload hx hb dX10_findNames_47 (lv_at hl 9 rfl) ?_
        refine lv_iadd hx hb dX10_findNames_49 ?_
        obtain ⟨x26, ex26, hf⟩ := lt_some hf
        refine tope ex26 ?_
        refine lv_istore (lv' := [(13, .int x26), (0, .ref (ev.2.1 0)), (1, .int b1), (2, .int b2), (3, .int b3), (4, .int b4), (5, .long b5), (7, .long b7), (9, .long b9), (11, .int b11), (12, .int b12)]) hx hb dX10_findNames_50 hl (by decide) rfl (fun ls hl => ?_)
        refine lv_aload_n hx hb dX10_findNames_52 rfl (lv_at hl 1 rfl) ?_
        refine lv_iload hx hb dX10_findNames_53 (lv_at hl 0 rfl) ?_
        obtain ⟨r29, u28, h27, hf⟩ := ob_some hf
        refine endI okM hw (runV_ok (As := [.int x26]) (rest := []) okM hc hw (c_X10_doesStand l ev x26 u h27 H.size) kv_X10_doesStand ml_X10_197 (rvM0 ev u) hl.1 rfl rfl (Nat.le_of_ble_eq_true rfl) (rm_le (by decide) (by decide)) dX10_findNames_55) (fun H locs hw => ?_)
        refine lv_if_eq (tgt := 209) hx hb dX10_findNames_58 (by decide) (fun z => ?_) (fun z => ?_)
        · have hf := it_pos z hf
          exact wL209 (f_X10_findNames_L35 n) hk35 b1 b2 b3 b4 b5 b7 b9 b11 b12 u28 H locs ls hw (lv_sub hl [1, 2, 3, 4, 5, 6, 7, 8, 9, 10] rfl) hf
        · have hf := it_neg z hf
          refine lv_iload hx hb dX10_findNames_61 (lv_at hl 10 rfl) ?_
          refine lv_iload_n hx hb dX10_findNames_63 rfl (lv_at hl 4 rfl) ?_
          refine lv_icmp_eq (tgt := 209) hx hb dX10_findNames_64 (by decide) (fun z => ?_) (fun z => ?_)
          · have hf := it_pos z hf
            exact wL209 (f_X10_findNames_L35 n) hk35 b1 b2 b3 b4 b5 b7 b9 b11 b12 u28 H locs ls hw (lv_sub hl [1, 2, 3, 4, 5, 6, 7, 8, 9, 10] rfl) hf
          · have hf := it_neg z hf
            refine lv_aload_n hx hb dX10_findNames_67 rfl (lv_at hl 1 rfl) ?_
            refine lv_iload hx hb dX10_findNames_68 (lv_at hl 0 rfl) ?_
            obtain ⟨r33, u32, h31, hf⟩ := ob_some hf
            refine endI okM hw (runV_ok (As := [.int x26]) (rest := []) okM hc hw (c_X10_priceOf l ev x26 u28 h31 H.size) kv_X10_priceOf ml_X10_191 (rvM0 ev u28) hl.1 rfl rfl (Nat.le_of_ble_eq_true rfl) (rm_le (by decide) (by decide)) dX10_findNames_70) (fun H locs hw => ?_)
            refine lv_iload hx hb dX10_findNames_73 (lv_at hl 0 rfl) ?_
            refine lv_iload_n hx hb dX10_findNames_75 rfl (lv_at hl 2 rfl) ?_
            refine lv_icmp_ne (tgt := 83) hx hb dX10_findNames_76 (by decide) (fun z => ?_) (fun z => ?_)
            · have hf := it_neg z hf
              refine lv_iconst (v := (0 : Int32)) hx hb dX10_findNames_83 (by decide) ?_
              exact wL84 (f_X10_findNames_L35 n) hk35 b1 b2 b3 b4 b5 b7 b9 b11 b12 x26 (0 : Int32) r33 u32 H locs ls hw (lv_sub hl [1, 2, 3, 4, 5, 6, 7, 8, 9, 10, 0] rfl) hf
            · have hf := it_pos z hf
              refine lv_iload_n hx hb dX10_findNames_79 rfl (lv_at hl 3 rfl) ?_
              refine lv_goto (tgt := 84) hx hb dX10_findNames_80 (by decide) ?_
              exact wL84 (f_X10_findNames_L35 n) hk35 b1 b2 b3 b4 b5 b7 b9 b11 b12 x26 b2 r33 u32 H locs ls hw (lv_sub hl [1, 2, 3, 4, 5, 6, 7, 8, 9, 10, 0] rfl) hf
  unfold f_X10_findNames at hf
  refine lv_iload_n hx hb dX10_findNames_0 rfl (lv_at hl 1 rfl) ?_
  refine lv_bipush (v := (8 : Int32)) hx hb dX10_findNames_1 (by decide) ?_
  refine lv_idiv hx hb dX10_findNames_3 (by decide) ?_
  obtain ⟨x1, ex1, hf⟩ := lt_some hf
  refine tope ex1 ?_
  refine lv_istore (lv' := [(4, .int x1), (0, .ref (ev.2.1 0)), (1, .int a1), (2, .int a2), (3, .int a3)]) hx hb dX10_findNames_4 hl (by decide) rfl (fun ls hl => ?_)
  refine lv_lconst (v := (0 : Int64)) hx hb dX10_findNames_6 (by decide) ?_
  refine lv_lstore (lv' := [(5, .long (0 : Int64)), (4, .int x1), (0, .ref (ev.2.1 0)), (1, .int a1), (2, .int a2), (3, .int a3)]) hx hb dX10_findNames_7 hl (by decide) rfl (fun ls hl => ?_)
  refine lv_lconst (v := (0 : Int64)) hx hb dX10_findNames_9 (by decide) ?_
  refine lv_lstore (lv' := [(7, .long (0 : Int64)), (5, .long (0 : Int64)), (4, .int x1), (0, .ref (ev.2.1 0)), (1, .int a1), (2, .int a2), (3, .int a3)]) hx hb dX10_findNames_10 hl (by decide) rfl (fun ls hl => ?_)
  refine lv_lconst (v := (0 : Int64)) hx hb dX10_findNames_12 (by decide) ?_
  refine lv_lstore (lv' := [(9, .long (0 : Int64)), (7, .long (0 : Int64)), (5, .long (0 : Int64)), (4, .int x1), (0, .ref (ev.2.1 0)), (1, .int a1), (2, .int a2), (3, .int a3)]) hx hb dX10_findNames_13 hl (by decide) rfl (fun ls hl => ?_)
  refine lv_iconst (v := (0 : Int32)) hx hb dX10_findNames_15 (by decide) ?_
  refine lv_istore (lv' := [(11, .int (0 : Int32)), (9, .long (0 : Int64)), (7, .long (0 : Int64)), (5, .long (0 : Int64)), (4, .int x1), (0, .ref (ev.2.1 0)), (1, .int a1), (2, .int a2), (3, .int a3)]) hx hb dX10_findNames_16 hl (by decide) rfl (fun ls hl => ?_)
  refine lv_aload_n hx hb dX10_findNames_18 rfl (lv_at hl 5 rfl) ?_
  refine gM0_22 hc hw fl_X10_60 dX10_findNames_19 ?_
  refine lv_iconst (v := (5 : Int32)) hx hb dX10_findNames_22 (by decide) ?_
  refine lv_lconst (v := (0 : Int64)) hx hb dX10_findNames_23 (by decide) ?_
  obtain ⟨z, hf⟩ := oi_some hf
  refine tM15 hc hw z dX10_findNames_24 (fun H locs hw => ?_)
  obtain ⟨u2, eu2, hf⟩ := lt_some hf
  have hw := VW.nm eu2 hw
  refine lv_aload_n hx hb dX10_findNames_25 rfl (lv_at hl 5 rfl) ?_
  refine gM0_23 hc hw fl_X10_64 dX10_findNames_26 ?_
  refine lv_iconst (v := (5 : Int32)) hx hb dX10_findNames_29 (by decide) ?_
  refine lv_lconst (v := (1 : Int64)) hx hb dX10_findNames_30 (by decide) ?_
  obtain ⟨z, hf⟩ := oi_some hf
  refine tM16 hc hw z dX10_findNames_31 (fun H locs hw => ?_)
  obtain ⟨u3, eu3, hf⟩ := lt_some hf
  have hw := VW.nm eu3 hw
  refine lv_iconst (v := (0 : Int32)) hx hb dX10_findNames_32 (by decide) ?_
  refine lv_istore (lv' := [(12, .int (0 : Int32)), (11, .int (0 : Int32)), (9, .long (0 : Int64)), (7, .long (0 : Int64)), (5, .long (0 : Int64)), (4, .int x1), (0, .ref (ev.2.1 0)), (1, .int a1), (2, .int a2), (3, .int a3)]) hx hb dX10_findNames_33 hl (by decide) rfl (fun ls hl => ?_)
  exact wL35 FU a1 a2 a3 x1 (0 : Int64) (0 : Int64) (0 : Int64) (0 : Int32) (0 : Int32) u3 H locs ls hw (lv_sub hl [6, 7, 8, 9, 5, 4, 3, 2, 1, 0] rfl) hf
def f_X10_byteAt_14 (a1 : Int32) (a2 : Int32) (u : SS) : Option (Int32 × SS) :=
  if a1 ≤ a2 then (some ((-1 : Int32), u)) else (oi a2 80 (some ((gA u 13 a2.toNatClampNeg), u)))
set_option maxHeartbeats 4000000 in
set_option maxRecDepth 100000 in
theorem c_X10_byteAt_14 (l : Launch) (ev : EV) (a1 : Int32) (a2 : Int32) (u : SS) {r : Int32} {u' : SS} (hf : f_X10_byteAt_14 a1 a2 u = some (r, u')) : MI wdM l yX10_byteAt cX10_byteAt 3 (some .int) 0 ev [.ref (ev.2.1 14), .int a1, .int a2] u r u' := by
  refine bodyI (by decide +kernel) rfl (Nat.le_of_ble_eq_true rfl) ?_
  intro p e s m below meth cd ls H locs hc hr hlk hw hl
  generalize hav : (List.toArray [.ref (ev.2.1 14), .int a1, .int a2] : Array Value) = av at hc ⊢
  obtain ⟨hx, hb, hml, hown, hts, hK, hZ⟩ := id hc
  have hl : lv_has ls 3 [(0, .ref (ev.2.1 14)), (1, .int a1), (2, .int a2)] := hl
  unfold f_X10_byteAt_14 at hf
  refine lv_iload_n hx hb dX10_byteAt_0 rfl (lv_at hl 2 rfl) ?_
  refine lv_iload_n hx hb dX10_byteAt_1 rfl (lv_at hl 1 rfl) ?_
  refine lv_icmp_ge (tgt := 11) hx hb dX10_byteAt_2 (by decide) (fun z => ?_) (fun z => ?_)
  · have hf := it_pos z hf
    refine lv_iconst (v := (-1 : Int32)) hx hb dX10_byteAt_11 (by decide) ?_
    exact retI hc hr hlk hw hf dX10_byteAt_12
  · have hf := it_neg z hf
    refine lv_aload_n hx hb dX10_byteAt_5 rfl (lv_at hl 0 rfl) ?_
    refine lv_iload_n hx hb dX10_byteAt_6 rfl (lv_at hl 2 rfl) ?_
    obtain ⟨z, hf⟩ := oi_some hf
    refine aM14 hc hw z dX10_byteAt_7 ?_
    refine lv_goto (tgt := 12) hx hb dX10_byteAt_8 (by decide) ?_
    exact retI hc hr hlk hw hf dX10_byteAt_12
def f_X10_readUnit_14_L22 (b2 : Int32) (b3 : Int32) (u : SS) : Option (Int32 × SS) :=
  lt (sI u 11 ((gI u 11) + (1 : Int32))) fun u4 => ob (f_X10_byteAt_14 b2 (gI u4 11) u4) fun r7 u6 => if r7 = (40 : Int32) then (ov (f_X10_open b3 u6) fun u10 => some ((1 : Int32), u10)) else (lt (sI u6 12 (1 : Int32)) fun u8 => some ((1 : Int32), u8))
def f_X10_readUnit_14_L197 (b4 : Int64) (u : SS) : Option (Int32 × SS) :=
  ov (f_X10_push b4 (1 : Int64) u) fun u18 => some ((0 : Int32), u18)
def b_X10_readUnit_14_L136 (k136 : Int32 → Int64 → Int32 → SS → Option (Int32 × SS)) (b2 : Int32) (b4 : Int64) (b6 : Int32) (u : SS) : Option (Int32 × SS) :=
  if (6 : Int32) ≤ b6 then (f_X10_readUnit_14_L197 b4 u) else (ob (f_X10_byteAt_14 b2 (gI u 11) u) fun r21 u20 => ob (f_X10_isDigit r21 u20) fun r24 u23 => if r24 = 0 then (f_X10_readUnit_14_L197 b4 u23) else (ob (f_X10_byteAt_14 b2 (gI u23 11) u23) fun r27 u26 => lt ((((10 : Int64) * b4) + (r27.toInt64)) - (48 : Int64)) fun x28 => lt (sI u26 11 ((gI u26 11) + (1 : Int32))) fun u29 => lt (b6 + (1 : Int32)) fun x30 => k136 b2 x28 x30 u29))
def f_X10_readUnit_14_L136 : Nat → Int32 → Int64 → Int32 → SS → Option (Int32 × SS)
  | 0 => fun _ _ _ _ => none
  | n + 1 => b_X10_readUnit_14_L136 (f_X10_readUnit_14_L136 n)
def f_X10_readUnit_14 (a2 : Int32) (u : SS) : Option (Int32 × SS) :=
  ob (f_X10_byteAt_14 a2 (gI u 11) u) fun r3 u2 => if r3 = (60 : Int32) then (f_X10_readUnit_14_L22 a2 r3 u2) else (if r3 = (62 : Int32) then (f_X10_readUnit_14_L22 a2 r3 u2) else (if r3 = (40 : Int32) then (ov (f_X10_open (40 : Int32) u2) fun u42 => some ((1 : Int32), u42)) else (ob (f_X10_nameOf r3 u2) fun r13 u12 => if r13 < 0 then (ob (f_X10_isDigit r3 u12) fun r16 u15 => if r16 = 0 then (lt (sI u15 12 (1 : Int32)) fun u31 => some ((1 : Int32), u31)) else (f_X10_readUnit_14_L136 FU a2 (0 : Int64) (0 : Int32) u15)) else (ob (f_X10_nameOf r3 u12) fun r34 u33 => oi r34 7 (ob (f_X10_nameOf r3 u33) fun r37 u36 => oi r37 7 (ov (f_X10_push (gL u33 0 r34.toNatClampNeg) (gL u36 1 r37.toNatClampNeg) u36) fun u39 => lt (sI u39 11 ((gI u39 11) + (1 : Int32))) fun u40 => some ((0 : Int32), u40)))))))
set_option maxHeartbeats 4000000 in
set_option maxRecDepth 100000 in
theorem c_X10_readUnit_14 (l : Launch) (ev : EV) (a2 : Int32) (u : SS) {r : Int32} {u' : SS} (hf : f_X10_readUnit_14 a2 u = some (r, u')) : MI wdM l yX10_readUnit cX10_readUnit 7 (some .boolean) 2 ev [.ref (ev.2.1 0), .ref (ev.2.1 14), .int a2] u r u' := by
  refine bodyI (by decide +kernel) rfl (Nat.le_of_ble_eq_true rfl) ?_
  intro p e s m below meth cd ls H locs hc hr hlk hw hl
  generalize hav : (List.toArray [.ref (ev.2.1 0), .ref (ev.2.1 14), .int a2] : Array Value) = av at hc ⊢
  obtain ⟨hx, hb, hml, hown, hts, hK, hZ⟩ := id hc
  have hl : lv_has ls 7 [(0, .ref (ev.2.1 0)), (1, .ref (ev.2.1 14)), (2, .int a2)] := hl
  have wL22 : ∀ (b2 : Int32) (b3 : Int32) (u : SS) (H : Heap) (locs : List Loc) (ls : Array Slot), VW wdM ev s u H locs → lv_has ls 7 [(0, .ref (ev.2.1 0)), (1, .ref (ev.2.1 14)), (2, .int b2), (3, .int b3)] → f_X10_readUnit_14_L22 b2 b3 u = some (r, u') → W p l e (rmk 2) s m av below meth cd H locs 0 0 (ZI wdM ev s below av r u') (F0 m 22 ls []) := by
    intro b2 b3 u H locs ls hw hl hf
    unfold f_X10_readUnit_14_L22 at hf
    refine lv_aload_n hx hb dX10_readUnit_22 rfl (lv_at hl 0 rfl) ?_
    refine lv_dup hx hb dX10_readUnit_23 rfl ?_
    refine gM0_30 hc hw fl_X10_258 dX10_readUnit_24 ?_
    refine lv_iconst (v := (1 : Int32)) hx hb dX10_readUnit_27 (by decide) ?_
    refine lv_iadd hx hb dX10_readUnit_28 ?_
    refine pM0_30 hc hw fl_X10_258 dX10_readUnit_29 (fun H locs hw => ?_)
    obtain ⟨u4, eu4, hf⟩ := lt_some hf
    have hw := VW.nm eu4 hw
    refine lv_aload_n hx hb dX10_readUnit_32 rfl (lv_at hl 1 rfl) ?_
    refine lv_iload_n hx hb dX10_readUnit_33 rfl (lv_at hl 2 rfl) ?_
    refine lv_aload_n hx hb dX10_readUnit_34 rfl (lv_at hl 0 rfl) ?_
    refine gM0_30 hc hw fl_X10_258 dX10_readUnit_35 ?_
    obtain ⟨r7, u6, h5, hf⟩ := ob_some hf
    refine endI okM hw (runS_ok (As := [.ref (ev.2.1 14), .int b2, .int (gI u4 11)]) (rest := []) okM hc hw (c_X10_byteAt_14 l ev b2 (gI u4 11) u4 h5 H.size) ks_X10_byteAt ml_X10_261 hl.1 rfl rfl (Nat.le_of_ble_eq_true rfl) (rm_le (by decide) (by decide)) dX10_readUnit_38) (fun H locs hw => ?_)
    refine lv_bipush (v := (40 : Int32)) hx hb dX10_readUnit_41 (by decide) ?_
    refine lv_icmp_ne (tgt := 54) hx hb dX10_readUnit_43 (by decide) (fun z => ?_) (fun z => ?_)
    · have hf := it_neg z hf
      refine lv_aload_n hx hb dX10_readUnit_54 rfl (lv_at hl 0 rfl) ?_
      refine lv_iconst (v := (1 : Int32)) hx hb dX10_readUnit_55 (by decide) ?_
      refine pM0_31 hc hw fl_X10_255 nz1 fz1 dX10_readUnit_56 (fun H locs hw => ?_)
      obtain ⟨u8, eu8, hf⟩ := lt_some hf
      have hw := VW.nm eu8 hw
      refine lv_iconst (v := (1 : Int32)) hx hb dX10_readUnit_59 (by decide) ?_
      exact retZ hc hr hlk hw nz1 hf dX10_readUnit_60
    · have hf := it_pos z hf
      refine lv_aload_n hx hb dX10_readUnit_46 rfl (lv_at hl 0 rfl) ?_
      refine lv_iload_n hx hb dX10_readUnit_47 rfl (lv_at hl 3 rfl) ?_
      obtain ⟨u10, h9, hf⟩ := ov_some hf
      refine endV okM hw (runV_ok (As := [.int b3]) (rest := []) okM hc hw (c_X10_open l ev b3 u6 h9 H.size) kv_X10_open ml_X10_265 (rvM0 ev u6) hl.1 rfl rfl (Nat.le_of_ble_eq_true rfl) (rm_le (by decide) (by decide)) dX10_readUnit_48) (fun H locs hw => ?_)
      refine lv_goto (tgt := 59) hx hb dX10_readUnit_51 (by decide) ?_
      refine lv_iconst (v := (1 : Int32)) hx hb dX10_readUnit_59 (by decide) ?_
      exact retZ hc hr hlk hw nz1 hf dX10_readUnit_60
  have wL197 : ∀ (b4 : Int64) (u : SS) (H : Heap) (locs : List Loc) (ls : Array Slot), VW wdM ev s u H locs → lv_has ls 7 [(0, .ref (ev.2.1 0)), (4, .long b4)] → f_X10_readUnit_14_L197 b4 u = some (r, u') → W p l e (rmk 2) s m av below meth cd H locs 0 0 (ZI wdM ev s below av r u') (F0 m 197 ls []) := by
    intro b4 u H locs ls hw hl hf
    unfold f_X10_readUnit_14_L197 at hf
    refine lv_aload_n hx hb dX10_readUnit_197 rfl (lv_at hl 0 rfl) ?_
    refine lv_lload hx hb dX10_readUnit_198 (lv_at hl 1 rfl) ?_
    refine lv_lconst (v := (1 : Int64)) hx hb dX10_readUnit_200 (by decide) ?_
    obtain ⟨u18, h17, hf⟩ := ov_some hf
    refine endV okM hw (runV_ok (As := [.long b4, .long (1 : Int64)]) (rest := []) okM hc hw (c_X10_push l ev b4 (1 : Int64) u h17 H.size) kv_X10_push ml_X10_271 (rvM0 ev u) hl.1 rfl rfl (Nat.le_of_ble_eq_true rfl) (rm_le (by decide) (by decide)) dX10_readUnit_201) (fun H locs hw => ?_)
    refine lv_iconst (v := (0 : Int32)) hx hb dX10_readUnit_204 (by decide) ?_
    exact retZ hc hr hlk hw nz0 hf dX10_readUnit_205
  have wL136 : ∀ (n : Nat) (b2 : Int32) (b4 : Int64) (b6 : Int32) (u : SS) (H : Heap) (locs : List Loc) (ls : Array Slot), VW wdM ev s u H locs → lv_has ls 7 [(0, .ref (ev.2.1 0)), (1, .ref (ev.2.1 14)), (2, .int b2), (4, .long b4), (6, .int b6)] → f_X10_readUnit_14_L136 n b2 b4 b6 u = some (r, u') → W p l e (rmk 2) s m av below meth cd H locs 0 0 (ZI wdM ev s below av r u') (F0 m 136 ls []) := by
    intro n
    induction n with
    | zero =>
      intro b2 b4 b6 u H locs ls hw hl hf
      cases hf
    | succ n hk136 =>
      intro b2 b4 b6 u H locs ls hw hl hf
      have hf : b_X10_readUnit_14_L136 (f_X10_readUnit_14_L136 n) b2 b4 b6 u = some (r, u') := hf
      unfold b_X10_readUnit_14_L136 at hf
      refine lv_iload hx hb dX10_readUnit_136 (lv_at hl 4 rfl) ?_
      refine lv_bipush (v := (6 : Int32)) hx hb dX10_readUnit_138 (by decide) ?_
      refine lv_icmp_ge (tgt := 197) hx hb dX10_readUnit_140 (by decide) (fun z => ?_) (fun z => ?_)
      · have hf := it_pos z hf
        exact wL197 b4 u H locs ls hw (lv_sub hl [0, 3] rfl) hf
      · have hf := it_neg z hf
        refine lv_aload_n hx hb dX10_readUnit_143 rfl (lv_at hl 1 rfl) ?_
        refine lv_iload_n hx hb dX10_readUnit_144 rfl (lv_at hl 2 rfl) ?_
        refine lv_aload_n hx hb dX10_readUnit_145 rfl (lv_at hl 0 rfl) ?_
        refine gM0_30 hc hw fl_X10_258 dX10_readUnit_146 ?_
        obtain ⟨r21, u20, h19, hf⟩ := ob_some hf
        refine endI okM hw (runS_ok (As := [.ref (ev.2.1 14), .int b2, .int (gI u 11)]) (rest := []) okM hc hw (c_X10_byteAt_14 l ev b2 (gI u 11) u h19 H.size) ks_X10_byteAt ml_X10_261 hl.1 rfl rfl (Nat.le_of_ble_eq_true rfl) (rm_le (by decide) (by decide)) dX10_readUnit_149) (fun H locs hw => ?_)
        obtain ⟨r24, u23, h22, hf⟩ := ob_some hf
        refine endI okM hw (runS_ok (As := [.int r21]) (rest := []) okM hc hw (c_X10_isDigit l ev r21 u20 h22 H.size) ks_X10_isDigit ml_X10_275 hl.1 rfl rfl (Nat.le_of_ble_eq_true rfl) (rm_le (by decide) (by decide)) dX10_readUnit_152) (fun H locs hw => ?_)
        refine lv_if_eq (tgt := 197) hx hb dX10_readUnit_155 (by decide) (fun z => ?_) (fun z => ?_)
        · have hf := it_pos z hf
          exact wL197 b4 u23 H locs ls hw (lv_sub hl [0, 3] rfl) hf
        · have hf := it_neg z hf
          refine lv_ldc2 (v := (10 : Int64)) hx hb hown (hts _ ct_X10_278) dX10_readUnit_158 ?_
          refine lv_lload hx hb dX10_readUnit_161 (lv_at hl 3 rfl) ?_
          refine lv_lmul hx hb dX10_readUnit_163 ?_
          refine lv_aload_n hx hb dX10_readUnit_164 rfl (lv_at hl 1 rfl) ?_
          refine lv_iload_n hx hb dX10_readUnit_165 rfl (lv_at hl 2 rfl) ?_
          refine lv_aload_n hx hb dX10_readUnit_166 rfl (lv_at hl 0 rfl) ?_
          refine gM0_30 hc hw fl_X10_258 dX10_readUnit_167 ?_
          obtain ⟨r27, u26, h25, hf⟩ := ob_some hf
          refine endI okM hw (runS_ok (As := [.ref (ev.2.1 14), .int b2, .int (gI u23 11)]) (rest := [.long ((10 : Int64) * b4)]) okM hc hw (c_X10_byteAt_14 l ev b2 (gI u23 11) u23 h25 H.size) ks_X10_byteAt ml_X10_261 hl.1 rfl rfl (Nat.le_of_ble_eq_true rfl) (rm_le (by decide) (by decide)) dX10_readUnit_170) (fun H locs hw => ?_)
          refine lv_i2l (v := r27.toInt64) hx hb dX10_readUnit_173 rfl ?_
          refine lv_ladd hx hb dX10_readUnit_174 ?_
          refine lv_ldc2 (v := (48 : Int64)) hx hb hown (hts _ ct_X10_280) dX10_readUnit_175 ?_
          refine lv_lsub hx hb dX10_readUnit_178 ?_
          obtain ⟨x28, ex28, hf⟩ := lt_some hf
          refine topel ex28 ?_
          refine lv_lstore (lv' := [(4, .long x28), (0, .ref (ev.2.1 0)), (1, .ref (ev.2.1 14)), (2, .int b2), (6, .int b6)]) hx hb dX10_readUnit_179 hl (by decide) rfl (fun ls hl => ?_)
          refine lv_aload_n hx hb dX10_readUnit_181 rfl (lv_at hl 1 rfl) ?_
          refine lv_dup hx hb dX10_readUnit_182 rfl ?_
          refine gM0_30 hc hw fl_X10_258 dX10_readUnit_183 ?_
          refine lv_iconst (v := (1 : Int32)) hx hb dX10_readUnit_186 (by decide) ?_
          refine lv_iadd hx hb dX10_readUnit_187 ?_
          refine pM0_30 hc hw fl_X10_258 dX10_readUnit_188 (fun H locs hw => ?_)
          obtain ⟨u29, eu29, hf⟩ := lt_some hf
          have hw := VW.nm eu29 hw
          obtain ⟨x30, ex30, hf⟩ := lt_some hf
          refine lv_iinc (v := x30) (lv' := [(6, .int x30), (4, .long x28), (0, .ref (ev.2.1 0)), (1, .ref (ev.2.1 14)), (2, .int b2)]) hx hb dX10_readUnit_191 hl (k := 4) rfl (by rw [ex30]; rfl) (by decide) rfl (fun ls hl => ?_)
          refine lv_goto (tgt := 136) hx hb dX10_readUnit_194 (by decide) ?_
          exact hk136 b2 x28 x30 u29 H locs ls hw (lv_sub hl [2, 3, 4, 1, 0] rfl) hf
  unfold f_X10_readUnit_14 at hf
  refine lv_aload_n hx hb dX10_readUnit_0 rfl (lv_at hl 1 rfl) ?_
  refine lv_iload_n hx hb dX10_readUnit_1 rfl (lv_at hl 2 rfl) ?_
  refine lv_aload_n hx hb dX10_readUnit_2 rfl (lv_at hl 0 rfl) ?_
  refine gM0_30 hc hw fl_X10_258 dX10_readUnit_3 ?_
  obtain ⟨r3, u2, h1, hf⟩ := ob_some hf
  refine endI okM hw (runS_ok (As := [.ref (ev.2.1 14), .int a2, .int (gI u 11)]) (rest := []) okM hc hw (c_X10_byteAt_14 l ev a2 (gI u 11) u h1 H.size) ks_X10_byteAt ml_X10_261 hl.1 rfl rfl (Nat.le_of_ble_eq_true rfl) (rm_le (by decide) (by decide)) dX10_readUnit_6) (fun H locs hw => ?_)
  refine lv_istore_n (lv' := [(3, .int r3), (0, .ref (ev.2.1 0)), (1, .ref (ev.2.1 14)), (2, .int a2)]) hx hb dX10_readUnit_9 rfl hl (by decide) rfl (fun ls hl => ?_)
  refine lv_iload_n hx hb dX10_readUnit_10 rfl (lv_at hl 0 rfl) ?_
  refine lv_bipush (v := (60 : Int32)) hx hb dX10_readUnit_11 (by decide) ?_
  refine lv_icmp_eq (tgt := 22) hx hb dX10_readUnit_13 (by decide) (fun z => ?_) (fun z => ?_)
  · have hf := it_pos z hf
    exact wL22 a2 r3 u2 H locs ls hw (lv_sub hl [1, 2, 3, 0] rfl) hf
  · have hf := it_neg z hf
    refine lv_iload_n hx hb dX10_readUnit_16 rfl (lv_at hl 0 rfl) ?_
    refine lv_bipush (v := (62 : Int32)) hx hb dX10_readUnit_17 (by decide) ?_
    refine lv_icmp_ne (tgt := 61) hx hb dX10_readUnit_19 (by decide) (fun z => ?_) (fun z => ?_)
    · have hf := it_neg z hf
      refine lv_iload_n hx hb dX10_readUnit_61 rfl (lv_at hl 0 rfl) ?_
      refine lv_bipush (v := (40 : Int32)) hx hb dX10_readUnit_62 (by decide) ?_
      refine lv_icmp_ne (tgt := 75) hx hb dX10_readUnit_64 (by decide) (fun z => ?_) (fun z => ?_)
      · have hf := it_neg z hf
        refine lv_iload_n hx hb dX10_readUnit_75 rfl (lv_at hl 0 rfl) ?_
        obtain ⟨r13, u12, h11, hf⟩ := ob_some hf
        refine endI okM hw (runS_ok (As := [.int r3]) (rest := []) okM hc hw (c_X10_nameOf l ev r3 u2 h11 H.size) ks_X10_nameOf ml_X10_268 hl.1 rfl rfl (Nat.le_of_ble_eq_true rfl) (rm_le (by decide) (by decide)) dX10_readUnit_76) (fun H locs hw => ?_)
        refine lv_if_lt (tgt := 116) hx hb dX10_readUnit_79 (by decide) (fun z => ?_) (fun z => ?_)
        · have hf := it_pos z hf
          refine lv_iload_n hx hb dX10_readUnit_116 rfl (lv_at hl 0 rfl) ?_
          obtain ⟨r16, u15, h14, hf⟩ := ob_some hf
          refine endI okM hw (runS_ok (As := [.int r3]) (rest := []) okM hc hw (c_X10_isDigit l ev r3 u12 h14 H.size) ks_X10_isDigit ml_X10_275 hl.1 rfl rfl (Nat.le_of_ble_eq_true rfl) (rm_le (by decide) (by decide)) dX10_readUnit_117) (fun H locs hw => ?_)
          refine lv_if_ne (tgt := 130) hx hb dX10_readUnit_120 (by decide) (fun z => ?_) (fun z => ?_)
          · have hf := it_neg z hf
            refine lv_lconst (v := (0 : Int64)) hx hb dX10_readUnit_130 (by decide) ?_
            refine lv_lstore (lv' := [(4, .long (0 : Int64)), (3, .int r3), (0, .ref (ev.2.1 0)), (1, .ref (ev.2.1 14)), (2, .int a2)]) hx hb dX10_readUnit_131 hl (by decide) rfl (fun ls hl => ?_)
            refine lv_iconst (v := (0 : Int32)) hx hb dX10_readUnit_133 (by decide) ?_
            refine lv_istore (lv' := [(6, .int (0 : Int32)), (4, .long (0 : Int64)), (3, .int r3), (0, .ref (ev.2.1 0)), (1, .ref (ev.2.1 14)), (2, .int a2)]) hx hb dX10_readUnit_134 hl (by decide) rfl (fun ls hl => ?_)
            exact wL136 FU a2 (0 : Int64) (0 : Int32) u15 H locs ls hw (lv_sub hl [3, 4, 5, 1, 0] rfl) hf
          · have hf := it_pos z hf
            refine lv_aload_n hx hb dX10_readUnit_123 rfl (lv_at hl 1 rfl) ?_
            refine lv_iconst (v := (1 : Int32)) hx hb dX10_readUnit_124 (by decide) ?_
            refine pM0_31 hc hw fl_X10_255 nz1 fz1 dX10_readUnit_125 (fun H locs hw => ?_)
            obtain ⟨u31, eu31, hf⟩ := lt_some hf
            have hw := VW.nm eu31 hw
            refine lv_iconst (v := (1 : Int32)) hx hb dX10_readUnit_128 (by decide) ?_
            exact retZ hc hr hlk hw nz1 hf dX10_readUnit_129
        · have hf := it_neg z hf
          refine lv_aload_n hx hb dX10_readUnit_82 rfl (lv_at hl 1 rfl) ?_
          refine lv_aload_n hx hb dX10_readUnit_83 rfl (lv_at hl 1 rfl) ?_
          refine gM0_22 hc hw fl_X10_60 dX10_readUnit_84 ?_
          refine lv_iload_n hx hb dX10_readUnit_87 rfl (lv_at hl 0 rfl) ?_
          obtain ⟨r34, u33, h32, hf⟩ := ob_some hf
          refine endI okM hw (runS_ok (As := [.int r3]) (rest := [.ref (ev.2.1 15), .ref (ev.2.1 0)]) okM hc hw (c_X10_nameOf l ev r3 u12 h32 H.size) ks_X10_nameOf ml_X10_268 hl.1 rfl rfl (Nat.le_of_ble_eq_true rfl) (rm_le (by decide) (by decide)) dX10_readUnit_88) (fun H locs hw => ?_)
          obtain ⟨z, hf⟩ := oi_some hf
          refine aM15 hc hw z dX10_readUnit_91 ?_
          refine lv_aload_n hx hb dX10_readUnit_92 rfl (lv_at hl 1 rfl) ?_
          refine gM0_23 hc hw fl_X10_64 dX10_readUnit_93 ?_
          refine lv_iload_n hx hb dX10_readUnit_96 rfl (lv_at hl 0 rfl) ?_
          obtain ⟨r37, u36, h35, hf⟩ := ob_some hf
          refine endI okM hw (runS_ok (As := [.int r3]) (rest := [.ref (ev.2.1 16), .long (gL u33 0 r34.toNatClampNeg), .ref (ev.2.1 0)]) okM hc hw (c_X10_nameOf l ev r3 u33 h35 H.size) ks_X10_nameOf ml_X10_268 hl.1 rfl rfl (Nat.le_of_ble_eq_true rfl) (rm_le (by decide) (by decide)) dX10_readUnit_97) (fun H locs hw => ?_)
          obtain ⟨z, hf⟩ := oi_some hf
          refine aM16 hc hw z dX10_readUnit_100 ?_
          obtain ⟨u39, h38, hf⟩ := ov_some hf
          refine endV okM hw (runV_ok (As := [.long (gL u33 0 r34.toNatClampNeg), .long (gL u36 1 r37.toNatClampNeg)]) (rest := []) okM hc hw (c_X10_push l ev (gL u33 0 r34.toNatClampNeg) (gL u36 1 r37.toNatClampNeg) u36 h38 H.size) kv_X10_push ml_X10_271 (rvM0 ev u36) hl.1 rfl rfl (Nat.le_of_ble_eq_true rfl) (rm_le (by decide) (by decide)) dX10_readUnit_101) (fun H locs hw => ?_)
          refine lv_aload_n hx hb dX10_readUnit_104 rfl (lv_at hl 1 rfl) ?_
          refine lv_dup hx hb dX10_readUnit_105 rfl ?_
          refine gM0_30 hc hw fl_X10_258 dX10_readUnit_106 ?_
          refine lv_iconst (v := (1 : Int32)) hx hb dX10_readUnit_109 (by decide) ?_
          refine lv_iadd hx hb dX10_readUnit_110 ?_
          refine pM0_30 hc hw fl_X10_258 dX10_readUnit_111 (fun H locs hw => ?_)
          obtain ⟨u40, eu40, hf⟩ := lt_some hf
          have hw := VW.nm eu40 hw
          refine lv_iconst (v := (0 : Int32)) hx hb dX10_readUnit_114 (by decide) ?_
          exact retZ hc hr hlk hw nz0 hf dX10_readUnit_115
      · have hf := it_pos z hf
        refine lv_aload_n hx hb dX10_readUnit_67 rfl (lv_at hl 1 rfl) ?_
        refine lv_bipush (v := (40 : Int32)) hx hb dX10_readUnit_68 (by decide) ?_
        obtain ⟨u42, h41, hf⟩ := ov_some hf
        refine endV okM hw (runV_ok (As := [.int (40 : Int32)]) (rest := []) okM hc hw (c_X10_open l ev (40 : Int32) u2 h41 H.size) kv_X10_open ml_X10_265 (rvM0 ev u2) hl.1 rfl rfl (Nat.le_of_ble_eq_true rfl) (rm_le (by decide) (by decide)) dX10_readUnit_70) (fun H locs hw => ?_)
        refine lv_iconst (v := (1 : Int32)) hx hb dX10_readUnit_73 (by decide) ?_
        exact retZ hc hr hlk hw nz1 hf dX10_readUnit_74
    · have hf := it_pos z hf
      exact wL22 a2 r3 u2 H locs ls hw (lv_sub hl [1, 2, 3, 0] rfl) hf
def f_X10_workText_14_L83 (u : SS) : Option SS :=
  if (gI u 12) = 0 then (ov (f_X10_settle (1 : Int32) u) fun u9 => if (gI u9 9) ≤ 0 then (lt (sI u9 12 (0 : Int32)) fun u10 => some u10) else (lt (sI u9 12 (1 : Int32)) fun u11 => some u11)) else (some u)
def f_X10_workText_14_L79 (k37 : Int32 → Int32 → SS → Option SS) (b2 : Int32) (q0 : Int32) (u : SS) : Option SS :=
  k37 b2 q0 u
def f_X10_workText_14_L56 (k37 : Int32 → Int32 → SS → Option SS) (b2 : Int32) (b3 : Int32) (u : SS) : Option SS :=
  if b3 = 0 then (oi (gI u 11) 80 (ob (f_X10_readSign (gA u 13 (gI u 11).toNatClampNeg) u) fun r14 u13 => f_X10_workText_14_L79 k37 b2 r14 u13)) else (ob (f_X10_readUnit_14 b2 u) fun r17 u16 => f_X10_workText_14_L79 k37 b2 r17 u16)
def b_X10_workText_14_L37 (k37 : Int32 → Int32 → SS → Option SS) (b2 : Int32) (b3 : Int32) (u : SS) : Option SS :=
  if (gI u 12) = 0 then (if b3 = 0 then (if b2 ≤ (gI u 11) then (f_X10_workText_14_L83 u) else (f_X10_workText_14_L56 k37 b2 b3 u)) else (f_X10_workText_14_L56 k37 b2 b3 u)) else (f_X10_workText_14_L83 u)
def f_X10_workText_14_L37 : Nat → Int32 → Int32 → SS → Option SS
  | 0 => fun _ _ _ => none
  | n + 1 => b_X10_workText_14_L37 (f_X10_workText_14_L37 n)
def f_X10_workText_14 (a2 : Int32) (u : SS) : Option SS :=
  lt (sI u 8 (0 : Int32)) fun u1 => lt (sI u1 9 (0 : Int32)) fun u2 => lt (sI u2 10 (0 : Int32)) fun u3 => lt (sI u3 11 (0 : Int32)) fun u4 => lt (sI u4 14 (0 : Int32)) fun u5 => lt (sI u5 12 (0 : Int32)) fun u6 => lt (sI u6 13 (0 : Int32)) fun u7 => f_X10_workText_14_L37 FU a2 (1 : Int32) u7
set_option maxHeartbeats 4000000 in
set_option maxRecDepth 100000 in
theorem c_X10_workText_14 (l : Launch) (ev : EV) (a2 : Int32) (u : SS) {u' : SS} (hf : f_X10_workText_14 a2 u = some u') : MV wdM l yX10_workText cX10_workText 4 none 4 ev [.ref (ev.2.1 0), .ref (ev.2.1 14), .int a2] u u' := by
  refine bodyV (by decide +kernel) rfl (Nat.le_of_ble_eq_true rfl) ?_
  intro p e s m below meth cd ls H locs hc hr hlk hw hl
  generalize hav : (List.toArray [.ref (ev.2.1 0), .ref (ev.2.1 14), .int a2] : Array Value) = av at hc ⊢
  obtain ⟨hx, hb, hml, hown, hts, hK, hZ⟩ := id hc
  have hl : lv_has ls 4 [(0, .ref (ev.2.1 0)), (1, .ref (ev.2.1 14)), (2, .int a2)] := hl
  have wL83 : ∀ (u : SS) (H : Heap) (locs : List Loc) (ls : Array Slot), VW wdM ev s u H locs → lv_has ls 4 [(0, .ref (ev.2.1 0))] → f_X10_workText_14_L83  u = some u' → W p l e (rmk 4) s m av below meth cd H locs 0 0 (ZV wdM ev s below av u') (F0 m 83 ls []) := by
    intro  u H locs ls hw hl hf
    unfold f_X10_workText_14_L83 at hf
    refine lv_aload_n hx hb dX10_workText_83 rfl (lv_at hl 0 rfl) ?_
    refine gM0_31 hc hw fl_X10_255 dX10_workText_84 ?_
    refine lv_if_ne (tgt := 111) hx hb dX10_workText_87 (by decide) (fun z => ?_) (fun z => ?_)
    · have hf := it_neg z hf
      exact retV hc hr hlk hw hf dX10_workText_111
    · have hf := it_pos z hf
      refine lv_aload_n hx hb dX10_workText_90 rfl (lv_at hl 0 rfl) ?_
      refine lv_iconst (v := (1 : Int32)) hx hb dX10_workText_91 (by decide) ?_
      obtain ⟨u9, h8, hf⟩ := ov_some hf
      refine endV okM hw (runV_ok (As := [.int (1 : Int32)]) (rest := []) okM hc hw (c_X10_settle l ev (1 : Int32) u h8 H.size) kv_X10_settle ml_X10_282 (rvM0 ev u) hl.1 rfl rfl (Nat.le_of_ble_eq_true rfl) (rm_le (by decide) (by decide)) dX10_workText_92) (fun H locs hw => ?_)
      refine lv_aload_n hx hb dX10_workText_95 rfl (lv_at hl 0 rfl) ?_
      refine lv_aload_n hx hb dX10_workText_96 rfl (lv_at hl 0 rfl) ?_
      refine gM0_28 hc hw fl_X10_238 dX10_workText_97 ?_
      refine lv_if_le (tgt := 107) hx hb dX10_workText_100 (by decide) (fun z => ?_) (fun z => ?_)
      · have hf := it_pos z hf
        refine lv_iconst (v := (0 : Int32)) hx hb dX10_workText_107 (by decide) ?_
        refine pM0_31 hc hw fl_X10_255 nz0 fz0 dX10_workText_108 (fun H locs hw => ?_)
        obtain ⟨u10, eu10, hf⟩ := lt_some hf
        have hw := VW.nm eu10 hw
        exact retV hc hr hlk hw hf dX10_workText_111
      · have hf := it_neg z hf
        refine lv_iconst (v := (1 : Int32)) hx hb dX10_workText_103 (by decide) ?_
        refine lv_goto (tgt := 108) hx hb dX10_workText_104 (by decide) ?_
        refine pM0_31 hc hw fl_X10_255 nz1 fz1 dX10_workText_108 (fun H locs hw => ?_)
        obtain ⟨u11, eu11, hf⟩ := lt_some hf
        have hw := VW.nm eu11 hw
        exact retV hc hr hlk hw hf dX10_workText_111
  have wL79 : ∀ (k37 : Int32 → Int32 → SS → Option SS) (hk37 : ∀ (b2 : Int32) (b3 : Int32) (u : SS) (H : Heap) (locs : List Loc) (ls : Array Slot), VW wdM ev s u H locs → lv_has ls 4 [(0, .ref (ev.2.1 0)), (1, .ref (ev.2.1 14)), (2, .int b2), (3, .int b3)] → k37 b2 b3 u = some u' → W p l e (rmk 4) s m av below meth cd H locs 0 0 (ZV wdM ev s below av u') (F0 m 37 ls [])) (b2 : Int32) (q0 : Int32) (u : SS) (H : Heap) (locs : List Loc) (ls : Array Slot), VW wdM ev s u H locs → lv_has ls 4 [(0, .ref (ev.2.1 0)), (1, .ref (ev.2.1 14)), (2, .int b2)] → f_X10_workText_14_L79 k37 b2 q0 u = some u' → W p l e (rmk 4) s m av below meth cd H locs 0 0 (ZV wdM ev s below av u') (F0 m 79 ls [.int q0]) := by
    intro k37 hk37 b2 q0 u H locs ls hw hl hf
    unfold f_X10_workText_14_L79 at hf
    refine lv_istore_n (lv' := [(3, .int q0), (0, .ref (ev.2.1 0)), (1, .ref (ev.2.1 14)), (2, .int b2)]) hx hb dX10_workText_79 rfl hl (by decide) rfl (fun ls hl => ?_)
    refine lv_goto (tgt := 37) hx hb dX10_workText_80 (by decide) ?_
    exact hk37 b2 q0 u H locs ls hw (lv_sub hl [1, 2, 3, 0] rfl) hf
  have wL56 : ∀ (k37 : Int32 → Int32 → SS → Option SS) (hk37 : ∀ (b2 : Int32) (b3 : Int32) (u : SS) (H : Heap) (locs : List Loc) (ls : Array Slot), VW wdM ev s u H locs → lv_has ls 4 [(0, .ref (ev.2.1 0)), (1, .ref (ev.2.1 14)), (2, .int b2), (3, .int b3)] → k37 b2 b3 u = some u' → W p l e (rmk 4) s m av below meth cd H locs 0 0 (ZV wdM ev s below av u') (F0 m 37 ls [])) (b2 : Int32) (b3 : Int32) (u : SS) (H : Heap) (locs : List Loc) (ls : Array Slot), VW wdM ev s u H locs → lv_has ls 4 [(0, .ref (ev.2.1 0)), (1, .ref (ev.2.1 14)), (2, .int b2), (3, .int b3)] → f_X10_workText_14_L56 k37 b2 b3 u = some u' → W p l e (rmk 4) s m av below meth cd H locs 0 0 (ZV wdM ev s below av u') (F0 m 56 ls []) := by
    intro k37 hk37 b2 b3 u H locs ls hw hl hf
    unfold f_X10_workText_14_L56 at hf
    refine lv_iload_n hx hb dX10_workText_56 rfl (lv_at hl 3 rfl) ?_
    refine lv_if_eq (tgt := 69) hx hb dX10_workText_57 (by decide) (fun z => ?_) (fun z => ?_)
    · have hf := it_pos z hf
      refine lv_aload_n hx hb dX10_workText_69 rfl (lv_at hl 0 rfl) ?_
      refine lv_aload_n hx hb dX10_workText_70 rfl (lv_at hl 1 rfl) ?_
      refine lv_aload_n hx hb dX10_workText_71 rfl (lv_at hl 0 rfl) ?_
      refine gM0_30 hc hw fl_X10_258 dX10_workText_72 ?_
      obtain ⟨z, hf⟩ := oi_some hf
      refine aM14 hc hw z dX10_workText_75 ?_
      obtain ⟨r14, u13, h12, hf⟩ := ob_some hf
      refine endI okM hw (runV_ok (As := [.int (gA u 13 (gI u 11).toNatClampNeg)]) (rest := []) okM hc hw (c_X10_readSign l ev (gA u 13 (gI u 11).toNatClampNeg) u h12 H.size) kv_X10_readSign ml_X10_290 (rvM0 ev u) hl.1 rfl rfl (Nat.le_of_ble_eq_true rfl) (rm_le (by decide) (by decide)) dX10_workText_76) (fun H locs hw => ?_)
      exact wL79 k37 hk37 b2 r14 u13 H locs ls hw (lv_sub hl [0, 1, 2] rfl) hf
    · have hf := it_neg z hf
      refine lv_aload_n hx hb dX10_workText_60 rfl (lv_at hl 0 rfl) ?_
      refine lv_aload_n hx hb dX10_workText_61 rfl (lv_at hl 1 rfl) ?_
      refine lv_iload_n hx hb dX10_workText_62 rfl (lv_at hl 2 rfl) ?_
      obtain ⟨r17, u16, h15, hf⟩ := ob_some hf
      refine endI okM hw (runV_ok (As := [.ref (ev.2.1 14), .int b2]) (rest := []) okM hc hw (c_X10_readUnit_14 l ev b2 u h15 H.size) kv_X10_readUnit ml_X10_286 (rvM0 ev u) hl.1 rfl rfl (Nat.le_of_ble_eq_true rfl) (rm_le (by decide) (by decide)) dX10_workText_63) (fun H locs hw => ?_)
      refine lv_goto (tgt := 79) hx hb dX10_workText_66 (by decide) ?_
      exact wL79 k37 hk37 b2 r17 u16 H locs ls hw (lv_sub hl [0, 1, 2] rfl) hf
  have wL37 : ∀ (n : Nat) (b2 : Int32) (b3 : Int32) (u : SS) (H : Heap) (locs : List Loc) (ls : Array Slot), VW wdM ev s u H locs → lv_has ls 4 [(0, .ref (ev.2.1 0)), (1, .ref (ev.2.1 14)), (2, .int b2), (3, .int b3)] → f_X10_workText_14_L37 n b2 b3 u = some u' → W p l e (rmk 4) s m av below meth cd H locs 0 0 (ZV wdM ev s below av u') (F0 m 37 ls []) := by
    intro n
    induction n with
    | zero =>
      intro b2 b3 u H locs ls hw hl hf
      cases hf
    | succ n hk37 =>
      intro b2 b3 u H locs ls hw hl hf
      have hf : b_X10_workText_14_L37 (f_X10_workText_14_L37 n) b2 b3 u = some u' := hf
      unfold b_X10_workText_14_L37 at hf
      refine lv_aload_n hx hb dX10_workText_37 rfl (lv_at hl 0 rfl) ?_
      refine gM0_31 hc hw fl_X10_255 dX10_workText_38 ?_
      refine lv_if_ne (tgt := 83) hx hb dX10_workText_41 (by decide) (fun z => ?_) (fun z => ?_)
      · have hf := it_neg z hf
        exact wL83 u H locs ls hw (lv_sub hl [0] rfl) hf
      · have hf := it_pos z hf
        refine lv_iload_n hx hb dX10_workText_44 rfl (lv_at hl 3 rfl) ?_
        refine lv_if_ne (tgt := 56) hx hb dX10_workText_45 (by decide) (fun z => ?_) (fun z => ?_)
        · have hf := it_neg z hf
          exact wL56 (f_X10_workText_14_L37 n) hk37 b2 b3 u H locs ls hw (lv_sub hl [0, 1, 2, 3] rfl) hf
        · have hf := it_pos z hf
          refine lv_aload_n hx hb dX10_workText_48 rfl (lv_at hl 0 rfl) ?_
          refine gM0_30 hc hw fl_X10_258 dX10_workText_49 ?_
          refine lv_iload_n hx hb dX10_workText_52 rfl (lv_at hl 2 rfl) ?_
          refine lv_icmp_ge (tgt := 83) hx hb dX10_workText_53 (by decide) (fun z => ?_) (fun z => ?_)
          · have hf := it_pos z hf
            exact wL83 u H locs ls hw (lv_sub hl [0] rfl) hf
          · have hf := it_neg z hf
            exact wL56 (f_X10_workText_14_L37 n) hk37 b2 b3 u H locs ls hw (lv_sub hl [0, 1, 2, 3] rfl) hf
  unfold f_X10_workText_14 at hf
  refine lv_aload_n hx hb dX10_workText_0 rfl (lv_at hl 0 rfl) ?_
  refine lv_iconst (v := (0 : Int32)) hx hb dX10_workText_1 (by decide) ?_
  refine pM0_26 hc hw fl_X10_228 dX10_workText_2 (fun H locs hw => ?_)
  obtain ⟨u1, eu1, hf⟩ := lt_some hf
  have hw := VW.nm eu1 hw
  refine lv_aload_n hx hb dX10_workText_5 rfl (lv_at hl 0 rfl) ?_
  refine lv_iconst (v := (0 : Int32)) hx hb dX10_workText_6 (by decide) ?_
  refine pM0_28 hc hw fl_X10_238 dX10_workText_7 (fun H locs hw => ?_)
  obtain ⟨u2, eu2, hf⟩ := lt_some hf
  have hw := VW.nm eu2 hw
  refine lv_aload_n hx hb dX10_workText_10 rfl (lv_at hl 0 rfl) ?_
  refine lv_iconst (v := (0 : Int32)) hx hb dX10_workText_11 (by decide) ?_
  refine pM0_29 hc hw fl_X10_252 dX10_workText_12 (fun H locs hw => ?_)
  obtain ⟨u3, eu3, hf⟩ := lt_some hf
  have hw := VW.nm eu3 hw
  refine lv_aload_n hx hb dX10_workText_15 rfl (lv_at hl 0 rfl) ?_
  refine lv_iconst (v := (0 : Int32)) hx hb dX10_workText_16 (by decide) ?_
  refine pM0_30 hc hw fl_X10_258 dX10_workText_17 (fun H locs hw => ?_)
  obtain ⟨u4, eu4, hf⟩ := lt_some hf
  have hw := VW.nm eu4 hw
  refine lv_aload_n hx hb dX10_workText_20 rfl (lv_at hl 0 rfl) ?_
  refine lv_iconst (v := (0 : Int32)) hx hb dX10_workText_21 (by decide) ?_
  refine pM0_33 hc hw fl_X10_249 dX10_workText_22 (fun H locs hw => ?_)
  obtain ⟨u5, eu5, hf⟩ := lt_some hf
  have hw := VW.nm eu5 hw
  refine lv_aload_n hx hb dX10_workText_25 rfl (lv_at hl 0 rfl) ?_
  refine lv_iconst (v := (0 : Int32)) hx hb dX10_workText_26 (by decide) ?_
  refine pM0_31 hc hw fl_X10_255 nz0 fz0 dX10_workText_27 (fun H locs hw => ?_)
  obtain ⟨u6, eu6, hf⟩ := lt_some hf
  have hw := VW.nm eu6 hw
  refine lv_aload_n hx hb dX10_workText_30 rfl (lv_at hl 0 rfl) ?_
  refine lv_iconst (v := (0 : Int32)) hx hb dX10_workText_31 (by decide) ?_
  refine pM0_32 hc hw fl_X10_231 nz0 fz0 dX10_workText_32 (fun H locs hw => ?_)
  obtain ⟨u7, eu7, hf⟩ := lt_some hf
  have hw := VW.nm eu7 hw
  refine lv_iconst (v := (1 : Int32)) hx hb dX10_workText_35 (by decide) ?_
  refine lv_istore_n (lv' := [(3, .int (1 : Int32)), (0, .ref (ev.2.1 0)), (1, .ref (ev.2.1 14)), (2, .int a2)]) hx hb dX10_workText_36 rfl hl (by decide) rfl (fun ls hl => ?_)
  exact wL37 FU a2 (1 : Int32) u7 H locs ls hw (lv_sub hl [1, 2, 3, 0] rfl) hf
def f_X10_findPoints (a1 : Int32) (a2 : Int32) (a3 : Int32) (u : SS) : Option (Int32 × SS) :=
  ov (f_X10_findNames a1 a2 a3 u) fun u2 => ov (f_X10_workText_14 (gI u2 7) u2) fun u4 => oi (0 : Int32) 100 (lt (sJ u4 0 (gL u4 2 (0 : Int32).toNatClampNeg)) fun u5 => oi (0 : Int32) 100 (lt (sJ u5 1 (gL u5 3 (0 : Int32).toNatClampNeg)) fun u6 => if (gI u6 13) = 0 then (some ((1 : Int32), u6)) else (some ((0 : Int32), u6))))
set_option maxHeartbeats 4000000 in
set_option maxRecDepth 100000 in
theorem c_X10_findPoints (l : Launch) (ev : EV) (a1 : Int32) (a2 : Int32) (a3 : Int32) (u : SS) {r : Int32} {u' : SS} (hf : f_X10_findPoints a1 a2 a3 u = some (r, u')) : MI wdM l yX10_findPoints cX10_findPoints 4 (some .boolean) 5 ev [.ref (ev.2.1 0), .int a1, .int a2, .int a3] u r u' := by
  refine bodyI (by decide +kernel) rfl (Nat.le_of_ble_eq_true rfl) ?_
  intro p e s m below meth cd ls H locs hc hr hlk hw hl
  generalize hav : (List.toArray [.ref (ev.2.1 0), .int a1, .int a2, .int a3] : Array Value) = av at hc ⊢
  obtain ⟨hx, hb, hml, hown, hts, hK, hZ⟩ := id hc
  have hl : lv_has ls 4 [(0, .ref (ev.2.1 0)), (1, .int a1), (2, .int a2), (3, .int a3)] := hl
  unfold f_X10_findPoints at hf
  refine lv_aload_n hx hb dX10_findPoints_0 rfl (lv_at hl 0 rfl) ?_
  refine lv_iload_n hx hb dX10_findPoints_1 rfl (lv_at hl 1 rfl) ?_
  refine lv_iload_n hx hb dX10_findPoints_2 rfl (lv_at hl 2 rfl) ?_
  refine lv_iload_n hx hb dX10_findPoints_3 rfl (lv_at hl 3 rfl) ?_
  obtain ⟨u2, h1, hf⟩ := ov_some hf
  refine endV okM hw (runV_ok (As := [.int a1, .int a2, .int a3]) (rest := []) okM hc hw (c_X10_findNames l ev a1 a2 a3 u h1 H.size) kv_X10_findNames ml_X10_297 (rvM0 ev u) hl.1 rfl rfl (Nat.le_of_ble_eq_true rfl) (rm_le (by decide) (by decide)) dX10_findPoints_4) (fun H locs hw => ?_)
  refine lv_aload_n hx hb dX10_findPoints_7 rfl (lv_at hl 0 rfl) ?_
  refine lv_aload_n hx hb dX10_findPoints_8 rfl (lv_at hl 0 rfl) ?_
  refine gM0_20 hc hw fl_X10_57 dX10_findPoints_9 ?_
  refine lv_aload_n hx hb dX10_findPoints_12 rfl (lv_at hl 0 rfl) ?_
  refine gM0_21 hc hw fl_X10_139 dX10_findPoints_13 ?_
  obtain ⟨u4, h3, hf⟩ := ov_some hf
  refine endV okM hw (runV_ok (As := [.ref (ev.2.1 14), .int (gI u2 7)]) (rest := []) okM hc hw (c_X10_workText_14 l ev (gI u2 7) u2 h3 H.size) kv_X10_workText ml_X10_293 (rvM0 ev u2) hl.1 rfl rfl (Nat.le_of_ble_eq_true rfl) (rm_le (by decide) (by decide)) dX10_findPoints_16) (fun H locs hw => ?_)
  refine lv_aload_n hx hb dX10_findPoints_19 rfl (lv_at hl 0 rfl) ?_
  refine lv_aload_n hx hb dX10_findPoints_20 rfl (lv_at hl 0 rfl) ?_
  refine gM0_24 hc hw fl_X10_67 dX10_findPoints_21 ?_
  refine lv_iconst (v := (0 : Int32)) hx hb dX10_findPoints_24 (by decide) ?_
  obtain ⟨z, hf⟩ := oi_some hf
  refine aM17 hc hw z dX10_findPoints_25 ?_
  refine pM0_34 hc hw fl_X10_301 dX10_findPoints_26 (fun H locs hw => ?_)
  obtain ⟨u5, eu5, hf⟩ := lt_some hf
  have hw := VW.nm eu5 hw
  refine lv_aload_n hx hb dX10_findPoints_29 rfl (lv_at hl 0 rfl) ?_
  refine lv_aload_n hx hb dX10_findPoints_30 rfl (lv_at hl 0 rfl) ?_
  refine gM0_25 hc hw fl_X10_70 dX10_findPoints_31 ?_
  refine lv_iconst (v := (0 : Int32)) hx hb dX10_findPoints_34 (by decide) ?_
  obtain ⟨z, hf⟩ := oi_some hf
  refine aM18 hc hw z dX10_findPoints_35 ?_
  refine pM0_35 hc hw fl_X10_305 dX10_findPoints_36 (fun H locs hw => ?_)
  obtain ⟨u6, eu6, hf⟩ := lt_some hf
  have hw := VW.nm eu6 hw
  refine lv_aload_n hx hb dX10_findPoints_39 rfl (lv_at hl 0 rfl) ?_
  refine gM0_32 hc hw fl_X10_231 dX10_findPoints_40 ?_
  refine lv_if_ne (tgt := 50) hx hb dX10_findPoints_43 (by decide) (fun z => ?_) (fun z => ?_)
  · have hf := it_neg z hf
    refine lv_iconst (v := (0 : Int32)) hx hb dX10_findPoints_50 (by decide) ?_
    exact retZ hc hr hlk hw nz0 hf dX10_findPoints_51
  · have hf := it_pos z hf
    refine lv_iconst (v := (1 : Int32)) hx hb dX10_findPoints_46 (by decide) ?_
    refine lv_goto (tgt := 51) hx hb dX10_findPoints_47 (by decide) ?_
    exact retZ hc hr hlk hw nz1 hf dX10_findPoints_51
def f_X10_points_L15 (u : SS) : Option (Int64 × SS) :=
  ob (f_X10_refuseFar (-1 : Int32) u) fun r6 u5 => some (r6, u5)
def f_X10_points (a1 : Int32) (a2 : Int32) (a3 : Int32) (u : SS) : Option (Int64 × SS) :=
  ob (f_X10_isBidder a1 u) fun r3 u2 => if r3 = 0 then (f_X10_points_L15 u2) else (ob (f_X10_isLot a2 u2) fun r9 u8 => if r9 = 0 then (f_X10_points_L15 u8) else (ob (f_X10_in a3 (0 : Int32) (1 : Int32) u8) fun r12 u11 => if r12 = 0 then (ob (f_X10_refuseFar (-2 : Int32) u11) fun r27 u26 => some (r27, u26)) else (ob (f_X10_fails a1 a2 u11) fun r15 u14 => if 0 ≤ r15 then (ob (f_X10_findPoints (((8 : Int32) * a2) + a1) (0 : Int32) (-1 : Int32) u14) fun r18 u17 => if r18 = 0 then (ob (f_X10_refuseFar (-7 : Int32) u17) fun r21 u20 => some (r21, u20)) else (if a3 = 0 then (some ((gJ u17 0), u17)) else (some ((gJ u17 1), u17)))) else (ob (f_X10_refuseFar (-5 : Int32) u14) fun r24 u23 => some (r24, u23)))))
set_option maxHeartbeats 4000000 in
set_option maxRecDepth 100000 in
theorem c_X10_points (l : Launch) (ev : EV) (a1 : Int32) (a2 : Int32) (a3 : Int32) (u : SS) {r : Int64} {u' : SS} (hf : f_X10_points a1 a2 a3 u = some (r, u')) : ML wdM l yX10_points cX10_points 4 (some .long) 6 ev [.ref (ev.2.1 0), .int a1, .int a2, .int a3] u r u' := by
  refine bodyL (by decide +kernel) rfl (Nat.le_of_ble_eq_true rfl) ?_
  intro p e s m below meth cd ls H locs hc hr hlk hw hl
  generalize hav : (List.toArray [.ref (ev.2.1 0), .int a1, .int a2, .int a3] : Array Value) = av at hc ⊢
  obtain ⟨hx, hb, hml, hown, hts, hK, hZ⟩ := id hc
  have hl : lv_has ls 4 [(0, .ref (ev.2.1 0)), (1, .int a1), (2, .int a2), (3, .int a3)] := hl
  have wL15 : ∀ (u : SS) (H : Heap) (locs : List Loc) (ls : Array Slot), VW wdM ev s u H locs → lv_has ls 4 [(0, .ref (ev.2.1 0))] → f_X10_points_L15  u = some (r, u') → W p l e (rmk 6) s m av below meth cd H locs 0 0 (ZL wdM ev s below av r u') (F0 m 15 ls []) := by
    intro  u H locs ls hw hl hf
    unfold f_X10_points_L15 at hf
    refine lv_aload_n hx hb dX10_points_15 rfl (lv_at hl 0 rfl) ?_
    refine lv_iconst (v := (-1 : Int32)) hx hb dX10_points_16 (by decide) ?_
    obtain ⟨r6, u5, h4, hf⟩ := ob_some hf
    refine endL okM hw (runV_ok (As := [.int (-1 : Int32)]) (rest := []) okM hc hw (c_X10_refuseFar l ev (-1 : Int32) u h4 H.size) kv_X10_refuseFar ml_X10_308 (rvM0 ev u) hl.1 rfl rfl (Nat.le_of_ble_eq_true rfl) (rm_le (by decide) (by decide)) dX10_points_17) (fun H locs hw => ?_)
    exact retL hc hr hlk hw hf dX10_points_20
  unfold f_X10_points at hf
  refine lv_iload_n hx hb dX10_points_0 rfl (lv_at hl 1 rfl) ?_
  obtain ⟨r3, u2, h1, hf⟩ := ob_some hf
  refine endI okM hw (runS_ok (As := [.int a1]) (rest := []) okM hc hw (c_X10_isBidder l ev a1 u h1 H.size) ks_X10_isBidder ml_X10_166 hl.1 rfl rfl (Nat.le_of_ble_eq_true rfl) (rm_le (by decide) (by decide)) dX10_points_1) (fun H locs hw => ?_)
  refine lv_if_eq (tgt := 15) hx hb dX10_points_4 (by decide) (fun z => ?_) (fun z => ?_)
  · have hf := it_pos z hf
    exact wL15 u2 H locs ls hw (lv_sub hl [0] rfl) hf
  · have hf := it_neg z hf
    refine lv_aload_n hx hb dX10_points_7 rfl (lv_at hl 0 rfl) ?_
    refine lv_iload_n hx hb dX10_points_8 rfl (lv_at hl 2 rfl) ?_
    obtain ⟨r9, u8, h7, hf⟩ := ob_some hf
    refine endI okM hw (runV_ok (As := [.int a2]) (rest := []) okM hc hw (c_X10_isLot l ev a2 u2 h7 H.size) kv_X10_isLot ml_X10_170 (rvM0 ev u2) hl.1 rfl rfl (Nat.le_of_ble_eq_true rfl) (rm_le (by decide) (by decide)) dX10_points_9) (fun H locs hw => ?_)
    refine lv_if_ne (tgt := 21) hx hb dX10_points_12 (by decide) (fun z => ?_) (fun z => ?_)
    · have hf := it_neg z hf
      refine lv_iload_n hx hb dX10_points_21 rfl (lv_at hl 3 rfl) ?_
      refine lv_iconst (v := (0 : Int32)) hx hb dX10_points_22 (by decide) ?_
      refine lv_iconst (v := (1 : Int32)) hx hb dX10_points_23 (by decide) ?_
      obtain ⟨r12, u11, h10, hf⟩ := ob_some hf
      refine endI okM hw (runS_ok (As := [.int a3, .int (0 : Int32), .int (1 : Int32)]) (rest := []) okM hc hw (c_X10_in l ev a3 (0 : Int32) (1 : Int32) u8 h10 H.size) ks_X10_in ml_X10_144 hl.1 rfl rfl (Nat.le_of_ble_eq_true rfl) (rm_le (by decide) (by decide)) dX10_points_24) (fun H locs hw => ?_)
      refine lv_if_ne (tgt := 37) hx hb dX10_points_27 (by decide) (fun z => ?_) (fun z => ?_)
      · have hf := it_neg z hf
        refine lv_aload_n hx hb dX10_points_37 rfl (lv_at hl 0 rfl) ?_
        refine lv_iload_n hx hb dX10_points_38 rfl (lv_at hl 1 rfl) ?_
        refine lv_iload_n hx hb dX10_points_39 rfl (lv_at hl 2 rfl) ?_
        obtain ⟨r15, u14, h13, hf⟩ := ob_some hf
        refine endI okM hw (runV_ok (As := [.int a1, .int a2]) (rest := []) okM hc hw (c_X10_fails l ev a1 a2 u11 h13 H.size) kv_X10_fails ml_X10_203 (rvM0 ev u11) hl.1 rfl rfl (Nat.le_of_ble_eq_true rfl) (rm_le (by decide) (by decide)) dX10_points_40) (fun H locs hw => ?_)
        refine lv_if_ge (tgt := 53) hx hb dX10_points_43 (by decide) (fun z => ?_) (fun z => ?_)
        · have hf := it_pos z hf
          refine lv_aload_n hx hb dX10_points_53 rfl (lv_at hl 0 rfl) ?_
          refine lv_bipush (v := (8 : Int32)) hx hb dX10_points_54 (by decide) ?_
          refine lv_iload_n hx hb dX10_points_56 rfl (lv_at hl 2 rfl) ?_
          refine lv_imul hx hb dX10_points_57 ?_
          refine lv_iload_n hx hb dX10_points_58 rfl (lv_at hl 1 rfl) ?_
          refine lv_iadd hx hb dX10_points_59 ?_
          refine lv_iconst (v := (0 : Int32)) hx hb dX10_points_60 (by decide) ?_
          refine lv_iconst (v := (-1 : Int32)) hx hb dX10_points_61 (by decide) ?_
          obtain ⟨r18, u17, h16, hf⟩ := ob_some hf
          refine endI okM hw (runV_ok (As := [.int (((8 : Int32) * a2) + a1), .int (0 : Int32), .int (-1 : Int32)]) (rest := []) okM hc hw (c_X10_findPoints l ev (((8 : Int32) * a2) + a1) (0 : Int32) (-1 : Int32) u14 h16 H.size) kv_X10_findPoints ml_X10_312 (rvM0 ev u14) hl.1 rfl rfl (Nat.le_of_ble_eq_true rfl) (rm_le (by decide) (by decide)) dX10_points_62) (fun H locs hw => ?_)
          refine lv_if_ne (tgt := 75) hx hb dX10_points_65 (by decide) (fun z => ?_) (fun z => ?_)
          · have hf := it_neg z hf
            refine lv_iload_n hx hb dX10_points_75 rfl (lv_at hl 3 rfl) ?_
            refine lv_if_ne (tgt := 86) hx hb dX10_points_76 (by decide) (fun z => ?_) (fun z => ?_)
            · have hf := it_neg z hf
              refine lv_aload_n hx hb dX10_points_86 rfl (lv_at hl 0 rfl) ?_
              refine gM0_35 hc hw fl_X10_305 dX10_points_87 ?_
              exact retL hc hr hlk hw hf dX10_points_90
            · have hf := it_pos z hf
              refine lv_aload_n hx hb dX10_points_79 rfl (lv_at hl 0 rfl) ?_
              refine gM0_34 hc hw fl_X10_301 dX10_points_80 ?_
              refine lv_goto (tgt := 90) hx hb dX10_points_83 (by decide) ?_
              exact retL hc hr hlk hw hf dX10_points_90
          · have hf := it_pos z hf
            refine lv_aload_n hx hb dX10_points_68 rfl (lv_at hl 0 rfl) ?_
            refine lv_bipush (v := (-7 : Int32)) hx hb dX10_points_69 (by decide) ?_
            obtain ⟨r21, u20, h19, hf⟩ := ob_some hf
            refine endL okM hw (runV_ok (As := [.int (-7 : Int32)]) (rest := []) okM hc hw (c_X10_refuseFar l ev (-7 : Int32) u17 h19 H.size) kv_X10_refuseFar ml_X10_308 (rvM0 ev u17) hl.1 rfl rfl (Nat.le_of_ble_eq_true rfl) (rm_le (by decide) (by decide)) dX10_points_71) (fun H locs hw => ?_)
            exact retL hc hr hlk hw hf dX10_points_74
        · have hf := it_neg z hf
          refine lv_aload_n hx hb dX10_points_46 rfl (lv_at hl 0 rfl) ?_
          refine lv_bipush (v := (-5 : Int32)) hx hb dX10_points_47 (by decide) ?_
          obtain ⟨r24, u23, h22, hf⟩ := ob_some hf
          refine endL okM hw (runV_ok (As := [.int (-5 : Int32)]) (rest := []) okM hc hw (c_X10_refuseFar l ev (-5 : Int32) u14 h22 H.size) kv_X10_refuseFar ml_X10_308 (rvM0 ev u14) hl.1 rfl rfl (Nat.le_of_ble_eq_true rfl) (rm_le (by decide) (by decide)) dX10_points_49) (fun H locs hw => ?_)
          exact retL hc hr hlk hw hf dX10_points_52
      · have hf := it_pos z hf
        refine lv_aload_n hx hb dX10_points_30 rfl (lv_at hl 0 rfl) ?_
        refine lv_bipush (v := (-2 : Int32)) hx hb dX10_points_31 (by decide) ?_
        obtain ⟨r27, u26, h25, hf⟩ := ob_some hf
        refine endL okM hw (runV_ok (As := [.int (-2 : Int32)]) (rest := []) okM hc hw (c_X10_refuseFar l ev (-2 : Int32) u11 h25 H.size) kv_X10_refuseFar ml_X10_308 (rvM0 ev u11) hl.1 rfl rfl (Nat.le_of_ble_eq_true rfl) (rm_le (by decide) (by decide)) dX10_points_33) (fun H locs hw => ?_)
        exact retL hc hr hlk hw hf dX10_points_36
    · have hf := it_pos z hf
      exact wL15 u8 H locs ls hw (lv_sub hl [0] rfl) hf
def f_X10_isAhead (a1 : Int32) (a2 : Int32) (a3 : Int32) (u : SS) : Option (Int32 × SS) :=
  ob (f_X10_findPoints a1 (0 : Int32) a3 u) fun r3 u2 => lt (gJ u2 0) fun x4 => lt (gJ u2 1) fun x5 => ob (f_X10_findPoints a2 (0 : Int32) a3 u2) fun r8 u7 => lt (x4 * (gJ u7 1)) fun x9 => lt ((gJ u7 0) * x5) fun x10 => if (lg_cmp x9 x10) = 0 then (ov (f_X10_findQuality a1 a3 u7) fun u12 => lt (gI u12 4) fun x13 => lt (gI u12 5) fun x14 => ov (f_X10_findQuality a2 a3 u12) fun u16 => if (x13 * (gI u16 5)) = ((gI u16 4) * x14) then (ob (f_X10_priceOf a1 u16) fun r19 u18 => ob (f_X10_priceOf a2 u18) fun r22 u21 => if r19 = r22 then (if a2 ≤ a1 then (some ((0 : Int32), u21)) else (some ((1 : Int32), u21))) else (ob (f_X10_priceOf a1 u21) fun r25 u24 => ob (f_X10_priceOf a2 u24) fun r28 u27 => if r28 ≤ r25 then (some ((0 : Int32), u27)) else (some ((1 : Int32), u27)))) else (if (x13 * (gI u16 5)) ≤ ((gI u16 4) * x14) then (some ((0 : Int32), u16)) else (some ((1 : Int32), u16)))) else (if (lg_cmp x9 x10) ≤ 0 then (some ((0 : Int32), u7)) else (some ((1 : Int32), u7)))
set_option maxHeartbeats 4000000 in
set_option maxRecDepth 100000 in
theorem c_X10_isAhead (l : Launch) (ev : EV) (a1 : Int32) (a2 : Int32) (a3 : Int32) (u : SS) {r : Int32} {u' : SS} (hf : f_X10_isAhead a1 a2 a3 u = some (r, u')) : MI wdM l yX10_isAhead cX10_isAhead 16 (some .boolean) 6 ev [.ref (ev.2.1 0), .int a1, .int a2, .int a3] u r u' := by
  refine bodyI (by decide +kernel) rfl (Nat.le_of_ble_eq_true rfl) ?_
  intro p e s m below meth cd ls H locs hc hr hlk hw hl
  generalize hav : (List.toArray [.ref (ev.2.1 0), .int a1, .int a2, .int a3] : Array Value) = av at hc ⊢
  obtain ⟨hx, hb, hml, hown, hts, hK, hZ⟩ := id hc
  have hl : lv_has ls 16 [(0, .ref (ev.2.1 0)), (1, .int a1), (2, .int a2), (3, .int a3)] := hl
  unfold f_X10_isAhead at hf
  refine lv_aload_n hx hb dX10_isAhead_0 rfl (lv_at hl 0 rfl) ?_
  refine lv_iload_n hx hb dX10_isAhead_1 rfl (lv_at hl 1 rfl) ?_
  refine lv_iconst (v := (0 : Int32)) hx hb dX10_isAhead_2 (by decide) ?_
  refine lv_iload_n hx hb dX10_isAhead_3 rfl (lv_at hl 3 rfl) ?_
  obtain ⟨r3, u2, h1, hf⟩ := ob_some hf
  refine endI okM hw (runV_ok (As := [.int a1, .int (0 : Int32), .int a3]) (rest := []) okM hc hw (c_X10_findPoints l ev a1 (0 : Int32) a3 u h1 H.size) kv_X10_findPoints ml_X10_312 (rvM0 ev u) hl.1 rfl rfl (Nat.le_of_ble_eq_true rfl) (rm_le (by decide) (by decide)) dX10_isAhead_4) (fun H locs hw => ?_)
  refine lv_istore (lv' := [(4, .int r3), (0, .ref (ev.2.1 0)), (1, .int a1), (2, .int a2), (3, .int a3)]) hx hb dX10_isAhead_7 hl (by decide) rfl (fun ls hl => ?_)
  refine lv_aload_n hx hb dX10_isAhead_9 rfl (lv_at hl 1 rfl) ?_
  refine gM0_34 hc hw fl_X10_301 dX10_isAhead_10 ?_
  obtain ⟨x4, ex4, hf⟩ := lt_some hf
  refine topel ex4 ?_
  refine lv_lstore (lv' := [(5, .long x4), (4, .int r3), (0, .ref (ev.2.1 0)), (1, .int a1), (2, .int a2), (3, .int a3)]) hx hb dX10_isAhead_13 hl (by decide) rfl (fun ls hl => ?_)
  refine lv_aload_n hx hb dX10_isAhead_15 rfl (lv_at hl 2 rfl) ?_
  refine gM0_35 hc hw fl_X10_305 dX10_isAhead_16 ?_
  obtain ⟨x5, ex5, hf⟩ := lt_some hf
  refine topel ex5 ?_
  refine lv_lstore (lv' := [(7, .long x5), (5, .long x4), (4, .int r3), (0, .ref (ev.2.1 0)), (1, .int a1), (2, .int a2), (3, .int a3)]) hx hb dX10_isAhead_19 hl (by decide) rfl (fun ls hl => ?_)
  refine lv_aload_n hx hb dX10_isAhead_21 rfl (lv_at hl 3 rfl) ?_
  refine lv_iload_n hx hb dX10_isAhead_22 rfl (lv_at hl 5 rfl) ?_
  refine lv_iconst (v := (0 : Int32)) hx hb dX10_isAhead_23 (by decide) ?_
  refine lv_iload_n hx hb dX10_isAhead_24 rfl (lv_at hl 6 rfl) ?_
  obtain ⟨r8, u7, h6, hf⟩ := ob_some hf
  refine endI okM hw (runV_ok (As := [.int a2, .int (0 : Int32), .int a3]) (rest := []) okM hc hw (c_X10_findPoints l ev a2 (0 : Int32) a3 u2 h6 H.size) kv_X10_findPoints ml_X10_312 (rvM0 ev u2) hl.1 rfl rfl (Nat.le_of_ble_eq_true rfl) (rm_le (by decide) (by decide)) dX10_isAhead_25) (fun H locs hw => ?_)
  refine lv_istore (lv' := [(9, .int r8), (7, .long x5), (5, .long x4), (4, .int r3), (0, .ref (ev.2.1 0)), (1, .int a1), (2, .int a2), (3, .int a3)]) hx hb dX10_isAhead_28 hl (by decide) rfl (fun ls hl => ?_)
  refine lv_lload hx hb dX10_isAhead_30 (lv_at hl 2 rfl) ?_
  refine lv_aload_n hx hb dX10_isAhead_32 rfl (lv_at hl 4 rfl) ?_
  refine gM0_35 hc hw fl_X10_305 dX10_isAhead_33 ?_
  refine lv_lmul hx hb dX10_isAhead_36 ?_
  obtain ⟨x9, ex9, hf⟩ := lt_some hf
  refine topel ex9 ?_
  refine lv_lstore (lv' := [(10, .long x9), (9, .int r8), (7, .long x5), (5, .long x4), (4, .int r3), (0, .ref (ev.2.1 0)), (1, .int a1), (2, .int a2), (3, .int a3)]) hx hb dX10_isAhead_37 hl (by decide) rfl (fun ls hl => ?_)
  refine lv_aload_n hx hb dX10_isAhead_39 rfl (lv_at hl 5 rfl) ?_
  refine gM0_34 hc hw fl_X10_301 dX10_isAhead_40 ?_
  refine lv_lload hx hb dX10_isAhead_43 (lv_at hl 2 rfl) ?_
  refine lv_lmul hx hb dX10_isAhead_45 ?_
  obtain ⟨x10, ex10, hf⟩ := lt_some hf
  refine topel ex10 ?_
  refine lv_lstore (lv' := [(12, .long x10), (10, .long x9), (9, .int r8), (7, .long x5), (5, .long x4), (4, .int r3), (0, .ref (ev.2.1 0)), (1, .int a1), (2, .int a2), (3, .int a3)]) hx hb dX10_isAhead_46 hl (by decide) rfl (fun ls hl => ?_)
  refine lv_lload hx hb dX10_isAhead_48 (lv_at hl 1 rfl) ?_
  refine lv_lload hx hb dX10_isAhead_50 (lv_at hl 0 rfl) ?_
  refine W.lcmp hx hb dX10_isAhead_52 ?_
  refine lv_if_eq (tgt := 70) hx hb dX10_isAhead_53 (by decide) (fun z => ?_) (fun z => ?_)
  · have hf := it_pos z hf
    refine lv_aload_n hx hb dX10_isAhead_70 rfl (lv_at hl 6 rfl) ?_
    refine lv_iload_n hx hb dX10_isAhead_71 rfl (lv_at hl 7 rfl) ?_
    refine lv_iload_n hx hb dX10_isAhead_72 rfl (lv_at hl 9 rfl) ?_
    obtain ⟨u12, h11, hf⟩ := ov_some hf
    refine endV okM hw (runV_ok (As := [.int a1, .int a3]) (rest := []) okM hc hw (c_X10_findQuality l ev a1 a3 u7 h11 H.size) kv_X10_findQuality ml_X10_215 (rvM0 ev u7) hl.1 rfl rfl (Nat.le_of_ble_eq_true rfl) (rm_le (by decide) (by decide)) dX10_isAhead_73) (fun H locs hw => ?_)
    refine lv_aload_n hx hb dX10_isAhead_76 rfl (lv_at hl 6 rfl) ?_
    refine gM0_16 hc hw fl_X10_206 dX10_isAhead_77 ?_
    obtain ⟨x13, ex13, hf⟩ := lt_some hf
    refine tope ex13 ?_
    refine lv_istore (lv' := [(14, .int x13), (12, .long x10), (10, .long x9), (9, .int r8), (7, .long x5), (5, .long x4), (4, .int r3), (0, .ref (ev.2.1 0)), (1, .int a1), (2, .int a2), (3, .int a3)]) hx hb dX10_isAhead_80 hl (by decide) rfl (fun ls hl => ?_)
    refine lv_aload_n hx hb dX10_isAhead_82 rfl (lv_at hl 7 rfl) ?_
    refine gM0_17 hc hw fl_X10_209 dX10_isAhead_83 ?_
    obtain ⟨x14, ex14, hf⟩ := lt_some hf
    refine tope ex14 ?_
    refine lv_istore (lv' := [(15, .int x14), (14, .int x13), (12, .long x10), (10, .long x9), (9, .int r8), (7, .long x5), (5, .long x4), (4, .int r3), (0, .ref (ev.2.1 0)), (1, .int a1), (2, .int a2), (3, .int a3)]) hx hb dX10_isAhead_86 hl (by decide) rfl (fun ls hl => ?_)
    refine lv_aload_n hx hb dX10_isAhead_88 rfl (lv_at hl 8 rfl) ?_
    refine lv_iload_n hx hb dX10_isAhead_89 rfl (lv_at hl 10 rfl) ?_
    refine lv_iload_n hx hb dX10_isAhead_90 rfl (lv_at hl 11 rfl) ?_
    obtain ⟨u16, h15, hf⟩ := ov_some hf
    refine endV okM hw (runV_ok (As := [.int a2, .int a3]) (rest := []) okM hc hw (c_X10_findQuality l ev a2 a3 u12 h15 H.size) kv_X10_findQuality ml_X10_215 (rvM0 ev u12) hl.1 rfl rfl (Nat.le_of_ble_eq_true rfl) (rm_le (by decide) (by decide)) dX10_isAhead_91) (fun H locs hw => ?_)
    refine lv_iload hx hb dX10_isAhead_94 (lv_at hl 1 rfl) ?_
    refine lv_aload_n hx hb dX10_isAhead_96 rfl (lv_at hl 8 rfl) ?_
    refine gM0_17 hc hw fl_X10_209 dX10_isAhead_97 ?_
    refine lv_imul hx hb dX10_isAhead_100 ?_
    refine lv_aload_n hx hb dX10_isAhead_101 rfl (lv_at hl 8 rfl) ?_
    refine gM0_16 hc hw fl_X10_206 dX10_isAhead_102 ?_
    refine lv_iload hx hb dX10_isAhead_105 (lv_at hl 0 rfl) ?_
    refine lv_imul hx hb dX10_isAhead_107 ?_
    refine lv_icmp_eq (tgt := 134) hx hb dX10_isAhead_108 (by decide) (fun z => ?_) (fun z => ?_)
    · have hf := it_pos z hf
      refine lv_aload_n hx hb dX10_isAhead_134 rfl (lv_at hl 8 rfl) ?_
      refine lv_iload_n hx hb dX10_isAhead_135 rfl (lv_at hl 9 rfl) ?_
      obtain ⟨r19, u18, h17, hf⟩ := ob_some hf
      refine endI okM hw (runV_ok (As := [.int a1]) (rest := []) okM hc hw (c_X10_priceOf l ev a1 u16 h17 H.size) kv_X10_priceOf ml_X10_191 (rvM0 ev u16) hl.1 rfl rfl (Nat.le_of_ble_eq_true rfl) (rm_le (by decide) (by decide)) dX10_isAhead_136) (fun H locs hw => ?_)
      refine lv_aload_n hx hb dX10_isAhead_139 rfl (lv_at hl 8 rfl) ?_
      refine lv_iload_n hx hb dX10_isAhead_140 rfl (lv_at hl 10 rfl) ?_
      obtain ⟨r22, u21, h20, hf⟩ := ob_some hf
      refine endI okM hw (runV_ok (As := [.int a2]) (rest := [.int r19]) okM hc hw (c_X10_priceOf l ev a2 u18 h20 H.size) kv_X10_priceOf ml_X10_191 (rvM0 ev u18) hl.1 rfl rfl (Nat.le_of_ble_eq_true rfl) (rm_le (by decide) (by decide)) dX10_isAhead_141) (fun H locs hw => ?_)
      refine lv_icmp_eq (tgt := 168) hx hb dX10_isAhead_144 (by decide) (fun z => ?_) (fun z => ?_)
      · have hf := it_pos z hf
        refine lv_iload_n hx hb dX10_isAhead_168 rfl (lv_at hl 9 rfl) ?_
        refine lv_iload_n hx hb dX10_isAhead_169 rfl (lv_at hl 10 rfl) ?_
        refine lv_icmp_ge (tgt := 177) hx hb dX10_isAhead_170 (by decide) (fun z => ?_) (fun z => ?_)
        · have hf := it_pos z hf
          refine lv_iconst (v := (0 : Int32)) hx hb dX10_isAhead_177 (by decide) ?_
          exact retZ hc hr hlk hw nz0 hf dX10_isAhead_178
        · have hf := it_neg z hf
          refine lv_iconst (v := (1 : Int32)) hx hb dX10_isAhead_173 (by decide) ?_
          refine lv_goto (tgt := 178) hx hb dX10_isAhead_174 (by decide) ?_
          exact retZ hc hr hlk hw nz1 hf dX10_isAhead_178
      · have hf := it_neg z hf
        refine lv_aload_n hx hb dX10_isAhead_147 rfl (lv_at hl 8 rfl) ?_
        refine lv_iload_n hx hb dX10_isAhead_148 rfl (lv_at hl 9 rfl) ?_
        obtain ⟨r25, u24, h23, hf⟩ := ob_some hf
        refine endI okM hw (runV_ok (As := [.int a1]) (rest := []) okM hc hw (c_X10_priceOf l ev a1 u21 h23 H.size) kv_X10_priceOf ml_X10_191 (rvM0 ev u21) hl.1 rfl rfl (Nat.le_of_ble_eq_true rfl) (rm_le (by decide) (by decide)) dX10_isAhead_149) (fun H locs hw => ?_)
        refine lv_aload_n hx hb dX10_isAhead_152 rfl (lv_at hl 8 rfl) ?_
        refine lv_iload_n hx hb dX10_isAhead_153 rfl (lv_at hl 10 rfl) ?_
        obtain ⟨r28, u27, h26, hf⟩ := ob_some hf
        refine endI okM hw (runV_ok (As := [.int a2]) (rest := [.int r25]) okM hc hw (c_X10_priceOf l ev a2 u24 h26 H.size) kv_X10_priceOf ml_X10_191 (rvM0 ev u24) hl.1 rfl rfl (Nat.le_of_ble_eq_true rfl) (rm_le (by decide) (by decide)) dX10_isAhead_154) (fun H locs hw => ?_)
        refine lv_icmp_ge (tgt := 164) hx hb dX10_isAhead_157 (by decide) (fun z => ?_) (fun z => ?_)
        · have hf := it_pos z hf
          refine lv_iconst (v := (0 : Int32)) hx hb dX10_isAhead_164 (by decide) ?_
          refine lv_goto (tgt := 178) hx hb dX10_isAhead_165 (by decide) ?_
          exact retZ hc hr hlk hw nz0 hf dX10_isAhead_178
        · have hf := it_neg z hf
          refine lv_iconst (v := (1 : Int32)) hx hb dX10_isAhead_160 (by decide) ?_
          refine lv_goto (tgt := 178) hx hb dX10_isAhead_161 (by decide) ?_
          exact retZ hc hr hlk hw nz1 hf dX10_isAhead_178
    · have hf := it_neg z hf
      refine lv_iload hx hb dX10_isAhead_111 (lv_at hl 1 rfl) ?_
      refine lv_aload_n hx hb dX10_isAhead_113 rfl (lv_at hl 8 rfl) ?_
      refine gM0_17 hc hw fl_X10_209 dX10_isAhead_114 ?_
      refine lv_imul hx hb dX10_isAhead_117 ?_
      refine lv_aload_n hx hb dX10_isAhead_118 rfl (lv_at hl 8 rfl) ?_
      refine gM0_16 hc hw fl_X10_206 dX10_isAhead_119 ?_
      refine lv_iload hx hb dX10_isAhead_122 (lv_at hl 0 rfl) ?_
      refine lv_imul hx hb dX10_isAhead_124 ?_
      refine lv_icmp_le (tgt := 132) hx hb dX10_isAhead_125 (by decide) (fun z => ?_) (fun z => ?_)
      · have hf := it_pos z hf
        refine lv_iconst (v := (0 : Int32)) hx hb dX10_isAhead_132 (by decide) ?_
        exact retZ hc hr hlk hw nz0 hf dX10_isAhead_133
      · have hf := it_neg z hf
        refine lv_iconst (v := (1 : Int32)) hx hb dX10_isAhead_128 (by decide) ?_
        refine lv_goto (tgt := 133) hx hb dX10_isAhead_129 (by decide) ?_
        exact retZ hc hr hlk hw nz1 hf dX10_isAhead_133
  · have hf := it_neg z hf
    refine lv_lload hx hb dX10_isAhead_56 (lv_at hl 1 rfl) ?_
    refine lv_lload hx hb dX10_isAhead_58 (lv_at hl 0 rfl) ?_
    refine W.lcmp hx hb dX10_isAhead_60 ?_
    refine lv_if_le (tgt := 68) hx hb dX10_isAhead_61 (by decide) (fun z => ?_) (fun z => ?_)
    · have hf := it_pos z hf
      refine lv_iconst (v := (0 : Int32)) hx hb dX10_isAhead_68 (by decide) ?_
      exact retZ hc hr hlk hw nz0 hf dX10_isAhead_69
    · have hf := it_neg z hf
      refine lv_iconst (v := (1 : Int32)) hx hb dX10_isAhead_64 (by decide) ?_
      refine lv_goto (tgt := 69) hx hb dX10_isAhead_65 (by decide) ?_
      exact retZ hc hr hlk hw nz1 hf dX10_isAhead_69
