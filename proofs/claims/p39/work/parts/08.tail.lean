
def b_J7_fill_53178_F8_L5 (k5 : Int32 → Int32 → Int32 → SS → Option SS) (b1 : Int32) (b2 : Int32) (b3 : Int32) (u : SS) : Option SS :=
  if b3 ≤ b2 then (some u) else (oi b2 8 (lt (tA u 0 b2 b1) fun u1 => lt (b2 + (1 : Int32)) fun x2 => k5 b1 x2 b3 u1))
def f_J7_fill_53178_F8_L5 : Nat → Int32 → Int32 → Int32 → SS → Option SS
  | 0 => fun _ _ _ _ => none
  | n + 1 => b_J7_fill_53178_F8_L5 (f_J7_fill_53178_F8_L5 n)
def f_J7_fill_53178_F8 (a1 : Int32) (u : SS) : Option SS :=
  f_J7_fill_53178_F8_L5 FU a1 (0 : Int32) (8 : Int32) u
set_option maxHeartbeats 4000000 in
set_option maxRecDepth 100000 in
theorem c_J7_fill_53178_F8 (l : Launch) (ev : EV) (a1 : Int32) (u : SS) {u' : SS} (hf : f_J7_fill_53178_F8 a1 u = some u') : MV wdF8 l yJ7_fill_53178 cJ7_fill_53178 4 none 0 ev [.ref (ev.2.1 0), .int a1] u u' := by
  refine bodyV (by decide +kernel) rfl (Nat.le_of_ble_eq_true rfl) ?_
  intro p e s m below meth cd ls H locs hc hr hlk hw hl
  generalize hav : (List.toArray [.ref (ev.2.1 0), .int a1] : Array Value) = av at hc ⊢
  obtain ⟨hx, hb, hml, hown, hts, hK, hZ⟩ := id hc
  have hl : lv_has ls 4 [(0, .ref (ev.2.1 0)), (1, .int a1)] := hl
  have wL5 : ∀ (n : Nat) (b1 : Int32) (b2 : Int32) (b3 : Int32) (u : SS) (H : Heap) (locs : List Loc) (ls : Array Slot), VW wdF8 ev s u H locs → lv_has ls 4 [(0, .ref (ev.2.1 0)), (1, .int b1), (2, .int b2), (3, .int b3)] → f_J7_fill_53178_F8_L5 n b1 b2 b3 u = some u' → W p l e (rmk 0) s m av below meth cd H locs 0 0 (ZV wdF8 ev s below av u') (F0 m 5 ls []) := by
    intro n
    induction n with
    | zero =>
      intro b1 b2 b3 u H locs ls hw hl hf
      cases hf
    | succ n hk5 =>
      intro b1 b2 b3 u H locs ls hw hl hf
      have hf : b_J7_fill_53178_F8_L5 (f_J7_fill_53178_F8_L5 n) b1 b2 b3 u = some u' := hf
      unfold b_J7_fill_53178_F8_L5 at hf
      refine lv_iload_n hx hb dJ7_fill_53178_5 rfl (lv_at hl 2 rfl) ?_
      refine lv_iload_n hx hb dJ7_fill_53178_6 rfl (lv_at hl 3 rfl) ?_
      refine lv_icmp_ge (tgt := 20) hx hb dJ7_fill_53178_7 (by decide) (fun z => ?_) (fun z => ?_)
      · have hf := it_pos z hf
        exact retV hc hr hlk hw hf dJ7_fill_53178_20
      · have hf := it_neg z hf
        refine lv_aload_n hx hb dJ7_fill_53178_10 rfl (lv_at hl 0 rfl) ?_
        refine lv_iload_n hx hb dJ7_fill_53178_11 rfl (lv_at hl 2 rfl) ?_
        refine lv_iload_n hx hb dJ7_fill_53178_12 rfl (lv_at hl 1 rfl) ?_
        obtain ⟨z, hf⟩ := oi_some hf
        refine tF80 hc hw z dJ7_fill_53178_13 (fun H locs hw => ?_)
        obtain ⟨u1, eu1, hf⟩ := lt_some hf
        have hw := VW.nm eu1 hw
        obtain ⟨x2, ex2, hf⟩ := lt_some hf
        refine lv_iinc (v := x2) (lv' := [(2, .int x2), (0, .ref (ev.2.1 0)), (1, .int b1), (3, .int b3)]) hx hb dJ7_fill_53178_14 hl (k := 2) rfl (by rw [ex2]; rfl) (by decide) rfl (fun ls hl => ?_)
        refine lv_goto (tgt := 5) hx hb dJ7_fill_53178_17 (by decide) ?_
        exact hk5 b1 x2 b3 u1 H locs ls hw (lv_sub hl [1, 2, 0, 3] rfl) hf
  unfold f_J7_fill_53178_F8 at hf
  refine lv_iconst (v := (0 : Int32)) hx hb dJ7_fill_53178_0 (by decide) ?_
  refine lv_istore_n (lv' := [(2, .int (0 : Int32)), (0, .ref (ev.2.1 0)), (1, .int a1)]) hx hb dJ7_fill_53178_1 rfl hl (by decide) rfl (fun ls hl => ?_)
  refine lv_aload_n hx hb dJ7_fill_53178_2 rfl (lv_at hl 1 rfl) ?_
  refine nF80 hc hw dJ7_fill_53178_3 ?_
  refine lv_istore_n (lv' := [(3, .int (8 : Int32)), (2, .int (0 : Int32)), (0, .ref (ev.2.1 0)), (1, .int a1)]) hx hb dJ7_fill_53178_4 rfl hl (by decide) rfl (fun ls hl => ?_)
  exact wL5 FU a1 (0 : Int32) (8 : Int32) u H locs ls hw (lv_sub hl [2, 3, 1, 0] rfl) hf

def b_J7_fill_53178_F288_L5 (k5 : Int32 → Int32 → Int32 → SS → Option SS) (b1 : Int32) (b2 : Int32) (b3 : Int32) (u : SS) : Option SS :=
  if b3 ≤ b2 then (some u) else (oi b2 288 (lt (tA u 0 b2 b1) fun u1 => lt (b2 + (1 : Int32)) fun x2 => k5 b1 x2 b3 u1))
def f_J7_fill_53178_F288_L5 : Nat → Int32 → Int32 → Int32 → SS → Option SS
  | 0 => fun _ _ _ _ => none
  | n + 1 => b_J7_fill_53178_F288_L5 (f_J7_fill_53178_F288_L5 n)
def f_J7_fill_53178_F288 (a1 : Int32) (u : SS) : Option SS :=
  f_J7_fill_53178_F288_L5 FU a1 (0 : Int32) (288 : Int32) u
set_option maxHeartbeats 4000000 in
set_option maxRecDepth 100000 in
theorem c_J7_fill_53178_F288 (l : Launch) (ev : EV) (a1 : Int32) (u : SS) {u' : SS} (hf : f_J7_fill_53178_F288 a1 u = some u') : MV wdF288 l yJ7_fill_53178 cJ7_fill_53178 4 none 0 ev [.ref (ev.2.1 0), .int a1] u u' := by
  refine bodyV (by decide +kernel) rfl (Nat.le_of_ble_eq_true rfl) ?_
  intro p e s m below meth cd ls H locs hc hr hlk hw hl
  generalize hav : (List.toArray [.ref (ev.2.1 0), .int a1] : Array Value) = av at hc ⊢
  obtain ⟨hx, hb, hml, hown, hts, hK, hZ⟩ := id hc
  have hl : lv_has ls 4 [(0, .ref (ev.2.1 0)), (1, .int a1)] := hl
  have wL5 : ∀ (n : Nat) (b1 : Int32) (b2 : Int32) (b3 : Int32) (u : SS) (H : Heap) (locs : List Loc) (ls : Array Slot), VW wdF288 ev s u H locs → lv_has ls 4 [(0, .ref (ev.2.1 0)), (1, .int b1), (2, .int b2), (3, .int b3)] → f_J7_fill_53178_F288_L5 n b1 b2 b3 u = some u' → W p l e (rmk 0) s m av below meth cd H locs 0 0 (ZV wdF288 ev s below av u') (F0 m 5 ls []) := by
    intro n
    induction n with
    | zero =>
      intro b1 b2 b3 u H locs ls hw hl hf
      cases hf
    | succ n hk5 =>
      intro b1 b2 b3 u H locs ls hw hl hf
      have hf : b_J7_fill_53178_F288_L5 (f_J7_fill_53178_F288_L5 n) b1 b2 b3 u = some u' := hf
      unfold b_J7_fill_53178_F288_L5 at hf
      refine lv_iload_n hx hb dJ7_fill_53178_5 rfl (lv_at hl 2 rfl) ?_
      refine lv_iload_n hx hb dJ7_fill_53178_6 rfl (lv_at hl 3 rfl) ?_
      refine lv_icmp_ge (tgt := 20) hx hb dJ7_fill_53178_7 (by decide) (fun z => ?_) (fun z => ?_)
      · have hf := it_pos z hf
        exact retV hc hr hlk hw hf dJ7_fill_53178_20
      · have hf := it_neg z hf
        refine lv_aload_n hx hb dJ7_fill_53178_10 rfl (lv_at hl 0 rfl) ?_
        refine lv_iload_n hx hb dJ7_fill_53178_11 rfl (lv_at hl 2 rfl) ?_
        refine lv_iload_n hx hb dJ7_fill_53178_12 rfl (lv_at hl 1 rfl) ?_
        obtain ⟨z, hf⟩ := oi_some hf
        refine tF2880 hc hw z dJ7_fill_53178_13 (fun H locs hw => ?_)
        obtain ⟨u1, eu1, hf⟩ := lt_some hf
        have hw := VW.nm eu1 hw
        obtain ⟨x2, ex2, hf⟩ := lt_some hf
        refine lv_iinc (v := x2) (lv' := [(2, .int x2), (0, .ref (ev.2.1 0)), (1, .int b1), (3, .int b3)]) hx hb dJ7_fill_53178_14 hl (k := 2) rfl (by rw [ex2]; rfl) (by decide) rfl (fun ls hl => ?_)
        refine lv_goto (tgt := 5) hx hb dJ7_fill_53178_17 (by decide) ?_
        exact hk5 b1 x2 b3 u1 H locs ls hw (lv_sub hl [1, 2, 0, 3] rfl) hf
  unfold f_J7_fill_53178_F288 at hf
  refine lv_iconst (v := (0 : Int32)) hx hb dJ7_fill_53178_0 (by decide) ?_
  refine lv_istore_n (lv' := [(2, .int (0 : Int32)), (0, .ref (ev.2.1 0)), (1, .int a1)]) hx hb dJ7_fill_53178_1 rfl hl (by decide) rfl (fun ls hl => ?_)
  refine lv_aload_n hx hb dJ7_fill_53178_2 rfl (lv_at hl 1 rfl) ?_
  refine nF2880 hc hw dJ7_fill_53178_3 ?_
  refine lv_istore_n (lv' := [(3, .int (288 : Int32)), (2, .int (0 : Int32)), (0, .ref (ev.2.1 0)), (1, .int a1)]) hx hb dJ7_fill_53178_4 rfl hl (by decide) rfl (fun ls hl => ?_)
  exact wL5 FU a1 (0 : Int32) (288 : Int32) u H locs ls hw (lv_sub hl [2, 3, 1, 0] rfl) hf
def b_X10_init_tail_L426 (k426 : Int32 → SS → Option SS) (b1 : Int32) (u : SS) : Option SS :=
  if (8 : Int32) ≤ b1 then (some u) else (oi b1 8 (lt (tA u 16 b1 (6 : Int32)) fun u3 => lt (b1 + (1 : Int32)) fun x4 => k426 x4 u3))
def f_X10_init_tail_L426 : Nat → Int32 → SS → Option SS
  | 0 => fun _ _ => none
  | n + 1 => b_X10_init_tail_L426 (f_X10_init_tail_L426 n)
def b_X10_init_tail_L391 (k391 : Int32 → SS → Option SS) (b1 : Int32) (u : SS) : Option SS :=
  if (288 : Int32) ≤ b1 then (oi (0 : Int32) 80 (lt (tA u 13 (0 : Int32) (113 : Int32)) fun u1 => lt (sI u1 7 (1 : Int32)) fun u2 => f_X10_init_tail_L426 FU (0 : Int32) u2)) else (oi b1 288 (lt (tA u 9 b1 (-1 : Int32)) fun u5 => lt (b1 + (1 : Int32)) fun x6 => k391 x6 u5))
def f_X10_init_tail_L391 : Nat → Int32 → SS → Option SS
  | 0 => fun _ _ => none
  | n + 1 => b_X10_init_tail_L391 (f_X10_init_tail_L391 n)
def b_X10_init_tail_L370 (k370 : Int32 → SS → Option SS) (b1 : Int32) (u : SS) : Option SS :=
  if (48 : Int32) ≤ b1 then (f_X10_init_tail_L391 FU (0 : Int32) u) else (oi b1 48 (lt (tA u 7 b1 (-1 : Int32)) fun u7 => lt (b1 + (1 : Int32)) fun x8 => k370 x8 u7))
def f_X10_init_tail_L370 : Nat → Int32 → SS → Option SS
  | 0 => fun _ _ => none
  | n + 1 => b_X10_init_tail_L370 (f_X10_init_tail_L370 n)
def f_X10_init_tail (u : SS) : Option SS :=
  f_X10_init_tail_L370 FU (0 : Int32) u
set_option maxHeartbeats 4000000 in
set_option maxRecDepth 100000 in
theorem c_X10_init_tail {p : Program} {l : Launch} {e : Env} {R : Room} {s : State} {m : MethodId} {av : Array Value} {below : List Frame} {meth : Method} {cd : Code} {ev : EV} {kc ks : Nat} {Q : State → Prop} {u u' : SS} {H : Heap} {locs : List Loc} {ls : Array Slot} (hc : CX wdM ev p s m cd cX10_init 2 RX10 av) (hf : f_X10_init_tail u = some u') (hw : VW wdM ev s u H locs) (hl : lv_has ls 2 [(0, .ref (ev.2.1 0))]) (hret : ∀ (v : SS) (H : Heap) (locs : List Loc) (ls : Array Slot), VW wdM ev s v H locs → ls.size = 2 → some v = some u' → W p l e R s m av below meth cd H locs kc ks Q (F0 m 446 ls [])) : W p l e R s m av below meth cd H locs kc ks Q (F0 m 368 ls []) := by
  obtain ⟨hx, hb, hml, hown, hts, hK, hZ⟩ := id hc
  have wL426 : ∀ (n : Nat) (b1 : Int32) (u : SS) (H : Heap) (locs : List Loc) (ls : Array Slot), VW wdM ev s u H locs → lv_has ls 2 [(0, .ref (ev.2.1 0)), (1, .int b1)] → f_X10_init_tail_L426 n b1 u = some u' → W p l e R s m av below meth cd H locs kc ks Q (F0 m 426 ls []) := by
    intro n
    induction n with
    | zero =>
      intro b1 u H locs ls hw hl hf
      cases hf
    | succ n hk426 =>
      intro b1 u H locs ls hw hl hf
      have hf : b_X10_init_tail_L426 (f_X10_init_tail_L426 n) b1 u = some u' := hf
      unfold b_X10_init_tail_L426 at hf
      refine lv_iload_n hx hb dX10_init_426 rfl (lv_at hl 1 rfl) ?_
      refine lv_bipush (v := (8 : Int32)) hx hb dX10_init_427 (by decide) ?_
      refine lv_icmp_ge (tgt := 446) hx hb dX10_init_429 (by decide) (fun z => ?_) (fun z => ?_)
      · have hf := it_pos z hf
        exact hret u H locs ls hw hl.1 hf
      · have hf := it_neg z hf
        refine lv_aload_n hx hb dX10_init_432 rfl (lv_at hl 0 rfl) ?_
        refine gM0_38 hc hw fl_X10_79 dX10_init_433 ?_
        refine lv_iload_n hx hb dX10_init_436 rfl (lv_at hl 1 rfl) ?_
        refine lv_bipush (v := (6 : Int32)) hx hb dX10_init_437 (by decide) ?_
        obtain ⟨z, hf⟩ := oi_some hf
        refine tM21 hc hw z dX10_init_439 (fun H locs hw => ?_)
        obtain ⟨u3, eu3, hf⟩ := lt_some hf
        have hw := VW.nm eu3 hw
        obtain ⟨x4, ex4, hf⟩ := lt_some hf
        refine lv_iinc (v := x4) (lv' := [(1, .int x4), (0, .ref (ev.2.1 0))]) hx hb dX10_init_440 hl (k := 1) rfl (by rw [ex4]; rfl) (by decide) rfl (fun ls hl => ?_)
        refine lv_goto (tgt := 426) hx hb dX10_init_443 (by decide) ?_
        exact hk426 x4 u3 H locs ls hw (lv_sub hl [1, 0] rfl) hf
  have wL391 : ∀ (n : Nat) (b1 : Int32) (u : SS) (H : Heap) (locs : List Loc) (ls : Array Slot), VW wdM ev s u H locs → lv_has ls 2 [(0, .ref (ev.2.1 0)), (1, .int b1)] → f_X10_init_tail_L391 n b1 u = some u' → W p l e R s m av below meth cd H locs kc ks Q (F0 m 391 ls []) := by
    intro n
    induction n with
    | zero =>
      intro b1 u H locs ls hw hl hf
      cases hf
    | succ n hk391 =>
      intro b1 u H locs ls hw hl hf
      have hf : b_X10_init_tail_L391 (f_X10_init_tail_L391 n) b1 u = some u' := hf
      unfold b_X10_init_tail_L391 at hf
      refine lv_iload_n hx hb dX10_init_391 rfl (lv_at hl 1 rfl) ?_
      refine lv_sipush (v := (288 : Int32)) hx hb dX10_init_392 (by decide) ?_
      refine lv_icmp_ge (tgt := 411) hx hb dX10_init_395 (by decide) (fun z => ?_) (fun z => ?_)
      · have hf := it_pos z hf
        refine lv_aload_n hx hb dX10_init_411 rfl (lv_at hl 0 rfl) ?_
        refine gM0_20 hc hw fl_X10_57 dX10_init_412 ?_
        refine lv_iconst (v := (0 : Int32)) hx hb dX10_init_415 (by decide) ?_
        refine lv_bipush (v := (113 : Int32)) hx hb dX10_init_416 (by decide) ?_
        obtain ⟨z, hf⟩ := oi_some hf
        refine tM14 hc hw z dX10_init_418 (fun H locs hw => ?_)
        obtain ⟨u1, eu1, hf⟩ := lt_some hf
        have hw := VW.nm eu1 hw
        refine lv_aload_n hx hb dX10_init_419 rfl (lv_at hl 0 rfl) ?_
        refine lv_iconst (v := (1 : Int32)) hx hb dX10_init_420 (by decide) ?_
        refine pM0_21 hc hw fl_X10_139 dX10_init_421 (fun H locs hw => ?_)
        obtain ⟨u2, eu2, hf⟩ := lt_some hf
        have hw := VW.nm eu2 hw
        refine lv_iconst (v := (0 : Int32)) hx hb dX10_init_424 (by decide) ?_
        refine lv_istore_n (lv' := [(1, .int (0 : Int32)), (0, .ref (ev.2.1 0))]) hx hb dX10_init_425 rfl hl (by decide) rfl (fun ls hl => ?_)
        exact wL426 FU (0 : Int32) u2 H locs ls hw (lv_sub hl [1, 0] rfl) hf
      · have hf := it_neg z hf
        refine lv_aload_n hx hb dX10_init_398 rfl (lv_at hl 0 rfl) ?_
        refine gM0_12 hc hw fl_X10_45 dX10_init_399 ?_
        refine lv_iload_n hx hb dX10_init_402 rfl (lv_at hl 1 rfl) ?_
        refine lv_iconst (v := (-1 : Int32)) hx hb dX10_init_403 (by decide) ?_
        obtain ⟨z, hf⟩ := oi_some hf
        refine tM10 hc hw z dX10_init_404 (fun H locs hw => ?_)
        obtain ⟨u5, eu5, hf⟩ := lt_some hf
        have hw := VW.nm eu5 hw
        obtain ⟨x6, ex6, hf⟩ := lt_some hf
        refine lv_iinc (v := x6) (lv' := [(1, .int x6), (0, .ref (ev.2.1 0))]) hx hb dX10_init_405 hl (k := 1) rfl (by rw [ex6]; rfl) (by decide) rfl (fun ls hl => ?_)
        refine lv_goto (tgt := 391) hx hb dX10_init_408 (by decide) ?_
        exact hk391 x6 u5 H locs ls hw (lv_sub hl [1, 0] rfl) hf
  have wL370 : ∀ (n : Nat) (b1 : Int32) (u : SS) (H : Heap) (locs : List Loc) (ls : Array Slot), VW wdM ev s u H locs → lv_has ls 2 [(0, .ref (ev.2.1 0)), (1, .int b1)] → f_X10_init_tail_L370 n b1 u = some u' → W p l e R s m av below meth cd H locs kc ks Q (F0 m 370 ls []) := by
    intro n
    induction n with
    | zero =>
      intro b1 u H locs ls hw hl hf
      cases hf
    | succ n hk370 =>
      intro b1 u H locs ls hw hl hf
      have hf : b_X10_init_tail_L370 (f_X10_init_tail_L370 n) b1 u = some u' := hf
      unfold b_X10_init_tail_L370 at hf
      refine lv_iload_n hx hb dX10_init_370 rfl (lv_at hl 1 rfl) ?_
      refine lv_bipush (v := (48 : Int32)) hx hb dX10_init_371 (by decide) ?_
      refine lv_icmp_ge (tgt := 389) hx hb dX10_init_373 (by decide) (fun z => ?_) (fun z => ?_)
      · have hf := it_pos z hf
        refine lv_iconst (v := (0 : Int32)) hx hb dX10_init_389 (by decide) ?_
        refine lv_istore_n (lv' := [(1, .int (0 : Int32)), (0, .ref (ev.2.1 0))]) hx hb dX10_init_390 rfl hl (by decide) rfl (fun ls hl => ?_)
        exact wL391 FU (0 : Int32) u H locs ls hw (lv_sub hl [1, 0] rfl) hf
      · have hf := it_neg z hf
        refine lv_aload_n hx hb dX10_init_376 rfl (lv_at hl 0 rfl) ?_
        refine gM0_10 hc hw fl_X10_39 dX10_init_377 ?_
        refine lv_iload_n hx hb dX10_init_380 rfl (lv_at hl 1 rfl) ?_
        refine lv_iconst (v := (-1 : Int32)) hx hb dX10_init_381 (by decide) ?_
        obtain ⟨z, hf⟩ := oi_some hf
        refine tM8 hc hw z dX10_init_382 (fun H locs hw => ?_)
        obtain ⟨u7, eu7, hf⟩ := lt_some hf
        have hw := VW.nm eu7 hw
        obtain ⟨x8, ex8, hf⟩ := lt_some hf
        refine lv_iinc (v := x8) (lv' := [(1, .int x8), (0, .ref (ev.2.1 0))]) hx hb dX10_init_383 hl (k := 1) rfl (by rw [ex8]; rfl) (by decide) rfl (fun ls hl => ?_)
        refine lv_goto (tgt := 370) hx hb dX10_init_386 (by decide) ?_
        exact hk370 x8 u7 H locs ls hw (lv_sub hl [1, 0] rfl) hf
  unfold f_X10_init_tail at hf
  refine lv_iconst (v := (0 : Int32)) hx hb dX10_init_368 (by decide) ?_
  refine lv_istore_n (lv' := [(1, .int (0 : Int32)), (0, .ref (ev.2.1 0))]) hx hb dX10_init_369 rfl hl (by decide) rfl (fun ls hl => ?_)
  exact wL370 FU (0 : Int32) u H locs ls hw (lv_sub hl [1, 0] rfl) hf
