def f_X10_ring_L15 (u : SS) : Option (Int32 × SS) :=
  ob (f_X10_refuse (-1 : Int32) u) fun r6 u5 => some (r6, u5)
def f_X10_ring_L194 (k84 : Int32 → Int32 → Int32 → Int32 → Int32 → SS → Option (Int32 × SS)) (b1 : Int32) (b2 : Int32) (b3 : Int32) (b4 : Int32) (b5 : Int32) (u : SS) : Option (Int32 × SS) :=
  lt (b5 + (1 : Int32)) fun x11 => k84 b1 b2 b3 b4 x11 u
def f_X10_ring_L133 (k84 : Int32 → Int32 → Int32 → Int32 → Int32 → SS → Option (Int32 × SS)) (b1 : Int32) (b2 : Int32) (b3 : Int32) (b4 : Int32) (b5 : Int32) (q0 : Int32) (u : SS) : Option (Int32 × SS) :=
  if q0 = 0 then (f_X10_ring_L194 k84 b1 b2 b3 b4 b5 u) else (oi b4 8 (oi b5 8 (if (gA u 31 b5.toNatClampNeg) ≤ (gA u 31 b4.toNatClampNeg) then (f_X10_ring_L194 k84 b1 b2 b3 b4 b5 u) else (ob (f_X10_areJoined (((8 : Int32) * b1) + b4) (((8 : Int32) * b1) + b5) u) fun r14 u13 => if r14 = 0 then (f_X10_ring_L194 k84 b1 b2 b3 b4 b5 u13) else (oi b4 8 (oi b5 8 (lt (tA u13 31 b5 (gA u13 31 b4.toNatClampNeg)) fun u15 => f_X10_ring_L194 k84 b1 b2 (1 : Int32) b4 b5 u15)))))))
def f_X10_ring_L132 (k84 : Int32 → Int32 → Int32 → Int32 → Int32 → SS → Option (Int32 × SS)) (b1 : Int32) (b2 : Int32) (b3 : Int32) (b4 : Int32) (b5 : Int32) (u : SS) : Option (Int32 × SS) :=
  f_X10_ring_L133 k84 b1 b2 b3 b4 b5 (0 : Int32) u
def b_X10_ring_L84 (k74 : Int32 → Int32 → Int32 → Int32 → SS → Option (Int32 × SS)) (k84 : Int32 → Int32 → Int32 → Int32 → Int32 → SS → Option (Int32 × SS)) (b1 : Int32) (b2 : Int32) (b3 : Int32) (b4 : Int32) (b5 : Int32) (u : SS) : Option (Int32 × SS) :=
  if (8 : Int32) ≤ b5 then (lt (b4 + (1 : Int32)) fun x10 => k74 b1 b2 b3 x10 u) else (if b4 = b5 then (f_X10_ring_L132 k84 b1 b2 b3 b4 b5 u) else (oi (((8 : Int32) * b1) + b4) 48 (if (gA u 1 (((8 : Int32) * b1) + b4).toNatClampNeg) = 0 then (f_X10_ring_L132 k84 b1 b2 b3 b4 b5 u) else (oi (((8 : Int32) * b1) + b5) 48 (if (gA u 1 (((8 : Int32) * b1) + b5).toNatClampNeg) = 0 then (f_X10_ring_L132 k84 b1 b2 b3 b4 b5 u) else (f_X10_ring_L133 k84 b1 b2 b3 b4 b5 (1 : Int32) u))))))
def f_X10_ring_L84 (k74 : Int32 → Int32 → Int32 → Int32 → SS → Option (Int32 × SS)) : Nat → Int32 → Int32 → Int32 → Int32 → Int32 → SS → Option (Int32 × SS)
  | 0 => fun _ _ _ _ _ _ => none
  | n + 1 => b_X10_ring_L84 k74 (f_X10_ring_L84 k74 n)
def b_X10_ring_L74 (k65 : Int32 → Int32 → Int32 → SS → Option (Int32 × SS)) (k74 : Int32 → Int32 → Int32 → Int32 → SS → Option (Int32 × SS)) (b1 : Int32) (b2 : Int32) (b3 : Int32) (b4 : Int32) (u : SS) : Option (Int32 × SS) :=
  if (8 : Int32) ≤ b4 then (k65 b1 b2 b3 u) else (f_X10_ring_L84 k74 FU b1 b2 b3 b4 (0 : Int32) u)
def f_X10_ring_L74 (k65 : Int32 → Int32 → Int32 → SS → Option (Int32 × SS)) : Nat → Int32 → Int32 → Int32 → Int32 → SS → Option (Int32 × SS)
  | 0 => fun _ _ _ _ _ => none
  | n + 1 => b_X10_ring_L74 k65 (f_X10_ring_L74 k65 n)
def b_X10_ring_L65 (k65 : Int32 → Int32 → Int32 → SS → Option (Int32 × SS)) (b1 : Int32) (b2 : Int32) (b3 : Int32) (u : SS) : Option (Int32 × SS) :=
  if b3 = 0 then (oi b2 8 (some ((gA u 31 b2.toNatClampNeg), u))) else (f_X10_ring_L74 k65 FU b1 b2 (0 : Int32) (0 : Int32) u)
def f_X10_ring_L65 : Nat → Int32 → Int32 → Int32 → SS → Option (Int32 × SS)
  | 0 => fun _ _ _ _ => none
  | n + 1 => b_X10_ring_L65 (f_X10_ring_L65 n)
def b_X10_ring_L44 (k44 : Int32 → Int32 → Int32 → SS → Option (Int32 × SS)) (b1 : Int32) (b2 : Int32) (b3 : Int32) (u : SS) : Option (Int32 × SS) :=
  if (8 : Int32) ≤ b3 then (f_X10_ring_L65 FU b1 b2 (1 : Int32) u) else (oi b3 8 (lt (tA u 31 b3 b3) fun u16 => lt (b3 + (1 : Int32)) fun x17 => k44 b1 b2 x17 u16))
def f_X10_ring_L44 : Nat → Int32 → Int32 → Int32 → SS → Option (Int32 × SS)
  | 0 => fun _ _ _ _ => none
  | n + 1 => b_X10_ring_L44 (f_X10_ring_L44 n)
def f_X10_ring (a1 : Int32) (a2 : Int32) (u : SS) : Option (Int32 × SS) :=
  ob (f_X10_isLot a1 u) fun r3 u2 => if r3 = 0 then (f_X10_ring_L15 u2) else (ob (f_X10_isBidder a2 u2) fun r9 u8 => if r9 = 0 then (f_X10_ring_L15 u8) else (oi (((8 : Int32) * a1) + a2) 48 (if (gA u8 1 (((8 : Int32) * a1) + a2).toNatClampNeg) = 0 then (ob (f_X10_refuse (-5 : Int32) u8) fun r20 u19 => some (r20, u19)) else (f_X10_ring_L44 FU a1 a2 (0 : Int32) u8))))
set_option maxHeartbeats 4000000 in
set_option maxRecDepth 100000 in
theorem c_X10_ring (l : Launch) (ev : EV) (a1 : Int32) (a2 : Int32) (u : SS) {r : Int32} {u' : SS} (hf : f_X10_ring a1 a2 u = some (r, u')) : MI wdM l yX10_ring cX10_ring 7 (some .int) 4 ev [.ref (ev.2.1 0), .int a1, .int a2] u r u' := by
  refine bodyI (by decide +kernel) rfl (Nat.le_of_ble_eq_true rfl) ?_
  intro p e s m below meth cd ls H locs hc hr hlk hw hl
  generalize hav : (List.toArray [.ref (ev.2.1 0), .int a1, .int a2] : Array Value) = av at hc ⊢
  obtain ⟨hx, hb, hml, hown, hts, hK, hZ⟩ := id hc
  have hl : lv_has ls 7 [(0, .ref (ev.2.1 0)), (1, .int a1), (2, .int a2)] := hl
  have wL15 : ∀ (u : SS) (H : Heap) (locs : List Loc) (ls : Array Slot), VW wdM ev s u H locs → lv_has ls 7 [(0, .ref (ev.2.1 0))] → f_X10_ring_L15  u = some (r, u') → W p l e (rmk 4) s m av below meth cd H locs 0 0 (ZI wdM ev s below av r u') (F0 m 15 ls []) := by
    intro  u H locs ls hw hl hf
    unfold f_X10_ring_L15 at hf
    refine lv_aload_n hx hb dX10_ring_15 rfl (lv_at hl 0 rfl) ?_
    refine lv_iconst (v := (-1 : Int32)) hx hb dX10_ring_16 (by decide) ?_
    obtain ⟨r6, u5, h4, hf⟩ := ob_some hf
    refine endI okM hw (runV_ok (As := [.int (-1 : Int32)]) (rest := []) okM hc hw (c_X10_refuse l ev (-1 : Int32) u h4 H.size) kv_X10_refuse ml_X10_151 (rvM0 ev u) hl.1 rfl rfl (Nat.le_of_ble_eq_true rfl) (rm_le (by decide) (by decide)) dX10_ring_17) (fun H locs hw => ?_)
    exact retI hc hr hlk hw hf dX10_ring_20
  have wL194 : ∀ (k84 : Int32 → Int32 → Int32 → Int32 → Int32 → SS → Option (Int32 × SS)) (hk84 : ∀ (b1 : Int32) (b2 : Int32) (b3 : Int32) (b4 : Int32) (b5 : Int32) (u : SS) (H : Heap) (locs : List Loc) (ls : Array Slot), VW wdM ev s u H locs → lv_has ls 7 [(0, .ref (ev.2.1 0)), (1, .int b1), (2, .int b2), (3, .int b3), (4, .int b4), (5, .int b5)] → k84 b1 b2 b3 b4 b5 u = some (r, u') → W p l e (rmk 4) s m av below meth cd H locs 0 0 (ZI wdM ev s below av r u') (F0 m 84 ls [])) (b1 : Int32) (b2 : Int32) (b3 : Int32) (b4 : Int32) (b5 : Int32) (u : SS) (H : Heap) (locs : List Loc) (ls : Array Slot), VW wdM ev s u H locs → lv_has ls 7 [(0, .ref (ev.2.1 0)), (1, .int b1), (2, .int b2), (3, .int b3), (4, .int b4), (5, .int b5)] → f_X10_ring_L194 k84 b1 b2 b3 b4 b5 u = some (r, u') → W p l e (rmk 4) s m av below meth cd H locs 0 0 (ZI wdM ev s below av r u') (F0 m 194 ls []) := by
    intro k84 hk84 b1 b2 b3 b4 b5 u H locs ls hw hl hf
    unfold f_X10_ring_L194 at hf
    obtain ⟨x11, ex11, hf⟩ := lt_some hf
    refine lv_iinc (v := x11) (lv' := [(5, .int x11), (0, .ref (ev.2.1 0)), (1, .int b1), (2, .int b2), (3, .int b3), (4, .int b4)]) hx hb dX10_ring_194 hl (k := 5) rfl (by rw [ex11]; rfl) (by decide) rfl (fun ls hl => ?_)
    refine lv_goto (tgt := 84) hx hb dX10_ring_197 (by decide) ?_
    exact hk84 b1 b2 b3 b4 x11 u H locs ls hw (lv_sub hl [1, 2, 3, 4, 5, 0] rfl) hf
  have wL133 : ∀ (k84 : Int32 → Int32 → Int32 → Int32 → Int32 → SS → Option (Int32 × SS)) (hk84 : ∀ (b1 : Int32) (b2 : Int32) (b3 : Int32) (b4 : Int32) (b5 : Int32) (u : SS) (H : Heap) (locs : List Loc) (ls : Array Slot), VW wdM ev s u H locs → lv_has ls 7 [(0, .ref (ev.2.1 0)), (1, .int b1), (2, .int b2), (3, .int b3), (4, .int b4), (5, .int b5)] → k84 b1 b2 b3 b4 b5 u = some (r, u') → W p l e (rmk 4) s m av below meth cd H locs 0 0 (ZI wdM ev s below av r u') (F0 m 84 ls [])) (b1 : Int32) (b2 : Int32) (b3 : Int32) (b4 : Int32) (b5 : Int32) (q0 : Int32) (u : SS) (H : Heap) (locs : List Loc) (ls : Array Slot), VW wdM ev s u H locs → lv_has ls 7 [(0, .ref (ev.2.1 0)), (1, .int b1), (2, .int b2), (3, .int b3), (4, .int b4), (5, .int b5)] → f_X10_ring_L133 k84 b1 b2 b3 b4 b5 q0 u = some (r, u') → W p l e (rmk 4) s m av below meth cd H locs 0 0 (ZI wdM ev s below av r u') (F0 m 133 ls [.int q0]) := by
    intro k84 hk84 b1 b2 b3 b4 b5 q0 u H locs ls hw hl hf
    unfold f_X10_ring_L133 at hf
    refine lv_istore (lv' := [(6, .int q0), (0, .ref (ev.2.1 0)), (1, .int b1), (2, .int b2), (3, .int b3), (4, .int b4), (5, .int b5)]) hx hb dX10_ring_133 hl (by decide) rfl (fun ls hl => ?_)
    refine lv_iload hx hb dX10_ring_135 (lv_at hl 0 rfl) ?_
    refine lv_if_eq (tgt := 194) hx hb dX10_ring_137 (by decide) (fun z => ?_) (fun z => ?_)
    · have hf := it_pos z hf
      exact wL194 k84 hk84 b1 b2 b3 b4 b5 u H locs ls hw (lv_sub hl [1, 2, 3, 4, 5, 6] rfl) hf
    · have hf := it_neg z hf
      refine lv_aload_n hx hb dX10_ring_140 rfl (lv_at hl 1 rfl) ?_
      refine gM0_63 hc hw fl_X10_124 dX10_ring_141 ?_
      refine lv_iload hx hb dX10_ring_144 (lv_at hl 5 rfl) ?_
      obtain ⟨z, hf⟩ := oi_some hf
      refine aM36 hc hw z dX10_ring_146 ?_
      refine lv_aload_n hx hb dX10_ring_147 rfl (lv_at hl 1 rfl) ?_
      refine gM0_63 hc hw fl_X10_124 dX10_ring_148 ?_
      refine lv_iload hx hb dX10_ring_151 (lv_at hl 6 rfl) ?_
      obtain ⟨z, hf⟩ := oi_some hf
      refine aM36 hc hw z dX10_ring_153 ?_
      refine lv_icmp_ge (tgt := 194) hx hb dX10_ring_154 (by decide) (fun z => ?_) (fun z => ?_)
      · have hf := it_pos z hf
        exact wL194 k84 hk84 b1 b2 b3 b4 b5 u H locs ls hw (lv_sub hl [1, 2, 3, 4, 5, 6] rfl) hf
      · have hf := it_neg z hf
        refine lv_aload_n hx hb dX10_ring_157 rfl (lv_at hl 1 rfl) ?_
        refine lv_bipush (v := (8 : Int32)) hx hb dX10_ring_158 (by decide) ?_
        refine lv_iload_n hx hb dX10_ring_160 rfl (lv_at hl 2 rfl) ?_
        refine lv_imul hx hb dX10_ring_161 ?_
        refine lv_iload hx hb dX10_ring_162 (lv_at hl 5 rfl) ?_
        refine lv_iadd hx hb dX10_ring_164 ?_
        refine lv_bipush (v := (8 : Int32)) hx hb dX10_ring_165 (by decide) ?_
        refine lv_iload_n hx hb dX10_ring_167 rfl (lv_at hl 2 rfl) ?_
        refine lv_imul hx hb dX10_ring_168 ?_
        refine lv_iload hx hb dX10_ring_169 (lv_at hl 6 rfl) ?_
        refine lv_iadd hx hb dX10_ring_171 ?_
        obtain ⟨r14, u13, h12, hf⟩ := ob_some hf
        refine endI okM hw (runV_ok (As := [.int (((8 : Int32) * b1) + b4), .int (((8 : Int32) * b1) + b5)]) (rest := []) okM hc hw (c_X10_areJoined l ev (((8 : Int32) * b1) + b4) (((8 : Int32) * b1) + b5) u h12 H.size) kv_X10_areJoined ml_X10_390 (rvM0 ev u) hl.1 rfl rfl (Nat.le_of_ble_eq_true rfl) (rm_le (by decide) (by decide)) dX10_ring_172) (fun H locs hw => ?_)
        refine lv_if_eq (tgt := 194) hx hb dX10_ring_175 (by decide) (fun z => ?_) (fun z => ?_)
        · have hf := it_pos z hf
          exact wL194 k84 hk84 b1 b2 b3 b4 b5 u13 H locs ls hw (lv_sub hl [1, 2, 3, 4, 5, 6] rfl) hf
        · have hf := it_neg z hf
          refine lv_aload_n hx hb dX10_ring_178 rfl (lv_at hl 1 rfl) ?_
          refine gM0_63 hc hw fl_X10_124 dX10_ring_179 ?_
          refine lv_iload hx hb dX10_ring_182 (lv_at hl 6 rfl) ?_
          refine lv_aload_n hx hb dX10_ring_184 rfl (lv_at hl 1 rfl) ?_
          refine gM0_63 hc hw fl_X10_124 dX10_ring_185 ?_
          refine lv_iload hx hb dX10_ring_188 (lv_at hl 5 rfl) ?_
          obtain ⟨z, hf⟩ := oi_some hf
          refine aM36 hc hw z dX10_ring_190 ?_
          obtain ⟨z, hf⟩ := oi_some hf
          refine tM36 hc hw z dX10_ring_191 (fun H locs hw => ?_)
          obtain ⟨u15, eu15, hf⟩ := lt_some hf
          have hw := VW.nm eu15 hw
          refine lv_iconst (v := (1 : Int32)) hx hb dX10_ring_192 (by decide) ?_
          refine lv_istore_n (lv' := [(3, .int (1 : Int32)), (6, .int q0), (0, .ref (ev.2.1 0)), (1, .int b1), (2, .int b2), (4, .int b4), (5, .int b5)]) hx hb dX10_ring_193 rfl hl (by decide) rfl (fun ls hl => ?_)
          exact wL194 k84 hk84 b1 b2 (1 : Int32) b4 b5 u15 H locs ls hw (lv_sub hl [2, 3, 4, 0, 5, 6] rfl) hf
  have wL132 : ∀ (k84 : Int32 → Int32 → Int32 → Int32 → Int32 → SS → Option (Int32 × SS)) (hk84 : ∀ (b1 : Int32) (b2 : Int32) (b3 : Int32) (b4 : Int32) (b5 : Int32) (u : SS) (H : Heap) (locs : List Loc) (ls : Array Slot), VW wdM ev s u H locs → lv_has ls 7 [(0, .ref (ev.2.1 0)), (1, .int b1), (2, .int b2), (3, .int b3), (4, .int b4), (5, .int b5)] → k84 b1 b2 b3 b4 b5 u = some (r, u') → W p l e (rmk 4) s m av below meth cd H locs 0 0 (ZI wdM ev s below av r u') (F0 m 84 ls [])) (b1 : Int32) (b2 : Int32) (b3 : Int32) (b4 : Int32) (b5 : Int32) (u : SS) (H : Heap) (locs : List Loc) (ls : Array Slot), VW wdM ev s u H locs → lv_has ls 7 [(0, .ref (ev.2.1 0)), (1, .int b1), (2, .int b2), (3, .int b3), (4, .int b4), (5, .int b5)] → f_X10_ring_L132 k84 b1 b2 b3 b4 b5 u = some (r, u') → W p l e (rmk 4) s m av below meth cd H locs 0 0 (ZI wdM ev s below av r u') (F0 m 132 ls []) := by
    intro k84 hk84 b1 b2 b3 b4 b5 u H locs ls hw hl hf
    unfold f_X10_ring_L132 at hf
    refine lv_iconst (v := (0 : Int32)) hx hb dX10_ring_132 (by decide) ?_
    exact wL133 k84 hk84 b1 b2 b3 b4 b5 (0 : Int32) u H locs ls hw (lv_sub hl [0, 1, 2, 3, 4, 5] rfl) hf
  have wL84 : ∀ (k74 : Int32 → Int32 → Int32 → Int32 → SS → Option (Int32 × SS)) (hk74 : ∀ (b1 : Int32) (b2 : Int32) (b3 : Int32) (b4 : Int32) (u : SS) (H : Heap) (locs : List Loc) (ls : Array Slot), VW wdM ev s u H locs → lv_has ls 7 [(0, .ref (ev.2.1 0)), (1, .int b1), (2, .int b2), (3, .int b3), (4, .int b4)] → k74 b1 b2 b3 b4 u = some (r, u') → W p l e (rmk 4) s m av below meth cd H locs 0 0 (ZI wdM ev s below av r u') (F0 m 74 ls [])) (n : Nat) (b1 : Int32) (b2 : Int32) (b3 : Int32) (b4 : Int32) (b5 : Int32) (u : SS) (H : Heap) (locs : List Loc) (ls : Array Slot), VW wdM ev s u H locs → lv_has ls 7 [(0, .ref (ev.2.1 0)), (1, .int b1), (2, .int b2), (3, .int b3), (4, .int b4), (5, .int b5)] → f_X10_ring_L84 k74 n b1 b2 b3 b4 b5 u = some (r, u') → W p l e (rmk 4) s m av below meth cd H locs 0 0 (ZI wdM ev s below av r u') (F0 m 84 ls []) := by
    intro k74 hk74 n
    induction n with
    | zero =>
      intro b1 b2 b3 b4 b5 u H locs ls hw hl hf
      cases hf
    | succ n hk84 =>
      intro b1 b2 b3 b4 b5 u H locs ls hw hl hf
      have hf : b_X10_ring_L84 k74 (f_X10_ring_L84 k74 n) b1 b2 b3 b4 b5 u = some (r, u') := hf
      unfold b_X10_ring_L84 at hf
      refine lv_iload hx hb dX10_ring_84 (lv_at hl 5 rfl) ?_
      refine lv_bipush (v := (8 : Int32)) hx hb dX10_ring_86 (by decide) ?_
      refine lv_icmp_ge (tgt := 200) hx hb dX10_ring_88 (by decide) (fun z => ?_) (fun z => ?_)
      · have hf := it_pos z hf
        obtain ⟨x10, ex10, hf⟩ := lt_some hf
        refine lv_iinc (v := x10) (lv' := [(4, .int x10), (0, .ref (ev.2.1 0)), (1, .int b1), (2, .int b2), (3, .int b3), (5, .int b5)]) hx hb dX10_ring_200 hl (k := 4) rfl (by rw [ex10]; rfl) (by decide) rfl (fun ls hl => ?_)
        refine lv_goto (tgt := 74) hx hb dX10_ring_203 (by decide) ?_
        exact hk74 b1 b2 b3 x10 u H locs ls hw (lv_sub hl [1, 2, 3, 4, 0] rfl) hf
      · have hf := it_neg z hf
        refine lv_iload hx hb dX10_ring_91 (lv_at hl 4 rfl) ?_
        refine lv_iload hx hb dX10_ring_93 (lv_at hl 5 rfl) ?_
        refine lv_icmp_eq (tgt := 132) hx hb dX10_ring_95 (by decide) (fun z => ?_) (fun z => ?_)
        · have hf := it_pos z hf
          exact wL132 (f_X10_ring_L84 k74 n) hk84 b1 b2 b3 b4 b5 u H locs ls hw (lv_sub hl [0, 1, 2, 3, 4, 5] rfl) hf
        · have hf := it_neg z hf
          refine lv_aload_n hx hb dX10_ring_98 rfl (lv_at hl 0 rfl) ?_
          refine gM0_4 hc hw fl_X10_20 dX10_ring_99 ?_
          refine lv_bipush (v := (8 : Int32)) hx hb dX10_ring_102 (by decide) ?_
          refine lv_iload_n hx hb dX10_ring_104 rfl (lv_at hl 1 rfl) ?_
          refine lv_imul hx hb dX10_ring_105 ?_
          refine lv_iload hx hb dX10_ring_106 (lv_at hl 4 rfl) ?_
          refine lv_iadd hx hb dX10_ring_108 ?_
          obtain ⟨z, hf⟩ := oi_some hf
          refine aM2 hc hw z dX10_ring_109 ?_
          refine lv_if_eq (tgt := 132) hx hb dX10_ring_110 (by decide) (fun z => ?_) (fun z => ?_)
          · have hf := it_pos z hf
            exact wL132 (f_X10_ring_L84 k74 n) hk84 b1 b2 b3 b4 b5 u H locs ls hw (lv_sub hl [0, 1, 2, 3, 4, 5] rfl) hf
          · have hf := it_neg z hf
            refine lv_aload_n hx hb dX10_ring_113 rfl (lv_at hl 0 rfl) ?_
            refine gM0_4 hc hw fl_X10_20 dX10_ring_114 ?_
            refine lv_bipush (v := (8 : Int32)) hx hb dX10_ring_117 (by decide) ?_
            refine lv_iload_n hx hb dX10_ring_119 rfl (lv_at hl 1 rfl) ?_
            refine lv_imul hx hb dX10_ring_120 ?_
            refine lv_iload hx hb dX10_ring_121 (lv_at hl 5 rfl) ?_
            refine lv_iadd hx hb dX10_ring_123 ?_
            obtain ⟨z, hf⟩ := oi_some hf
            refine aM2 hc hw z dX10_ring_124 ?_
            refine lv_if_eq (tgt := 132) hx hb dX10_ring_125 (by decide) (fun z => ?_) (fun z => ?_)
            · have hf := it_pos z hf
              exact wL132 (f_X10_ring_L84 k74 n) hk84 b1 b2 b3 b4 b5 u H locs ls hw (lv_sub hl [0, 1, 2, 3, 4, 5] rfl) hf
            · have hf := it_neg z hf
              refine lv_iconst (v := (1 : Int32)) hx hb dX10_ring_128 (by decide) ?_
              refine lv_goto (tgt := 133) hx hb dX10_ring_129 (by decide) ?_
              exact wL133 (f_X10_ring_L84 k74 n) hk84 b1 b2 b3 b4 b5 (1 : Int32) u H locs ls hw (lv_sub hl [0, 1, 2, 3, 4, 5] rfl) hf
  have wL74 : ∀ (k65 : Int32 → Int32 → Int32 → SS → Option (Int32 × SS)) (hk65 : ∀ (b1 : Int32) (b2 : Int32) (b3 : Int32) (u : SS) (H : Heap) (locs : List Loc) (ls : Array Slot), VW wdM ev s u H locs → lv_has ls 7 [(0, .ref (ev.2.1 0)), (1, .int b1), (2, .int b2), (3, .int b3)] → k65 b1 b2 b3 u = some (r, u') → W p l e (rmk 4) s m av below meth cd H locs 0 0 (ZI wdM ev s below av r u') (F0 m 65 ls [])) (n : Nat) (b1 : Int32) (b2 : Int32) (b3 : Int32) (b4 : Int32) (u : SS) (H : Heap) (locs : List Loc) (ls : Array Slot), VW wdM ev s u H locs → lv_has ls 7 [(0, .ref (ev.2.1 0)), (1, .int b1), (2, .int b2), (3, .int b3), (4, .int b4)] → f_X10_ring_L74 k65 n b1 b2 b3 b4 u = some (r, u') → W p l e (rmk 4) s m av below meth cd H locs 0 0 (ZI wdM ev s below av r u') (F0 m 74 ls []) := by
    intro k65 hk65 n
    induction n with
    | zero =>
      intro b1 b2 b3 b4 u H locs ls hw hl hf
      cases hf
    | succ n hk74 =>
      intro b1 b2 b3 b4 u H locs ls hw hl hf
      have hf : b_X10_ring_L74 k65 (f_X10_ring_L74 k65 n) b1 b2 b3 b4 u = some (r, u') := hf
      unfold b_X10_ring_L74 at hf
      refine lv_iload hx hb dX10_ring_74 (lv_at hl 4 rfl) ?_
      refine lv_bipush (v := (8 : Int32)) hx hb dX10_ring_76 (by decide) ?_
      refine lv_icmp_ge (tgt := 206) hx hb dX10_ring_78 (by decide) (fun z => ?_) (fun z => ?_)
      · have hf := it_pos z hf
        refine lv_goto (tgt := 65) hx hb dX10_ring_206 (by decide) ?_
        exact hk65 b1 b2 b3 u H locs ls hw (lv_sub hl [0, 1, 2, 3] rfl) hf
      · have hf := it_neg z hf
        refine lv_iconst (v := (0 : Int32)) hx hb dX10_ring_81 (by decide) ?_
        refine lv_istore (lv' := [(5, .int (0 : Int32)), (0, .ref (ev.2.1 0)), (1, .int b1), (2, .int b2), (3, .int b3), (4, .int b4)]) hx hb dX10_ring_82 hl (by decide) rfl (fun ls hl => ?_)
        exact wL84 (f_X10_ring_L74 k65 n) hk74 FU b1 b2 b3 b4 (0 : Int32) u H locs ls hw (lv_sub hl [1, 2, 3, 4, 5, 0] rfl) hf
  have wL65 : ∀ (n : Nat) (b1 : Int32) (b2 : Int32) (b3 : Int32) (u : SS) (H : Heap) (locs : List Loc) (ls : Array Slot), VW wdM ev s u H locs → lv_has ls 7 [(0, .ref (ev.2.1 0)), (1, .int b1), (2, .int b2), (3, .int b3)] → f_X10_ring_L65 n b1 b2 b3 u = some (r, u') → W p l e (rmk 4) s m av below meth cd H locs 0 0 (ZI wdM ev s below av r u') (F0 m 65 ls []) := by
    intro n
    induction n with
    | zero =>
      intro b1 b2 b3 u H locs ls hw hl hf
      cases hf
    | succ n hk65 =>
      intro b1 b2 b3 u H locs ls hw hl hf
      have hf : b_X10_ring_L65 (f_X10_ring_L65 n) b1 b2 b3 u = some (r, u') := hf
      unfold b_X10_ring_L65 at hf
      refine lv_iload_n hx hb dX10_ring_65 rfl (lv_at hl 3 rfl) ?_
      refine lv_if_eq (tgt := 209) hx hb dX10_ring_66 (by decide) (fun z => ?_) (fun z => ?_)
      · have hf := it_pos z hf
        refine lv_aload_n hx hb dX10_ring_209 rfl (lv_at hl 0 rfl) ?_
        refine gM0_63 hc hw fl_X10_124 dX10_ring_210 ?_
        refine lv_iload_n hx hb dX10_ring_213 rfl (lv_at hl 2 rfl) ?_
        obtain ⟨z, hf⟩ := oi_some hf
        refine aM36 hc hw z dX10_ring_214 ?_
        exact retI hc hr hlk hw hf dX10_ring_215
      · have hf := it_neg z hf
        refine lv_iconst (v := (0 : Int32)) hx hb dX10_ring_69 (by decide) ?_
        refine lv_istore_n (lv' := [(3, .int (0 : Int32)), (0, .ref (ev.2.1 0)), (1, .int b1), (2, .int b2)]) hx hb dX10_ring_70 rfl hl (by decide) rfl (fun ls hl => ?_)
        refine lv_iconst (v := (0 : Int32)) hx hb dX10_ring_71 (by decide) ?_
        refine lv_istore (lv' := [(4, .int (0 : Int32)), (3, .int (0 : Int32)), (0, .ref (ev.2.1 0)), (1, .int b1), (2, .int b2)]) hx hb dX10_ring_72 hl (by decide) rfl (fun ls hl => ?_)
        exact wL74 (f_X10_ring_L65 n) hk65 FU b1 b2 (0 : Int32) (0 : Int32) u H locs ls hw (lv_sub hl [2, 3, 4, 1, 0] rfl) hf
  have wL44 : ∀ (n : Nat) (b1 : Int32) (b2 : Int32) (b3 : Int32) (u : SS) (H : Heap) (locs : List Loc) (ls : Array Slot), VW wdM ev s u H locs → lv_has ls 7 [(0, .ref (ev.2.1 0)), (1, .int b1), (2, .int b2), (3, .int b3)] → f_X10_ring_L44 n b1 b2 b3 u = some (r, u') → W p l e (rmk 4) s m av below meth cd H locs 0 0 (ZI wdM ev s below av r u') (F0 m 44 ls []) := by
    intro n
    induction n with
    | zero =>
      intro b1 b2 b3 u H locs ls hw hl hf
      cases hf
    | succ n hk44 =>
      intro b1 b2 b3 u H locs ls hw hl hf
      have hf : b_X10_ring_L44 (f_X10_ring_L44 n) b1 b2 b3 u = some (r, u') := hf
      unfold b_X10_ring_L44 at hf
      refine lv_iload_n hx hb dX10_ring_44 rfl (lv_at hl 3 rfl) ?_
      refine lv_bipush (v := (8 : Int32)) hx hb dX10_ring_45 (by decide) ?_
      refine lv_icmp_ge (tgt := 63) hx hb dX10_ring_47 (by decide) (fun z => ?_) (fun z => ?_)
      · have hf := it_pos z hf
        refine lv_iconst (v := (1 : Int32)) hx hb dX10_ring_63 (by decide) ?_
        refine lv_istore_n (lv' := [(3, .int (1 : Int32)), (0, .ref (ev.2.1 0)), (1, .int b1), (2, .int b2)]) hx hb dX10_ring_64 rfl hl (by decide) rfl (fun ls hl => ?_)
        exact wL65 FU b1 b2 (1 : Int32) u H locs ls hw (lv_sub hl [1, 2, 3, 0] rfl) hf
      · have hf := it_neg z hf
        refine lv_aload_n hx hb dX10_ring_50 rfl (lv_at hl 0 rfl) ?_
        refine gM0_63 hc hw fl_X10_124 dX10_ring_51 ?_
        refine lv_iload_n hx hb dX10_ring_54 rfl (lv_at hl 3 rfl) ?_
        refine lv_iload_n hx hb dX10_ring_55 rfl (lv_at hl 3 rfl) ?_
        obtain ⟨z, hf⟩ := oi_some hf
        refine tM36 hc hw z dX10_ring_56 (fun H locs hw => ?_)
        obtain ⟨u16, eu16, hf⟩ := lt_some hf
        have hw := VW.nm eu16 hw
        obtain ⟨x17, ex17, hf⟩ := lt_some hf
        refine lv_iinc (v := x17) (lv' := [(3, .int x17), (0, .ref (ev.2.1 0)), (1, .int b1), (2, .int b2)]) hx hb dX10_ring_57 hl (k := 3) rfl (by rw [ex17]; rfl) (by decide) rfl (fun ls hl => ?_)
        refine lv_goto (tgt := 44) hx hb dX10_ring_60 (by decide) ?_
        exact hk44 b1 b2 x17 u16 H locs ls hw (lv_sub hl [1, 2, 3, 0] rfl) hf
  unfold f_X10_ring at hf
  refine lv_aload_n hx hb dX10_ring_0 rfl (lv_at hl 0 rfl) ?_
  refine lv_iload_n hx hb dX10_ring_1 rfl (lv_at hl 1 rfl) ?_
  obtain ⟨r3, u2, h1, hf⟩ := ob_some hf
  refine endI okM hw (runV_ok (As := [.int a1]) (rest := []) okM hc hw (c_X10_isLot l ev a1 u h1 H.size) kv_X10_isLot ml_X10_170 (rvM0 ev u) hl.1 rfl rfl (Nat.le_of_ble_eq_true rfl) (rm_le (by decide) (by decide)) dX10_ring_2) (fun H locs hw => ?_)
  refine lv_if_eq (tgt := 15) hx hb dX10_ring_5 (by decide) (fun z => ?_) (fun z => ?_)
  · have hf := it_pos z hf
    exact wL15 u2 H locs ls hw (lv_sub hl [0] rfl) hf
  · have hf := it_neg z hf
    refine lv_iload_n hx hb dX10_ring_8 rfl (lv_at hl 2 rfl) ?_
    obtain ⟨r9, u8, h7, hf⟩ := ob_some hf
    refine endI okM hw (runS_ok (As := [.int a2]) (rest := []) okM hc hw (c_X10_isBidder l ev a2 u2 h7 H.size) ks_X10_isBidder ml_X10_166 hl.1 rfl rfl (Nat.le_of_ble_eq_true rfl) (rm_le (by decide) (by decide)) dX10_ring_9) (fun H locs hw => ?_)
    refine lv_if_ne (tgt := 21) hx hb dX10_ring_12 (by decide) (fun z => ?_) (fun z => ?_)
    · have hf := it_neg z hf
      refine lv_aload_n hx hb dX10_ring_21 rfl (lv_at hl 0 rfl) ?_
      refine gM0_4 hc hw fl_X10_20 dX10_ring_22 ?_
      refine lv_bipush (v := (8 : Int32)) hx hb dX10_ring_25 (by decide) ?_
      refine lv_iload_n hx hb dX10_ring_27 rfl (lv_at hl 1 rfl) ?_
      refine lv_imul hx hb dX10_ring_28 ?_
      refine lv_iload_n hx hb dX10_ring_29 rfl (lv_at hl 2 rfl) ?_
      refine lv_iadd hx hb dX10_ring_30 ?_
      obtain ⟨z, hf⟩ := oi_some hf
      refine aM2 hc hw z dX10_ring_31 ?_
      refine lv_if_ne (tgt := 42) hx hb dX10_ring_32 (by decide) (fun z => ?_) (fun z => ?_)
      · have hf := it_neg z hf
        refine lv_iconst (v := (0 : Int32)) hx hb dX10_ring_42 (by decide) ?_
        refine lv_istore_n (lv' := [(3, .int (0 : Int32)), (0, .ref (ev.2.1 0)), (1, .int a1), (2, .int a2)]) hx hb dX10_ring_43 rfl hl (by decide) rfl (fun ls hl => ?_)
        exact wL44 FU a1 a2 (0 : Int32) u8 H locs ls hw (lv_sub hl [1, 2, 3, 0] rfl) hf
      · have hf := it_pos z hf
        refine lv_aload_n hx hb dX10_ring_35 rfl (lv_at hl 0 rfl) ?_
        refine lv_bipush (v := (-5 : Int32)) hx hb dX10_ring_36 (by decide) ?_
        obtain ⟨r20, u19, h18, hf⟩ := ob_some hf
        refine endI okM hw (runV_ok (As := [.int (-5 : Int32)]) (rest := []) okM hc hw (c_X10_refuse l ev (-5 : Int32) u8 h18 H.size) kv_X10_refuse ml_X10_151 (rvM0 ev u8) hl.1 rfl rfl (Nat.le_of_ble_eq_true rfl) (rm_le (by decide) (by decide)) dX10_ring_38) (fun H locs hw => ?_)
        exact retI hc hr hlk hw hf dX10_ring_41
    · have hf := it_pos z hf
      exact wL15 u8 H locs ls hw (lv_sub hl [0] rfl) hf
def b_X10_memberOf_L2 (k2 : Int32 → Int32 → SS → Option (Int32 × SS)) (b1 : Int32) (b2 : Int32) (u : SS) : Option (Int32 × SS) :=
  if (gI u 26) ≤ b2 then (some ((-1 : Int32), u)) else (oi b2 8 (if (gA u 32 b2.toNatClampNeg) = b1 then (some (b2, u)) else (lt (b2 + (1 : Int32)) fun x1 => k2 b1 x1 u)))
def f_X10_memberOf_L2 : Nat → Int32 → Int32 → SS → Option (Int32 × SS)
  | 0 => fun _ _ _ => none
  | n + 1 => b_X10_memberOf_L2 (f_X10_memberOf_L2 n)
def f_X10_memberOf (a1 : Int32) (u : SS) : Option (Int32 × SS) :=
  f_X10_memberOf_L2 FU a1 (0 : Int32) u
set_option maxHeartbeats 4000000 in
set_option maxRecDepth 100000 in
theorem c_X10_memberOf (l : Launch) (ev : EV) (a1 : Int32) (u : SS) {r : Int32} {u' : SS} (hf : f_X10_memberOf a1 u = some (r, u')) : MI wdM l yX10_memberOf cX10_memberOf 3 (some .int) 0 ev [.ref (ev.2.1 0), .int a1] u r u' := by
  refine bodyI (by decide +kernel) rfl (Nat.le_of_ble_eq_true rfl) ?_
  intro p e s m below meth cd ls H locs hc hr hlk hw hl
  generalize hav : (List.toArray [.ref (ev.2.1 0), .int a1] : Array Value) = av at hc ⊢
  obtain ⟨hx, hb, hml, hown, hts, hK, hZ⟩ := id hc
  have hl : lv_has ls 3 [(0, .ref (ev.2.1 0)), (1, .int a1)] := hl
  have wL2 : ∀ (n : Nat) (b1 : Int32) (b2 : Int32) (u : SS) (H : Heap) (locs : List Loc) (ls : Array Slot), VW wdM ev s u H locs → lv_has ls 3 [(0, .ref (ev.2.1 0)), (1, .int b1), (2, .int b2)] → f_X10_memberOf_L2 n b1 b2 u = some (r, u') → W p l e (rmk 0) s m av below meth cd H locs 0 0 (ZI wdM ev s below av r u') (F0 m 2 ls []) := by
    intro n
    induction n with
    | zero =>
      intro b1 b2 u H locs ls hw hl hf
      cases hf
    | succ n hk2 =>
      intro b1 b2 u H locs ls hw hl hf
      have hf : b_X10_memberOf_L2 (f_X10_memberOf_L2 n) b1 b2 u = some (r, u') := hf
      unfold b_X10_memberOf_L2 at hf
      refine lv_iload_n hx hb dX10_memberOf_2 rfl (lv_at hl 2 rfl) ?_
      refine lv_aload_n hx hb dX10_memberOf_3 rfl (lv_at hl 0 rfl) ?_
      refine gM0_64 hc hw fl_X10_394 dX10_memberOf_4 ?_
      refine lv_icmp_ge (tgt := 28) hx hb dX10_memberOf_7 (by decide) (fun z => ?_) (fun z => ?_)
      · have hf := it_pos z hf
        refine lv_iconst (v := (-1 : Int32)) hx hb dX10_memberOf_28 (by decide) ?_
        exact retI hc hr hlk hw hf dX10_memberOf_29
      · have hf := it_neg z hf
        refine lv_aload_n hx hb dX10_memberOf_10 rfl (lv_at hl 0 rfl) ?_
        refine gM0_65 hc hw fl_X10_127 dX10_memberOf_11 ?_
        refine lv_iload_n hx hb dX10_memberOf_14 rfl (lv_at hl 2 rfl) ?_
        obtain ⟨z, hf⟩ := oi_some hf
        refine aM37 hc hw z dX10_memberOf_15 ?_
        refine lv_iload_n hx hb dX10_memberOf_16 rfl (lv_at hl 1 rfl) ?_
        refine lv_icmp_ne (tgt := 22) hx hb dX10_memberOf_17 (by decide) (fun z => ?_) (fun z => ?_)
        · have hf := it_neg z hf
          obtain ⟨x1, ex1, hf⟩ := lt_some hf
          refine lv_iinc (v := x1) (lv' := [(2, .int x1), (0, .ref (ev.2.1 0)), (1, .int b1)]) hx hb dX10_memberOf_22 hl (k := 2) rfl (by rw [ex1]; rfl) (by decide) rfl (fun ls hl => ?_)
          refine lv_goto (tgt := 2) hx hb dX10_memberOf_25 (by decide) ?_
          exact hk2 b1 x1 u H locs ls hw (lv_sub hl [1, 2, 0] rfl) hf
        · have hf := it_pos z hf
          refine lv_iload_n hx hb dX10_memberOf_20 rfl (lv_at hl 2 rfl) ?_
          exact retI hc hr hlk hw hf dX10_memberOf_21
  unfold f_X10_memberOf at hf
  refine lv_iconst (v := (0 : Int32)) hx hb dX10_memberOf_0 (by decide) ?_
  refine lv_istore_n (lv' := [(2, .int (0 : Int32)), (0, .ref (ev.2.1 0)), (1, .int a1)]) hx hb dX10_memberOf_1 rfl hl (by decide) rfl (fun ls hl => ?_)
  exact wL2 FU a1 (0 : Int32) u H locs ls hw (lv_sub hl [1, 2, 0] rfl) hf
def f_X10_join (a1 : Int32) (a2 : Int32) (u : SS) : Option (Int32 × SS) :=
  ob (f_X10_isBidder a1 u) fun r3 u2 => if r3 = 0 then (ob (f_X10_refuse (-1 : Int32) u2) fun r21 u20 => some (r21, u20)) else (ob (f_X10_memberOf a1 u2) fun r6 u5 => if r6 < 0 then (if (1 : Int32) ≤ a2 then (if a2 ≤ (999 : Int32) then (oi (gI u5 26) 8 (lt (tA u5 32 (gI u5 26) a1) fun u7 => oi (gI u7 26) 8 (lt (tA u7 33 (gI u7 26) a2) fun u8 => lt (sI u8 26 ((gI u8 26) + (1 : Int32))) fun u9 => some ((gI u9 26), u9)))) else (ob (f_X10_refuse (-6 : Int32) u5) fun r12 u11 => some (r12, u11))) else (ob (f_X10_refuse (-4 : Int32) u5) fun r15 u14 => some (r15, u14))) else (ob (f_X10_refuse (-3 : Int32) u5) fun r18 u17 => some (r18, u17)))
set_option maxHeartbeats 4000000 in
set_option maxRecDepth 100000 in
theorem c_X10_join (l : Launch) (ev : EV) (a1 : Int32) (a2 : Int32) (u : SS) {r : Int32} {u' : SS} (hf : f_X10_join a1 a2 u = some (r, u')) : MI wdM l yX10_join cX10_join 3 (some .int) 2 ev [.ref (ev.2.1 0), .int a1, .int a2] u r u' := by
  refine bodyI (by decide +kernel) rfl (Nat.le_of_ble_eq_true rfl) ?_
  intro p e s m below meth cd ls H locs hc hr hlk hw hl
  generalize hav : (List.toArray [.ref (ev.2.1 0), .int a1, .int a2] : Array Value) = av at hc ⊢
  obtain ⟨hx, hb, hml, hown, hts, hK, hZ⟩ := id hc
  have hl : lv_has ls 3 [(0, .ref (ev.2.1 0)), (1, .int a1), (2, .int a2)] := hl
  unfold f_X10_join at hf
  refine lv_iload_n hx hb dX10_join_0 rfl (lv_at hl 1 rfl) ?_
  obtain ⟨r3, u2, h1, hf⟩ := ob_some hf
  refine endI okM hw (runS_ok (As := [.int a1]) (rest := []) okM hc hw (c_X10_isBidder l ev a1 u h1 H.size) ks_X10_isBidder ml_X10_166 hl.1 rfl rfl (Nat.le_of_ble_eq_true rfl) (rm_le (by decide) (by decide)) dX10_join_1) (fun H locs hw => ?_)
  refine lv_if_ne (tgt := 13) hx hb dX10_join_4 (by decide) (fun z => ?_) (fun z => ?_)
  · have hf := it_neg z hf
    refine lv_aload_n hx hb dX10_join_13 rfl (lv_at hl 0 rfl) ?_
    refine lv_iload_n hx hb dX10_join_14 rfl (lv_at hl 1 rfl) ?_
    obtain ⟨r6, u5, h4, hf⟩ := ob_some hf
    refine endI okM hw (runV_ok (As := [.int a1]) (rest := []) okM hc hw (c_X10_memberOf l ev a1 u2 h4 H.size) kv_X10_memberOf ml_X10_397 (rvM0 ev u2) hl.1 rfl rfl (Nat.le_of_ble_eq_true rfl) (rm_le (by decide) (by decide)) dX10_join_15) (fun H locs hw => ?_)
    refine lv_if_lt (tgt := 28) hx hb dX10_join_18 (by decide) (fun z => ?_) (fun z => ?_)
    · have hf := it_pos z hf
      refine lv_iload_n hx hb dX10_join_28 rfl (lv_at hl 2 rfl) ?_
      refine lv_iconst (v := (1 : Int32)) hx hb dX10_join_29 (by decide) ?_
      refine lv_icmp_ge (tgt := 40) hx hb dX10_join_30 (by decide) (fun z => ?_) (fun z => ?_)
      · have hf := it_pos z hf
        refine lv_iload_n hx hb dX10_join_40 rfl (lv_at hl 2 rfl) ?_
        refine lv_sipush (v := (999 : Int32)) hx hb dX10_join_41 (by decide) ?_
        refine lv_icmp_le (tgt := 54) hx hb dX10_join_44 (by decide) (fun z => ?_) (fun z => ?_)
        · have hf := it_pos z hf
          refine lv_aload_n hx hb dX10_join_54 rfl (lv_at hl 0 rfl) ?_
          refine gM0_65 hc hw fl_X10_127 dX10_join_55 ?_
          refine lv_aload_n hx hb dX10_join_58 rfl (lv_at hl 0 rfl) ?_
          refine gM0_64 hc hw fl_X10_394 dX10_join_59 ?_
          refine lv_iload_n hx hb dX10_join_62 rfl (lv_at hl 1 rfl) ?_
          obtain ⟨z, hf⟩ := oi_some hf
          refine tM37 hc hw z dX10_join_63 (fun H locs hw => ?_)
          obtain ⟨u7, eu7, hf⟩ := lt_some hf
          have hw := VW.nm eu7 hw
          refine lv_aload_n hx hb dX10_join_64 rfl (lv_at hl 0 rfl) ?_
          refine gM0_66 hc hw fl_X10_130 dX10_join_65 ?_
          refine lv_aload_n hx hb dX10_join_68 rfl (lv_at hl 0 rfl) ?_
          refine gM0_64 hc hw fl_X10_394 dX10_join_69 ?_
          refine lv_iload_n hx hb dX10_join_72 rfl (lv_at hl 2 rfl) ?_
          obtain ⟨z, hf⟩ := oi_some hf
          refine tM38 hc hw z dX10_join_73 (fun H locs hw => ?_)
          obtain ⟨u8, eu8, hf⟩ := lt_some hf
          have hw := VW.nm eu8 hw
          refine lv_aload_n hx hb dX10_join_74 rfl (lv_at hl 0 rfl) ?_
          refine lv_dup hx hb dX10_join_75 rfl ?_
          refine gM0_64 hc hw fl_X10_394 dX10_join_76 ?_
          refine lv_iconst (v := (1 : Int32)) hx hb dX10_join_79 (by decide) ?_
          refine lv_iadd hx hb dX10_join_80 ?_
          refine pM0_64 hc hw fl_X10_394 dX10_join_81 (fun H locs hw => ?_)
          obtain ⟨u9, eu9, hf⟩ := lt_some hf
          have hw := VW.nm eu9 hw
          refine lv_aload_n hx hb dX10_join_84 rfl (lv_at hl 0 rfl) ?_
          refine gM0_64 hc hw fl_X10_394 dX10_join_85 ?_
          exact retI hc hr hlk hw hf dX10_join_88
        · have hf := it_neg z hf
          refine lv_aload_n hx hb dX10_join_47 rfl (lv_at hl 0 rfl) ?_
          refine lv_bipush (v := (-6 : Int32)) hx hb dX10_join_48 (by decide) ?_
          obtain ⟨r12, u11, h10, hf⟩ := ob_some hf
          refine endI okM hw (runV_ok (As := [.int (-6 : Int32)]) (rest := []) okM hc hw (c_X10_refuse l ev (-6 : Int32) u5 h10 H.size) kv_X10_refuse ml_X10_151 (rvM0 ev u5) hl.1 rfl rfl (Nat.le_of_ble_eq_true rfl) (rm_le (by decide) (by decide)) dX10_join_50) (fun H locs hw => ?_)
          exact retI hc hr hlk hw hf dX10_join_53
      · have hf := it_neg z hf
        refine lv_aload_n hx hb dX10_join_33 rfl (lv_at hl 0 rfl) ?_
        refine lv_bipush (v := (-4 : Int32)) hx hb dX10_join_34 (by decide) ?_
        obtain ⟨r15, u14, h13, hf⟩ := ob_some hf
        refine endI okM hw (runV_ok (As := [.int (-4 : Int32)]) (rest := []) okM hc hw (c_X10_refuse l ev (-4 : Int32) u5 h13 H.size) kv_X10_refuse ml_X10_151 (rvM0 ev u5) hl.1 rfl rfl (Nat.le_of_ble_eq_true rfl) (rm_le (by decide) (by decide)) dX10_join_36) (fun H locs hw => ?_)
        exact retI hc hr hlk hw hf dX10_join_39
    · have hf := it_neg z hf
      refine lv_aload_n hx hb dX10_join_21 rfl (lv_at hl 0 rfl) ?_
      refine lv_bipush (v := (-3 : Int32)) hx hb dX10_join_22 (by decide) ?_
      obtain ⟨r18, u17, h16, hf⟩ := ob_some hf
      refine endI okM hw (runV_ok (As := [.int (-3 : Int32)]) (rest := []) okM hc hw (c_X10_refuse l ev (-3 : Int32) u5 h16 H.size) kv_X10_refuse ml_X10_151 (rvM0 ev u5) hl.1 rfl rfl (Nat.le_of_ble_eq_true rfl) (rm_le (by decide) (by decide)) dX10_join_24) (fun H locs hw => ?_)
      exact retI hc hr hlk hw hf dX10_join_27
  · have hf := it_pos z hf
    refine lv_aload_n hx hb dX10_join_7 rfl (lv_at hl 0 rfl) ?_
    refine lv_iconst (v := (-1 : Int32)) hx hb dX10_join_8 (by decide) ?_
    obtain ⟨r21, u20, h19, hf⟩ := ob_some hf
    refine endI okM hw (runV_ok (As := [.int (-1 : Int32)]) (rest := []) okM hc hw (c_X10_refuse l ev (-1 : Int32) u2 h19 H.size) kv_X10_refuse ml_X10_151 (rvM0 ev u2) hl.1 rfl rfl (Nat.le_of_ble_eq_true rfl) (rm_le (by decide) (by decide)) dX10_join_9) (fun H locs hw => ?_)
    exact retI hc hr hlk hw hf dX10_join_12
def f_X10_call_L90 (b1 : Int32) (u : SS) : Option (Int32 × SS) :=
  if 0 ≤ (gI u 28) then (lt (sI u 29 (gI u 28)) fun u3 => lt (sI u3 27 (gI u3 28)) fun u4 => oi (gI u4 28) 8 (oi (gI u4 28) 8 (lt (tA u4 33 (gI u4 28) ((gA u4 33 (gI u4 28).toNatClampNeg) - b1)) fun u5 => oi (gI u5 28) 8 (some ((gA u5 32 (gI u5 28).toNatClampNeg), u5))))) else (some ((-9 : Int32), u))
def f_X10_call_L81 (k38 : Int32 → Int32 → SS → Option (Int32 × SS)) (b1 : Int32) (b2 : Int32) (q0 : Int32) (u : SS) : Option (Int32 × SS) :=
  lt (sI u 28 q0) fun u7 => lt (b2 + (1 : Int32)) fun x8 => k38 b1 x8 u7
def b_X10_call_L38 (k38 : Int32 → Int32 → SS → Option (Int32 × SS)) (b1 : Int32) (b2 : Int32) (u : SS) : Option (Int32 × SS) :=
  if (gI u 26) < b2 then (f_X10_call_L90 b1 u) else (if 0 ≤ (gI u 28) then (f_X10_call_L90 b1 u) else (if (gI u 26) = 0 then none else lt (((gI u 27) + b2) - ((gI u 27) + b2) / (gI u 26) * (gI u 26)) fun x6 => oi x6 8 (if (gA u 33 x6.toNatClampNeg) < b1 then (f_X10_call_L81 k38 b1 b2 (-1 : Int32) u) else (f_X10_call_L81 k38 b1 b2 x6 u))))
def f_X10_call_L38 : Nat → Int32 → Int32 → SS → Option (Int32 × SS)
  | 0 => fun _ _ _ => none
  | n + 1 => b_X10_call_L38 (f_X10_call_L38 n)
def f_X10_call (a1 : Int32) (u : SS) : Option (Int32 × SS) :=
  if (1 : Int32) ≤ a1 then (if a1 ≤ (999 : Int32) then (lt (sI u 28 (-1 : Int32)) fun u1 => lt (sI u1 30 a1) fun u2 => f_X10_call_L38 FU a1 (1 : Int32) u2) else (ob (f_X10_refuse (-6 : Int32) u) fun r11 u10 => some (r11, u10))) else (ob (f_X10_refuse (-4 : Int32) u) fun r14 u13 => some (r14, u13))
set_option maxHeartbeats 4000000 in
set_option maxRecDepth 100000 in
theorem c_X10_call (l : Launch) (ev : EV) (a1 : Int32) (u : SS) {r : Int32} {u' : SS} (hf : f_X10_call a1 u = some (r, u')) : MI wdM l yX10_call cX10_call 4 (some .int) 1 ev [.ref (ev.2.1 0), .int a1] u r u' := by
  refine bodyI (by decide +kernel) rfl (Nat.le_of_ble_eq_true rfl) ?_
  intro p e s m below meth cd ls H locs hc hr hlk hw hl
  generalize hav : (List.toArray [.ref (ev.2.1 0), .int a1] : Array Value) = av at hc ⊢
  obtain ⟨hx, hb, hml, hown, hts, hK, hZ⟩ := id hc
  have hl : lv_has ls 4 [(0, .ref (ev.2.1 0)), (1, .int a1)] := hl
  have wL90 : ∀ (b1 : Int32) (u : SS) (H : Heap) (locs : List Loc) (ls : Array Slot), VW wdM ev s u H locs → lv_has ls 4 [(0, .ref (ev.2.1 0)), (1, .int b1)] → f_X10_call_L90 b1 u = some (r, u') → W p l e (rmk 1) s m av below meth cd H locs 0 0 (ZI wdM ev s below av r u') (F0 m 90 ls []) := by
    intro b1 u H locs ls hw hl hf
    unfold f_X10_call_L90 at hf
    refine lv_aload_n hx hb dX10_call_90 rfl (lv_at hl 0 rfl) ?_
    refine gM0_68 hc hw fl_X10_136 dX10_call_91 ?_
    refine lv_if_ge (tgt := 100) hx hb dX10_call_94 (by decide) (fun z => ?_) (fun z => ?_)
    · have hf := it_pos z hf
      refine lv_aload_n hx hb dX10_call_100 rfl (lv_at hl 0 rfl) ?_
      refine lv_aload_n hx hb dX10_call_101 rfl (lv_at hl 0 rfl) ?_
      refine gM0_68 hc hw fl_X10_136 dX10_call_102 ?_
      refine pM0_69 hc hw fl_X10_403 dX10_call_105 (fun H locs hw => ?_)
      obtain ⟨u3, eu3, hf⟩ := lt_some hf
      have hw := VW.nm eu3 hw
      refine lv_aload_n hx hb dX10_call_108 rfl (lv_at hl 0 rfl) ?_
      refine lv_aload_n hx hb dX10_call_109 rfl (lv_at hl 0 rfl) ?_
      refine gM0_68 hc hw fl_X10_136 dX10_call_110 ?_
      refine pM0_67 hc hw fl_X10_133 dX10_call_113 (fun H locs hw => ?_)
      obtain ⟨u4, eu4, hf⟩ := lt_some hf
      have hw := VW.nm eu4 hw
      refine lv_aload_n hx hb dX10_call_116 rfl (lv_at hl 0 rfl) ?_
      refine gM0_66 hc hw fl_X10_130 dX10_call_117 ?_
      refine lv_aload_n hx hb dX10_call_120 rfl (lv_at hl 0 rfl) ?_
      refine gM0_68 hc hw fl_X10_136 dX10_call_121 ?_
      refine lv_dup2_11 hx hb dX10_call_124 rfl rfl ?_
      obtain ⟨z, hf⟩ := oi_some hf
      refine aM38 hc hw z dX10_call_125 ?_
      refine lv_iload_n hx hb dX10_call_126 rfl (lv_at hl 1 rfl) ?_
      refine lv_isub hx hb dX10_call_127 ?_
      obtain ⟨z, hf⟩ := oi_some hf
      refine tM38 hc hw z dX10_call_128 (fun H locs hw => ?_)
      obtain ⟨u5, eu5, hf⟩ := lt_some hf
      have hw := VW.nm eu5 hw
      refine lv_aload_n hx hb dX10_call_129 rfl (lv_at hl 0 rfl) ?_
      refine gM0_65 hc hw fl_X10_127 dX10_call_130 ?_
      refine lv_aload_n hx hb dX10_call_133 rfl (lv_at hl 0 rfl) ?_
      refine gM0_68 hc hw fl_X10_136 dX10_call_134 ?_
      obtain ⟨z, hf⟩ := oi_some hf
      refine aM37 hc hw z dX10_call_137 ?_
      exact retI hc hr hlk hw hf dX10_call_138
    · have hf := it_neg z hf
      refine lv_bipush (v := (-9 : Int32)) hx hb dX10_call_97 (by decide) ?_
      exact retI hc hr hlk hw hf dX10_call_99
  have wL81 : ∀ (k38 : Int32 → Int32 → SS → Option (Int32 × SS)) (hk38 : ∀ (b1 : Int32) (b2 : Int32) (u : SS) (H : Heap) (locs : List Loc) (ls : Array Slot), VW wdM ev s u H locs → lv_has ls 4 [(0, .ref (ev.2.1 0)), (1, .int b1), (2, .int b2)] → k38 b1 b2 u = some (r, u') → W p l e (rmk 1) s m av below meth cd H locs 0 0 (ZI wdM ev s below av r u') (F0 m 38 ls [])) (b1 : Int32) (b2 : Int32) (q0 : Int32) (u : SS) (H : Heap) (locs : List Loc) (ls : Array Slot), VW wdM ev s u H locs → lv_has ls 4 [(0, .ref (ev.2.1 0)), (1, .int b1), (2, .int b2)] → f_X10_call_L81 k38 b1 b2 q0 u = some (r, u') → W p l e (rmk 1) s m av below meth cd H locs 0 0 (ZI wdM ev s below av r u') (F0 m 81 ls [.int q0, .ref (ev.2.1 0)]) := by
    intro k38 hk38 b1 b2 q0 u H locs ls hw hl hf
    unfold f_X10_call_L81 at hf
    refine pM0_68 hc hw fl_X10_136 dX10_call_81 (fun H locs hw => ?_)
    obtain ⟨u7, eu7, hf⟩ := lt_some hf
    have hw := VW.nm eu7 hw
    obtain ⟨x8, ex8, hf⟩ := lt_some hf
    refine lv_iinc (v := x8) (lv' := [(2, .int x8), (0, .ref (ev.2.1 0)), (1, .int b1)]) hx hb dX10_call_84 hl (k := 2) rfl (by rw [ex8]; rfl) (by decide) rfl (fun ls hl => ?_)
    refine lv_goto (tgt := 38) hx hb dX10_call_87 (by decide) ?_
    exact hk38 b1 x8 u7 H locs ls hw (lv_sub hl [1, 2, 0] rfl) hf
  have wL38 : ∀ (n : Nat) (b1 : Int32) (b2 : Int32) (u : SS) (H : Heap) (locs : List Loc) (ls : Array Slot), VW wdM ev s u H locs → lv_has ls 4 [(0, .ref (ev.2.1 0)), (1, .int b1), (2, .int b2)] → f_X10_call_L38 n b1 b2 u = some (r, u') → W p l e (rmk 1) s m av below meth cd H locs 0 0 (ZI wdM ev s below av r u') (F0 m 38 ls []) := by
    intro n
    induction n with
    | zero =>
      intro b1 b2 u H locs ls hw hl hf
      cases hf
    | succ n hk38 =>
      intro b1 b2 u H locs ls hw hl hf
      have hf : b_X10_call_L38 (f_X10_call_L38 n) b1 b2 u = some (r, u') := hf
      unfold b_X10_call_L38 at hf
      refine lv_iload_n hx hb dX10_call_38 rfl (lv_at hl 2 rfl) ?_
      refine lv_aload_n hx hb dX10_call_39 rfl (lv_at hl 0 rfl) ?_
      refine gM0_64 hc hw fl_X10_394 dX10_call_40 ?_
      refine lv_icmp_gt (tgt := 90) hx hb dX10_call_43 (by decide) (fun z => ?_) (fun z => ?_)
      · have hf := it_pos z hf
        exact wL90 b1 u H locs ls hw (lv_sub hl [0, 1] rfl) hf
      · have hf := it_neg z hf
        refine lv_aload_n hx hb dX10_call_46 rfl (lv_at hl 0 rfl) ?_
        refine gM0_68 hc hw fl_X10_136 dX10_call_47 ?_
        refine lv_if_ge (tgt := 90) hx hb dX10_call_50 (by decide) (fun z => ?_) (fun z => ?_)
        · have hf := it_pos z hf
          exact wL90 b1 u H locs ls hw (lv_sub hl [0, 1] rfl) hf
        · have hf := it_neg z hf
          refine lv_aload_n hx hb dX10_call_53 rfl (lv_at hl 0 rfl) ?_
          refine gM0_67 hc hw fl_X10_133 dX10_call_54 ?_
          refine lv_iload_n hx hb dX10_call_57 rfl (lv_at hl 2 rfl) ?_
          refine lv_iadd hx hb dX10_call_58 ?_
          refine lv_aload_n hx hb dX10_call_59 rfl (lv_at hl 0 rfl) ?_
          refine gM0_64 hc hw fl_X10_394 dX10_call_60 ?_
          obtain ⟨z, hf⟩ := it_none hf
          refine lv_irem hx hb dX10_call_63 z ?_
          obtain ⟨x6, ex6, hf⟩ := lt_some hf
          refine tope ex6 ?_
          refine lv_istore_n (lv' := [(3, .int x6), (0, .ref (ev.2.1 0)), (1, .int b1), (2, .int b2)]) hx hb dX10_call_64 rfl hl (by decide) rfl (fun ls hl => ?_)
          refine lv_aload_n hx hb dX10_call_65 rfl (lv_at hl 1 rfl) ?_
          refine lv_aload_n hx hb dX10_call_66 rfl (lv_at hl 1 rfl) ?_
          refine gM0_66 hc hw fl_X10_130 dX10_call_67 ?_
          refine lv_iload_n hx hb dX10_call_70 rfl (lv_at hl 0 rfl) ?_
          obtain ⟨z, hf⟩ := oi_some hf
          refine aM38 hc hw z dX10_call_71 ?_
          refine lv_iload_n hx hb dX10_call_72 rfl (lv_at hl 2 rfl) ?_
          refine lv_icmp_lt (tgt := 80) hx hb dX10_call_73 (by decide) (fun z => ?_) (fun z => ?_)
          · have hf := it_pos z hf
            refine lv_iconst (v := (-1 : Int32)) hx hb dX10_call_80 (by decide) ?_
            exact wL81 (f_X10_call_L38 n) hk38 b1 b2 (-1 : Int32) u H locs ls hw (lv_sub hl [1, 2, 3] rfl) hf
          · have hf := it_neg z hf
            refine lv_iload_n hx hb dX10_call_76 rfl (lv_at hl 0 rfl) ?_
            refine lv_goto (tgt := 81) hx hb dX10_call_77 (by decide) ?_
            exact wL81 (f_X10_call_L38 n) hk38 b1 b2 x6 u H locs ls hw (lv_sub hl [1, 2, 3] rfl) hf
  unfold f_X10_call at hf
  refine lv_iload_n hx hb dX10_call_0 rfl (lv_at hl 1 rfl) ?_
  refine lv_iconst (v := (1 : Int32)) hx hb dX10_call_1 (by decide) ?_
  refine lv_icmp_ge (tgt := 12) hx hb dX10_call_2 (by decide) (fun z => ?_) (fun z => ?_)
  · have hf := it_pos z hf
    refine lv_iload_n hx hb dX10_call_12 rfl (lv_at hl 1 rfl) ?_
    refine lv_sipush (v := (999 : Int32)) hx hb dX10_call_13 (by decide) ?_
    refine lv_icmp_le (tgt := 26) hx hb dX10_call_16 (by decide) (fun z => ?_) (fun z => ?_)
    · have hf := it_pos z hf
      refine lv_aload_n hx hb dX10_call_26 rfl (lv_at hl 0 rfl) ?_
      refine lv_iconst (v := (-1 : Int32)) hx hb dX10_call_27 (by decide) ?_
      refine pM0_68 hc hw fl_X10_136 dX10_call_28 (fun H locs hw => ?_)
      obtain ⟨u1, eu1, hf⟩ := lt_some hf
      have hw := VW.nm eu1 hw
      refine lv_aload_n hx hb dX10_call_31 rfl (lv_at hl 0 rfl) ?_
      refine lv_iload_n hx hb dX10_call_32 rfl (lv_at hl 1 rfl) ?_
      refine pM0_70 hc hw fl_X10_400 dX10_call_33 (fun H locs hw => ?_)
      obtain ⟨u2, eu2, hf⟩ := lt_some hf
      have hw := VW.nm eu2 hw
      refine lv_iconst (v := (1 : Int32)) hx hb dX10_call_36 (by decide) ?_
      refine lv_istore_n (lv' := [(2, .int (1 : Int32)), (0, .ref (ev.2.1 0)), (1, .int a1)]) hx hb dX10_call_37 rfl hl (by decide) rfl (fun ls hl => ?_)
      exact wL38 FU a1 (1 : Int32) u2 H locs ls hw (lv_sub hl [1, 2, 0] rfl) hf
    · have hf := it_neg z hf
      refine lv_aload_n hx hb dX10_call_19 rfl (lv_at hl 0 rfl) ?_
      refine lv_bipush (v := (-6 : Int32)) hx hb dX10_call_20 (by decide) ?_
      obtain ⟨r11, u10, h9, hf⟩ := ob_some hf
      refine endI okM hw (runV_ok (As := [.int (-6 : Int32)]) (rest := []) okM hc hw (c_X10_refuse l ev (-6 : Int32) u h9 H.size) kv_X10_refuse ml_X10_151 (rvM0 ev u) hl.1 rfl rfl (Nat.le_of_ble_eq_true rfl) (rm_le (by decide) (by decide)) dX10_call_22) (fun H locs hw => ?_)
      exact retI hc hr hlk hw hf dX10_call_25
  · have hf := it_neg z hf
    refine lv_aload_n hx hb dX10_call_5 rfl (lv_at hl 0 rfl) ?_
    refine lv_bipush (v := (-4 : Int32)) hx hb dX10_call_6 (by decide) ?_
    obtain ⟨r14, u13, h12, hf⟩ := ob_some hf
    refine endI okM hw (runV_ok (As := [.int (-4 : Int32)]) (rest := []) okM hc hw (c_X10_refuse l ev (-4 : Int32) u h12 H.size) kv_X10_refuse ml_X10_151 (rvM0 ev u) hl.1 rfl rfl (Nat.le_of_ble_eq_true rfl) (rm_le (by decide) (by decide)) dX10_call_8) (fun H locs hw => ?_)
    exact retI hc hr hlk hw hf dX10_call_11
def f_X10_decline_L105 (u : SS) : Option (Int32 × SS) :=
  if 0 ≤ (gI u 28) then (lt (sI u 27 (gI u 28)) fun u4 => oi (gI u4 28) 8 (oi (gI u4 28) 8 (lt (tA u4 33 (gI u4 28) ((gA u4 33 (gI u4 28).toNatClampNeg) - (gI u4 30))) fun u5 => oi (gI u5 28) 8 (some ((gA u5 32 (gI u5 28).toNatClampNeg), u5))))) else (some ((-9 : Int32), u))
def f_X10_decline_L96 (k42 : Int32 → Int32 → SS → Option (Int32 × SS)) (b1 : Int32) (b2 : Int32) (q0 : Int32) (u : SS) : Option (Int32 × SS) :=
  lt (sI u 28 q0) fun u7 => lt (b2 + (1 : Int32)) fun x8 => k42 b1 x8 u7
def b_X10_decline_L42 (k42 : Int32 → Int32 → SS → Option (Int32 × SS)) (b1 : Int32) (b2 : Int32) (u : SS) : Option (Int32 × SS) :=
  if (gI u 26) ≤ b2 then (f_X10_decline_L105 u) else (if 0 ≤ (gI u 28) then (f_X10_decline_L105 u) else (if (gI u 26) = 0 then none else lt ((b1 + b2) - (b1 + b2) / (gI u 26) * (gI u 26)) fun x6 => if x6 = (gI u 29) then (some ((-9 : Int32), u)) else (oi x6 8 (if (gA u 33 x6.toNatClampNeg) < (gI u 30) then (f_X10_decline_L96 k42 b1 b2 (-1 : Int32) u) else (f_X10_decline_L96 k42 b1 b2 x6 u)))))
def f_X10_decline_L42 : Nat → Int32 → Int32 → SS → Option (Int32 × SS)
  | 0 => fun _ _ _ => none
  | n + 1 => b_X10_decline_L42 (f_X10_decline_L42 n)
def f_X10_decline (u : SS) : Option (Int32 × SS) :=
  if 0 ≤ (gI u 28) then (oi (gI u 28) 8 (oi (gI u 28) 8 (lt (tA u 33 (gI u 28) ((gA u 33 (gI u 28).toNatClampNeg) + (gI u 30))) fun u1 => lt (gI u1 28) fun x2 => lt (sI u1 28 (-1 : Int32)) fun u3 => f_X10_decline_L42 FU x2 (1 : Int32) u3))) else (ob (f_X10_refuse (-3 : Int32) u) fun r11 u10 => some (r11, u10))
set_option maxHeartbeats 4000000 in
set_option maxRecDepth 100000 in
theorem c_X10_decline (l : Launch) (ev : EV) (u : SS) {r : Int32} {u' : SS} (hf : f_X10_decline  u = some (r, u')) : MI wdM l yX10_decline cX10_decline 4 (some .int) 1 ev [.ref (ev.2.1 0)] u r u' := by
  refine bodyI (by decide +kernel) rfl (Nat.le_of_ble_eq_true rfl) ?_
  intro p e s m below meth cd ls H locs hc hr hlk hw hl
  generalize hav : (List.toArray [.ref (ev.2.1 0)] : Array Value) = av at hc ⊢
  obtain ⟨hx, hb, hml, hown, hts, hK, hZ⟩ := id hc
  have hl : lv_has ls 4 [(0, .ref (ev.2.1 0))] := hl
  have wL105 : ∀ (u : SS) (H : Heap) (locs : List Loc) (ls : Array Slot), VW wdM ev s u H locs → lv_has ls 4 [(0, .ref (ev.2.1 0))] → f_X10_decline_L105  u = some (r, u') → W p l e (rmk 1) s m av below meth cd H locs 0 0 (ZI wdM ev s below av r u') (F0 m 105 ls []) := by
    intro  u H locs ls hw hl hf
    unfold f_X10_decline_L105 at hf
    refine lv_aload_n hx hb dX10_decline_105 rfl (lv_at hl 0 rfl) ?_
    refine gM0_68 hc hw fl_X10_136 dX10_decline_106 ?_
    refine lv_if_ge (tgt := 115) hx hb dX10_decline_109 (by decide) (fun z => ?_) (fun z => ?_)
    · have hf := it_pos z hf
      refine lv_aload_n hx hb dX10_decline_115 rfl (lv_at hl 0 rfl) ?_
      refine lv_aload_n hx hb dX10_decline_116 rfl (lv_at hl 0 rfl) ?_
      refine gM0_68 hc hw fl_X10_136 dX10_decline_117 ?_
      refine pM0_67 hc hw fl_X10_133 dX10_decline_120 (fun H locs hw => ?_)
      obtain ⟨u4, eu4, hf⟩ := lt_some hf
      have hw := VW.nm eu4 hw
      refine lv_aload_n hx hb dX10_decline_123 rfl (lv_at hl 0 rfl) ?_
      refine gM0_66 hc hw fl_X10_130 dX10_decline_124 ?_
      refine lv_aload_n hx hb dX10_decline_127 rfl (lv_at hl 0 rfl) ?_
      refine gM0_68 hc hw fl_X10_136 dX10_decline_128 ?_
      refine lv_dup2_11 hx hb dX10_decline_131 rfl rfl ?_
      obtain ⟨z, hf⟩ := oi_some hf
      refine aM38 hc hw z dX10_decline_132 ?_
      refine lv_aload_n hx hb dX10_decline_133 rfl (lv_at hl 0 rfl) ?_
      refine gM0_70 hc hw fl_X10_400 dX10_decline_134 ?_
      refine lv_isub hx hb dX10_decline_137 ?_
      obtain ⟨z, hf⟩ := oi_some hf
      refine tM38 hc hw z dX10_decline_138 (fun H locs hw => ?_)
      obtain ⟨u5, eu5, hf⟩ := lt_some hf
      have hw := VW.nm eu5 hw
      refine lv_aload_n hx hb dX10_decline_139 rfl (lv_at hl 0 rfl) ?_
      refine gM0_65 hc hw fl_X10_127 dX10_decline_140 ?_
      refine lv_aload_n hx hb dX10_decline_143 rfl (lv_at hl 0 rfl) ?_
      refine gM0_68 hc hw fl_X10_136 dX10_decline_144 ?_
      obtain ⟨z, hf⟩ := oi_some hf
      refine aM37 hc hw z dX10_decline_147 ?_
      exact retI hc hr hlk hw hf dX10_decline_148
    · have hf := it_neg z hf
      refine lv_bipush (v := (-9 : Int32)) hx hb dX10_decline_112 (by decide) ?_
      exact retI hc hr hlk hw hf dX10_decline_114
  have wL96 : ∀ (k42 : Int32 → Int32 → SS → Option (Int32 × SS)) (hk42 : ∀ (b1 : Int32) (b2 : Int32) (u : SS) (H : Heap) (locs : List Loc) (ls : Array Slot), VW wdM ev s u H locs → lv_has ls 4 [(0, .ref (ev.2.1 0)), (1, .int b1), (2, .int b2)] → k42 b1 b2 u = some (r, u') → W p l e (rmk 1) s m av below meth cd H locs 0 0 (ZI wdM ev s below av r u') (F0 m 42 ls [])) (b1 : Int32) (b2 : Int32) (q0 : Int32) (u : SS) (H : Heap) (locs : List Loc) (ls : Array Slot), VW wdM ev s u H locs → lv_has ls 4 [(0, .ref (ev.2.1 0)), (1, .int b1), (2, .int b2)] → f_X10_decline_L96 k42 b1 b2 q0 u = some (r, u') → W p l e (rmk 1) s m av below meth cd H locs 0 0 (ZI wdM ev s below av r u') (F0 m 96 ls [.int q0, .ref (ev.2.1 0)]) := by
    intro k42 hk42 b1 b2 q0 u H locs ls hw hl hf
    unfold f_X10_decline_L96 at hf
    refine pM0_68 hc hw fl_X10_136 dX10_decline_96 (fun H locs hw => ?_)
    obtain ⟨u7, eu7, hf⟩ := lt_some hf
    have hw := VW.nm eu7 hw
    obtain ⟨x8, ex8, hf⟩ := lt_some hf
    refine lv_iinc (v := x8) (lv' := [(2, .int x8), (0, .ref (ev.2.1 0)), (1, .int b1)]) hx hb dX10_decline_99 hl (k := 2) rfl (by rw [ex8]; rfl) (by decide) rfl (fun ls hl => ?_)
    refine lv_goto (tgt := 42) hx hb dX10_decline_102 (by decide) ?_
    exact hk42 b1 x8 u7 H locs ls hw (lv_sub hl [1, 2, 0] rfl) hf
  have wL42 : ∀ (n : Nat) (b1 : Int32) (b2 : Int32) (u : SS) (H : Heap) (locs : List Loc) (ls : Array Slot), VW wdM ev s u H locs → lv_has ls 4 [(0, .ref (ev.2.1 0)), (1, .int b1), (2, .int b2)] → f_X10_decline_L42 n b1 b2 u = some (r, u') → W p l e (rmk 1) s m av below meth cd H locs 0 0 (ZI wdM ev s below av r u') (F0 m 42 ls []) := by
    intro n
    induction n with
    | zero =>
      intro b1 b2 u H locs ls hw hl hf
      cases hf
    | succ n hk42 =>
      intro b1 b2 u H locs ls hw hl hf
      have hf : b_X10_decline_L42 (f_X10_decline_L42 n) b1 b2 u = some (r, u') := hf
      unfold b_X10_decline_L42 at hf
      refine lv_iload_n hx hb dX10_decline_42 rfl (lv_at hl 2 rfl) ?_
      refine lv_aload_n hx hb dX10_decline_43 rfl (lv_at hl 0 rfl) ?_
      refine gM0_64 hc hw fl_X10_394 dX10_decline_44 ?_
      refine lv_icmp_ge (tgt := 105) hx hb dX10_decline_47 (by decide) (fun z => ?_) (fun z => ?_)
      · have hf := it_pos z hf
        exact wL105 u H locs ls hw (lv_sub hl [0] rfl) hf
      · have hf := it_neg z hf
        refine lv_aload_n hx hb dX10_decline_50 rfl (lv_at hl 0 rfl) ?_
        refine gM0_68 hc hw fl_X10_136 dX10_decline_51 ?_
        refine lv_if_ge (tgt := 105) hx hb dX10_decline_54 (by decide) (fun z => ?_) (fun z => ?_)
        · have hf := it_pos z hf
          exact wL105 u H locs ls hw (lv_sub hl [0] rfl) hf
        · have hf := it_neg z hf
          refine lv_iload_n hx hb dX10_decline_57 rfl (lv_at hl 1 rfl) ?_
          refine lv_iload_n hx hb dX10_decline_58 rfl (lv_at hl 2 rfl) ?_
          refine lv_iadd hx hb dX10_decline_59 ?_
          refine lv_aload_n hx hb dX10_decline_60 rfl (lv_at hl 0 rfl) ?_
          refine gM0_64 hc hw fl_X10_394 dX10_decline_61 ?_
          obtain ⟨z, hf⟩ := it_none hf
          refine lv_irem hx hb dX10_decline_64 z ?_
          obtain ⟨x6, ex6, hf⟩ := lt_some hf
          refine tope ex6 ?_
          refine lv_istore_n (lv' := [(3, .int x6), (0, .ref (ev.2.1 0)), (1, .int b1), (2, .int b2)]) hx hb dX10_decline_65 rfl hl (by decide) rfl (fun ls hl => ?_)
          refine lv_iload_n hx hb dX10_decline_66 rfl (lv_at hl 0 rfl) ?_
          refine lv_aload_n hx hb dX10_decline_67 rfl (lv_at hl 1 rfl) ?_
          refine gM0_69 hc hw fl_X10_403 dX10_decline_68 ?_
          refine lv_icmp_ne (tgt := 77) hx hb dX10_decline_71 (by decide) (fun z => ?_) (fun z => ?_)
          · have hf := it_neg z hf
            refine lv_aload_n hx hb dX10_decline_77 rfl (lv_at hl 1 rfl) ?_
            refine lv_aload_n hx hb dX10_decline_78 rfl (lv_at hl 1 rfl) ?_
            refine gM0_66 hc hw fl_X10_130 dX10_decline_79 ?_
            refine lv_iload_n hx hb dX10_decline_82 rfl (lv_at hl 0 rfl) ?_
            obtain ⟨z, hf⟩ := oi_some hf
            refine aM38 hc hw z dX10_decline_83 ?_
            refine lv_aload_n hx hb dX10_decline_84 rfl (lv_at hl 1 rfl) ?_
            refine gM0_70 hc hw fl_X10_400 dX10_decline_85 ?_
            refine lv_icmp_lt (tgt := 95) hx hb dX10_decline_88 (by decide) (fun z => ?_) (fun z => ?_)
            · have hf := it_pos z hf
              refine lv_iconst (v := (-1 : Int32)) hx hb dX10_decline_95 (by decide) ?_
              exact wL96 (f_X10_decline_L42 n) hk42 b1 b2 (-1 : Int32) u H locs ls hw (lv_sub hl [1, 2, 3] rfl) hf
            · have hf := it_neg z hf
              refine lv_iload_n hx hb dX10_decline_91 rfl (lv_at hl 0 rfl) ?_
              refine lv_goto (tgt := 96) hx hb dX10_decline_92 (by decide) ?_
              exact wL96 (f_X10_decline_L42 n) hk42 b1 b2 x6 u H locs ls hw (lv_sub hl [1, 2, 3] rfl) hf
          · have hf := it_pos z hf
            refine lv_bipush (v := (-9 : Int32)) hx hb dX10_decline_74 (by decide) ?_
            exact retI hc hr hlk hw hf dX10_decline_76
  unfold f_X10_decline at hf
  refine lv_aload_n hx hb dX10_decline_0 rfl (lv_at hl 0 rfl) ?_
  refine gM0_68 hc hw fl_X10_136 dX10_decline_1 ?_
  refine lv_if_ge (tgt := 14) hx hb dX10_decline_4 (by decide) (fun z => ?_) (fun z => ?_)
  · have hf := it_pos z hf
    refine lv_aload_n hx hb dX10_decline_14 rfl (lv_at hl 0 rfl) ?_
    refine gM0_66 hc hw fl_X10_130 dX10_decline_15 ?_
    refine lv_aload_n hx hb dX10_decline_18 rfl (lv_at hl 0 rfl) ?_
    refine gM0_68 hc hw fl_X10_136 dX10_decline_19 ?_
    refine lv_dup2_11 hx hb dX10_decline_22 rfl rfl ?_
    obtain ⟨z, hf⟩ := oi_some hf
    refine aM38 hc hw z dX10_decline_23 ?_
    refine lv_aload_n hx hb dX10_decline_24 rfl (lv_at hl 0 rfl) ?_
    refine gM0_70 hc hw fl_X10_400 dX10_decline_25 ?_
    refine lv_iadd hx hb dX10_decline_28 ?_
    obtain ⟨z, hf⟩ := oi_some hf
    refine tM38 hc hw z dX10_decline_29 (fun H locs hw => ?_)
    obtain ⟨u1, eu1, hf⟩ := lt_some hf
    have hw := VW.nm eu1 hw
    refine lv_aload_n hx hb dX10_decline_30 rfl (lv_at hl 0 rfl) ?_
    refine gM0_68 hc hw fl_X10_136 dX10_decline_31 ?_
    obtain ⟨x2, ex2, hf⟩ := lt_some hf
    refine tope ex2 ?_
    refine lv_istore_n (lv' := [(1, .int x2), (0, .ref (ev.2.1 0))]) hx hb dX10_decline_34 rfl hl (by decide) rfl (fun ls hl => ?_)
    refine lv_aload_n hx hb dX10_decline_35 rfl (lv_at hl 1 rfl) ?_
    refine lv_iconst (v := (-1 : Int32)) hx hb dX10_decline_36 (by decide) ?_
    refine pM0_68 hc hw fl_X10_136 dX10_decline_37 (fun H locs hw => ?_)
    obtain ⟨u3, eu3, hf⟩ := lt_some hf
    have hw := VW.nm eu3 hw
    refine lv_iconst (v := (1 : Int32)) hx hb dX10_decline_40 (by decide) ?_
    refine lv_istore_n (lv' := [(2, .int (1 : Int32)), (1, .int x2), (0, .ref (ev.2.1 0))]) hx hb dX10_decline_41 rfl hl (by decide) rfl (fun ls hl => ?_)
    exact wL42 FU x2 (1 : Int32) u3 H locs ls hw (lv_sub hl [2, 1, 0] rfl) hf
  · have hf := it_neg z hf
    refine lv_aload_n hx hb dX10_decline_7 rfl (lv_at hl 0 rfl) ?_
    refine lv_bipush (v := (-3 : Int32)) hx hb dX10_decline_8 (by decide) ?_
    obtain ⟨r11, u10, h9, hf⟩ := ob_some hf
    refine endI okM hw (runV_ok (As := [.int (-3 : Int32)]) (rest := []) okM hc hw (c_X10_refuse l ev (-3 : Int32) u h9 H.size) kv_X10_refuse ml_X10_151 (rvM0 ev u) hl.1 rfl rfl (Nat.le_of_ble_eq_true rfl) (rm_le (by decide) (by decide)) dX10_decline_10) (fun H locs hw => ?_)
    exact retI hc hr hlk hw hf dX10_decline_13
def f_X10_room (a1 : Int32) (u : SS) : Option (Int32 × SS) :=
  ob (f_X10_isBidder a1 u) fun r3 u2 => if r3 = 0 then (ob (f_X10_refuse (-1 : Int32) u2) fun r12 u11 => some (r12, u11)) else (ob (f_X10_memberOf a1 u2) fun r6 u5 => if 0 ≤ r6 then (oi r6 8 (some ((gA u5 33 r6.toNatClampNeg), u5))) else (ob (f_X10_refuse (-3 : Int32) u5) fun r9 u8 => some (r9, u8)))
set_option maxHeartbeats 4000000 in
set_option maxRecDepth 100000 in
theorem c_X10_room (l : Launch) (ev : EV) (a1 : Int32) (u : SS) {r : Int32} {u' : SS} (hf : f_X10_room a1 u = some (r, u')) : MI wdM l yX10_room cX10_room 3 (some .int) 2 ev [.ref (ev.2.1 0), .int a1] u r u' := by
  refine bodyI (by decide +kernel) rfl (Nat.le_of_ble_eq_true rfl) ?_
  intro p e s m below meth cd ls H locs hc hr hlk hw hl
  generalize hav : (List.toArray [.ref (ev.2.1 0), .int a1] : Array Value) = av at hc ⊢
  obtain ⟨hx, hb, hml, hown, hts, hK, hZ⟩ := id hc
  have hl : lv_has ls 3 [(0, .ref (ev.2.1 0)), (1, .int a1)] := hl
  unfold f_X10_room at hf
  refine lv_iload_n hx hb dX10_room_0 rfl (lv_at hl 1 rfl) ?_
  obtain ⟨r3, u2, h1, hf⟩ := ob_some hf
  refine endI okM hw (runS_ok (As := [.int a1]) (rest := []) okM hc hw (c_X10_isBidder l ev a1 u h1 H.size) ks_X10_isBidder ml_X10_166 hl.1 rfl rfl (Nat.le_of_ble_eq_true rfl) (rm_le (by decide) (by decide)) dX10_room_1) (fun H locs hw => ?_)
  refine lv_if_ne (tgt := 13) hx hb dX10_room_4 (by decide) (fun z => ?_) (fun z => ?_)
  · have hf := it_neg z hf
    refine lv_aload_n hx hb dX10_room_13 rfl (lv_at hl 0 rfl) ?_
    refine lv_iload_n hx hb dX10_room_14 rfl (lv_at hl 1 rfl) ?_
    obtain ⟨r6, u5, h4, hf⟩ := ob_some hf
    refine endI okM hw (runV_ok (As := [.int a1]) (rest := []) okM hc hw (c_X10_memberOf l ev a1 u2 h4 H.size) kv_X10_memberOf ml_X10_397 (rvM0 ev u2) hl.1 rfl rfl (Nat.le_of_ble_eq_true rfl) (rm_le (by decide) (by decide)) dX10_room_15) (fun H locs hw => ?_)
    refine lv_istore_n (lv' := [(2, .int r6), (0, .ref (ev.2.1 0)), (1, .int a1)]) hx hb dX10_room_18 rfl hl (by decide) rfl (fun ls hl => ?_)
    refine lv_iload_n hx hb dX10_room_19 rfl (lv_at hl 0 rfl) ?_
    refine lv_if_ge (tgt := 32) hx hb dX10_room_20 (by decide) (fun z => ?_) (fun z => ?_)
    · have hf := it_pos z hf
      refine lv_aload_n hx hb dX10_room_32 rfl (lv_at hl 1 rfl) ?_
      refine gM0_66 hc hw fl_X10_130 dX10_room_33 ?_
      refine lv_iload_n hx hb dX10_room_36 rfl (lv_at hl 0 rfl) ?_
      obtain ⟨z, hf⟩ := oi_some hf
      refine aM38 hc hw z dX10_room_37 ?_
      exact retI hc hr hlk hw hf dX10_room_38
    · have hf := it_neg z hf
      refine lv_aload_n hx hb dX10_room_23 rfl (lv_at hl 1 rfl) ?_
      refine lv_bipush (v := (-3 : Int32)) hx hb dX10_room_24 (by decide) ?_
      obtain ⟨r9, u8, h7, hf⟩ := ob_some hf
      refine endI okM hw (runV_ok (As := [.int (-3 : Int32)]) (rest := []) okM hc hw (c_X10_refuse l ev (-3 : Int32) u5 h7 H.size) kv_X10_refuse ml_X10_151 (rvM0 ev u5) hl.1 rfl rfl (Nat.le_of_ble_eq_true rfl) (rm_le (by decide) (by decide)) dX10_room_26) (fun H locs hw => ?_)
      refine lv_goto (tgt := 38) hx hb dX10_room_29 (by decide) ?_
      exact retI hc hr hlk hw hf dX10_room_38
  · have hf := it_pos z hf
    refine lv_aload_n hx hb dX10_room_7 rfl (lv_at hl 0 rfl) ?_
    refine lv_iconst (v := (-1 : Int32)) hx hb dX10_room_8 (by decide) ?_
    obtain ⟨r12, u11, h10, hf⟩ := ob_some hf
    refine endI okM hw (runV_ok (As := [.int (-1 : Int32)]) (rest := []) okM hc hw (c_X10_refuse l ev (-1 : Int32) u2 h10 H.size) kv_X10_refuse ml_X10_151 (rvM0 ev u2) hl.1 rfl rfl (Nat.le_of_ble_eq_true rfl) (rm_le (by decide) (by decide)) dX10_room_9) (fun H locs hw => ?_)
    exact retI hc hr hlk hw hf dX10_room_12
def f_X10_count_L110 (k68 : Int32 → Int32 → Int32 → SS → Option (Int32 × SS)) (b1 : Int32) (b3 : Int32) (q0 : Int32) (q1 : Int32) (u : SS) : Option (Int32 × SS) :=
  lt (q1 + q0) fun x7 => lt (b3 + (1 : Int32)) fun x8 => k68 b1 x7 x8 u
def f_X10_count_L109 (k68 : Int32 → Int32 → Int32 → SS → Option (Int32 × SS)) (b1 : Int32) (b3 : Int32) (q0 : Int32) (u : SS) : Option (Int32 × SS) :=
  f_X10_count_L110 k68 b1 b3 (0 : Int32) q0 u
def f_X10_count_L105 (k68 : Int32 → Int32 → Int32 → SS → Option (Int32 × SS)) (b1 : Int32) (b3 : Int32) (q0 : Int32) (u : SS) : Option (Int32 × SS) :=
  f_X10_count_L110 k68 b1 b3 (1 : Int32) q0 u
def b_X10_count_L68 (k68 : Int32 → Int32 → Int32 → SS → Option (Int32 × SS)) (b1 : Int32) (b2 : Int32) (b3 : Int32) (u : SS) : Option (Int32 × SS) :=
  if ((8 : Int32) * (gI u 2)) ≤ b3 then (some (b2, u)) else (if b1 = (2 : Int32) then (oi b3 48 (if (gA u 1 b3.toNatClampNeg) = 0 then (f_X10_count_L109 k68 b1 b3 b2 u) else (f_X10_count_L105 k68 b1 b3 b2 u))) else (ob (f_X10_doesStand b3 u) fun r6 u5 => if r6 = 0 then (f_X10_count_L109 k68 b1 b3 b2 u5) else (f_X10_count_L105 k68 b1 b3 b2 u5)))
def f_X10_count_L68 : Nat → Int32 → Int32 → Int32 → SS → Option (Int32 × SS)
  | 0 => fun _ _ _ _ => none
  | n + 1 => b_X10_count_L68 (f_X10_count_L68 n)
def f_X10_count (a1 : Int32) (u : SS) : Option (Int32 × SS) :=
  if a1.toInt < 0 ∨ 9 < a1.toInt then (ob (f_X10_in a1 (11 : Int32) (17 : Int32) u) fun r3 u2 => if r3 = 0 then (some ((-9 : Int32), u2)) else (oi (a1 - (10 : Int32)) 8 (some ((gA u2 11 (a1 - (10 : Int32)).toNatClampNeg), u2)))) else if a1 = (0 : Int32) then (some ((gI u 0), u)) else if a1 = (1 : Int32) then (some ((gI u 2), u)) else if a1 = (2 : Int32) then (f_X10_count_L68 FU a1 (0 : Int32) (0 : Int32) u) else if a1 = (3 : Int32) then (f_X10_count_L68 FU a1 (0 : Int32) (0 : Int32) u) else if a1 = (4 : Int32) then (some ((gI u 3), u)) else if a1 = (5 : Int32) then (ob (f_X10_isOpen u) fun r11 u10 => if r11 = 0 then (some ((0 : Int32), u10)) else (some ((1 : Int32), u10))) else if a1 = (6 : Int32) then (if (gI u 22) = 0 then (some ((0 : Int32), u)) else (some ((1 : Int32), u))) else if a1 = (7 : Int32) then (if (gI u 23) = 0 then (some ((0 : Int32), u)) else (some ((1 : Int32), u))) else if a1 = (8 : Int32) then (ob (f_X10_holding u) fun r14 u13 => some (r14, u13)) else if a1 = (9 : Int32) then (some ((gI u 6), u)) else none
set_option maxHeartbeats 4000000 in
set_option maxRecDepth 100000 in
theorem c_X10_count (l : Launch) (ev : EV) (a1 : Int32) (u : SS) {r : Int32} {u' : SS} (hf : f_X10_count a1 u = some (r, u')) : MI wdM l yX10_count cX10_count 4 (some .int) 2 ev [.ref (ev.2.1 0), .int a1] u r u' := by
  refine bodyI (by decide +kernel) rfl (Nat.le_of_ble_eq_true rfl) ?_
  intro p e s m below meth cd ls H locs hc hr hlk hw hl
  generalize hav : (List.toArray [.ref (ev.2.1 0), .int a1] : Array Value) = av at hc ⊢
  obtain ⟨hx, hb, hml, hown, hts, hK, hZ⟩ := id hc
  have hl : lv_has ls 4 [(0, .ref (ev.2.1 0)), (1, .int a1)] := hl
  have wL110 : ∀ (k68 : Int32 → Int32 → Int32 → SS → Option (Int32 × SS)) (hk68 : ∀ (b1 : Int32) (b2 : Int32) (b3 : Int32) (u : SS) (H : Heap) (locs : List Loc) (ls : Array Slot), VW wdM ev s u H locs → lv_has ls 4 [(0, .ref (ev.2.1 0)), (1, .int b1), (2, .int b2), (3, .int b3)] → k68 b1 b2 b3 u = some (r, u') → W p l e (rmk 2) s m av below meth cd H locs 0 0 (ZI wdM ev s below av r u') (F0 m 68 ls [])) (b1 : Int32) (b3 : Int32) (q0 : Int32) (q1 : Int32) (u : SS) (H : Heap) (locs : List Loc) (ls : Array Slot), VW wdM ev s u H locs → lv_has ls 4 [(0, .ref (ev.2.1 0)), (1, .int b1), (3, .int b3)] → f_X10_count_L110 k68 b1 b3 q0 q1 u = some (r, u') → W p l e (rmk 2) s m av below meth cd H locs 0 0 (ZI wdM ev s below av r u') (F0 m 110 ls [.int q0, .int q1]) := by
    intro k68 hk68 b1 b3 q0 q1 u H locs ls hw hl hf
    unfold f_X10_count_L110 at hf
    refine lv_iadd hx hb dX10_count_110 ?_
    obtain ⟨x7, ex7, hf⟩ := lt_some hf
    refine tope ex7 ?_
    refine lv_istore_n (lv' := [(2, .int x7), (0, .ref (ev.2.1 0)), (1, .int b1), (3, .int b3)]) hx hb dX10_count_111 rfl hl (by decide) rfl (fun ls hl => ?_)
    obtain ⟨x8, ex8, hf⟩ := lt_some hf
    refine lv_iinc (v := x8) (lv' := [(3, .int x8), (2, .int x7), (0, .ref (ev.2.1 0)), (1, .int b1)]) hx hb dX10_count_112 hl (k := 3) rfl (by rw [ex8]; rfl) (by decide) rfl (fun ls hl => ?_)
    refine lv_goto (tgt := 68) hx hb dX10_count_115 (by decide) ?_
    exact hk68 b1 x7 x8 u H locs ls hw (lv_sub hl [2, 3, 1, 0] rfl) hf
  have wL109 : ∀ (k68 : Int32 → Int32 → Int32 → SS → Option (Int32 × SS)) (hk68 : ∀ (b1 : Int32) (b2 : Int32) (b3 : Int32) (u : SS) (H : Heap) (locs : List Loc) (ls : Array Slot), VW wdM ev s u H locs → lv_has ls 4 [(0, .ref (ev.2.1 0)), (1, .int b1), (2, .int b2), (3, .int b3)] → k68 b1 b2 b3 u = some (r, u') → W p l e (rmk 2) s m av below meth cd H locs 0 0 (ZI wdM ev s below av r u') (F0 m 68 ls [])) (b1 : Int32) (b3 : Int32) (q0 : Int32) (u : SS) (H : Heap) (locs : List Loc) (ls : Array Slot), VW wdM ev s u H locs → lv_has ls 4 [(0, .ref (ev.2.1 0)), (1, .int b1), (3, .int b3)] → f_X10_count_L109 k68 b1 b3 q0 u = some (r, u') → W p l e (rmk 2) s m av below meth cd H locs 0 0 (ZI wdM ev s below av r u') (F0 m 109 ls [.int q0]) := by
    intro k68 hk68 b1 b3 q0 u H locs ls hw hl hf
    unfold f_X10_count_L109 at hf
    refine lv_iconst (v := (0 : Int32)) hx hb dX10_count_109 (by decide) ?_
    exact wL110 k68 hk68 b1 b3 (0 : Int32) q0 u H locs ls hw (lv_sub hl [0, 1, 2] rfl) hf
  have wL105 : ∀ (k68 : Int32 → Int32 → Int32 → SS → Option (Int32 × SS)) (hk68 : ∀ (b1 : Int32) (b2 : Int32) (b3 : Int32) (u : SS) (H : Heap) (locs : List Loc) (ls : Array Slot), VW wdM ev s u H locs → lv_has ls 4 [(0, .ref (ev.2.1 0)), (1, .int b1), (2, .int b2), (3, .int b3)] → k68 b1 b2 b3 u = some (r, u') → W p l e (rmk 2) s m av below meth cd H locs 0 0 (ZI wdM ev s below av r u') (F0 m 68 ls [])) (b1 : Int32) (b3 : Int32) (q0 : Int32) (u : SS) (H : Heap) (locs : List Loc) (ls : Array Slot), VW wdM ev s u H locs → lv_has ls 4 [(0, .ref (ev.2.1 0)), (1, .int b1), (3, .int b3)] → f_X10_count_L105 k68 b1 b3 q0 u = some (r, u') → W p l e (rmk 2) s m av below meth cd H locs 0 0 (ZI wdM ev s below av r u') (F0 m 105 ls [.int q0]) := by
    intro k68 hk68 b1 b3 q0 u H locs ls hw hl hf
    unfold f_X10_count_L105 at hf
    refine lv_iconst (v := (1 : Int32)) hx hb dX10_count_105 (by decide) ?_
    refine lv_goto (tgt := 110) hx hb dX10_count_106 (by decide) ?_
    exact wL110 k68 hk68 b1 b3 (1 : Int32) q0 u H locs ls hw (lv_sub hl [0, 1, 2] rfl) hf
  have wL68 : ∀ (n : Nat) (b1 : Int32) (b2 : Int32) (b3 : Int32) (u : SS) (H : Heap) (locs : List Loc) (ls : Array Slot), VW wdM ev s u H locs → lv_has ls 4 [(0, .ref (ev.2.1 0)), (1, .int b1), (2, .int b2), (3, .int b3)] → f_X10_count_L68 n b1 b2 b3 u = some (r, u') → W p l e (rmk 2) s m av below meth cd H locs 0 0 (ZI wdM ev s below av r u') (F0 m 68 ls []) := by
    intro n
    induction n with
    | zero =>
      intro b1 b2 b3 u H locs ls hw hl hf
      cases hf
    | succ n hk68 =>
      intro b1 b2 b3 u H locs ls hw hl hf
      have hf : b_X10_count_L68 (f_X10_count_L68 n) b1 b2 b3 u = some (r, u') := hf
      unfold b_X10_count_L68 at hf
      refine lv_iload_n hx hb dX10_count_68 rfl (lv_at hl 3 rfl) ?_
      refine lv_bipush (v := (8 : Int32)) hx hb dX10_count_69 (by decide) ?_
      refine lv_aload_n hx hb dX10_count_71 rfl (lv_at hl 0 rfl) ?_
      refine gM0_3 hc hw fl_X10_17 dX10_count_72 ?_
      refine lv_imul hx hb dX10_count_75 ?_
      refine lv_icmp_ge (tgt := 118) hx hb dX10_count_76 (by decide) (fun z => ?_) (fun z => ?_)
      · have hf := it_pos z hf
        refine lv_iload_n hx hb dX10_count_118 rfl (lv_at hl 2 rfl) ?_
        exact retI hc hr hlk hw hf dX10_count_119
      · have hf := it_neg z hf
        refine lv_iload_n hx hb dX10_count_79 rfl (lv_at hl 2 rfl) ?_
        refine lv_iload_n hx hb dX10_count_80 rfl (lv_at hl 1 rfl) ?_
        refine lv_iconst (v := (2 : Int32)) hx hb dX10_count_81 (by decide) ?_
        refine lv_icmp_ne (tgt := 97) hx hb dX10_count_82 (by decide) (fun z => ?_) (fun z => ?_)
        · have hf := it_neg z hf
          refine lv_aload_n hx hb dX10_count_97 rfl (lv_at hl 0 rfl) ?_
          refine lv_iload_n hx hb dX10_count_98 rfl (lv_at hl 3 rfl) ?_
          obtain ⟨r6, u5, h4, hf⟩ := ob_some hf
          refine endI okM hw (runV_ok (As := [.int b3]) (rest := [.int b2]) okM hc hw (c_X10_doesStand l ev b3 u h4 H.size) kv_X10_doesStand ml_X10_197 (rvM0 ev u) hl.1 rfl rfl (Nat.le_of_ble_eq_true rfl) (rm_le (by decide) (by decide)) dX10_count_99) (fun H locs hw => ?_)
          refine lv_if_eq (tgt := 109) hx hb dX10_count_102 (by decide) (fun z => ?_) (fun z => ?_)
          · have hf := it_pos z hf
            exact wL109 (f_X10_count_L68 n) hk68 b1 b3 b2 u5 H locs ls hw (lv_sub hl [0, 1, 3] rfl) hf
          · have hf := it_neg z hf
            exact wL105 (f_X10_count_L68 n) hk68 b1 b3 b2 u5 H locs ls hw (lv_sub hl [0, 1, 3] rfl) hf
        · have hf := it_pos z hf
          refine lv_aload_n hx hb dX10_count_85 rfl (lv_at hl 0 rfl) ?_
          refine gM0_4 hc hw fl_X10_20 dX10_count_86 ?_
          refine lv_iload_n hx hb dX10_count_89 rfl (lv_at hl 3 rfl) ?_
          obtain ⟨z, hf⟩ := oi_some hf
          refine aM2 hc hw z dX10_count_90 ?_
          refine lv_if_eq (tgt := 109) hx hb dX10_count_91 (by decide) (fun z => ?_) (fun z => ?_)
          · have hf := it_pos z hf
            exact wL109 (f_X10_count_L68 n) hk68 b1 b3 b2 u H locs ls hw (lv_sub hl [0, 1, 3] rfl) hf
          · have hf := it_neg z hf
            refine lv_goto (tgt := 105) hx hb dX10_count_94 (by decide) ?_
            exact wL105 (f_X10_count_L68 n) hk68 b1 b3 b2 u H locs ls hw (lv_sub hl [0, 1, 3] rfl) hf
  unfold f_X10_count at hf
  refine lv_iconst (v := (0 : Int32)) hx hb dX10_count_0 (by decide) ?_
  refine lv_istore_n (lv' := [(2, .int (0 : Int32)), (0, .ref (ev.2.1 0)), (1, .int a1)]) hx hb dX10_count_1 rfl hl (by decide) rfl (fun ls hl => ?_)
  refine lv_iload_n hx hb dX10_count_2 rfl (lv_at hl 2 rfl) ?_
  by_cases z0 : a1.toInt < 0 ∨ 9 < a1.toInt
  · have hf := it_pos z0 hf
    refine lv_tableOut (tgt := 174) hx hb dX10_count_3 z0 (by decide) ?_
    refine lv_iload_n hx hb dX10_count_174 rfl (lv_at hl 2 rfl) ?_
    refine lv_bipush (v := (11 : Int32)) hx hb dX10_count_175 (by decide) ?_
    refine lv_bipush (v := (17 : Int32)) hx hb dX10_count_177 (by decide) ?_
    obtain ⟨r3, u2, h1, hf⟩ := ob_some hf
    refine endI okM hw (runS_ok (As := [.int a1, .int (11 : Int32), .int (17 : Int32)]) (rest := []) okM hc hw (c_X10_in l ev a1 (11 : Int32) (17 : Int32) u h1 H.size) ks_X10_in ml_X10_144 hl.1 rfl rfl (Nat.le_of_ble_eq_true rfl) (rm_le (by decide) (by decide)) dX10_count_179) (fun H locs hw => ?_)
    refine lv_if_eq (tgt := 197) hx hb dX10_count_182 (by decide) (fun z => ?_) (fun z => ?_)
    · have hf := it_pos z hf
      refine lv_bipush (v := (-9 : Int32)) hx hb dX10_count_197 (by decide) ?_
      exact retI hc hr hlk hw hf dX10_count_199
    · have hf := it_neg z hf
      refine lv_aload_n hx hb dX10_count_185 rfl (lv_at hl 1 rfl) ?_
      refine gM0_15 hc hw fl_X10_51 dX10_count_186 ?_
      refine lv_iload_n hx hb dX10_count_189 rfl (lv_at hl 2 rfl) ?_
      refine lv_bipush (v := (10 : Int32)) hx hb dX10_count_190 (by decide) ?_
      refine lv_isub hx hb dX10_count_192 ?_
      obtain ⟨z, hf⟩ := oi_some hf
      refine aM12 hc hw z dX10_count_193 ?_
      refine lv_goto (tgt := 199) hx hb dX10_count_194 (by decide) ?_
      exact retI hc hr hlk hw hf dX10_count_199
  · have hf := it_neg z0 hf
    by_cases z : a1 = (0 : Int32)
    · have hf := it_pos z hf
      refine lv_tableIn (tgt := 56) (off := 53) hx hb dX10_count_3 (by rw [z]; decide) (by rw [z]; decide) (by rw [z]; decide) (by decide) ?_
      refine lv_aload_n hx hb dX10_count_56 rfl (lv_at hl 1 rfl) ?_
      refine gM0_0 hc hw fl_X10_148 dX10_count_57 ?_
      exact retI hc hr hlk hw hf dX10_count_60
    have hf := it_neg z hf
    by_cases z : a1 = (1 : Int32)
    · have hf := it_pos z hf
      refine lv_tableIn (tgt := 61) (off := 58) hx hb dX10_count_3 (by rw [z]; decide) (by rw [z]; decide) (by rw [z]; decide) (by decide) ?_
      refine lv_aload_n hx hb dX10_count_61 rfl (lv_at hl 1 rfl) ?_
      refine gM0_3 hc hw fl_X10_17 dX10_count_62 ?_
      exact retI hc hr hlk hw hf dX10_count_65
    have hf := it_neg z hf
    by_cases z : a1 = (2 : Int32)
    · have hf := it_pos z hf
      refine lv_tableIn (tgt := 66) (off := 63) hx hb dX10_count_3 (by rw [z]; decide) (by rw [z]; decide) (by rw [z]; decide) (by decide) ?_
      refine lv_iconst (v := (0 : Int32)) hx hb dX10_count_66 (by decide) ?_
      refine lv_istore_n (lv' := [(3, .int (0 : Int32)), (2, .int (0 : Int32)), (0, .ref (ev.2.1 0)), (1, .int a1)]) hx hb dX10_count_67 rfl hl (by decide) rfl (fun ls hl => ?_)
      exact wL68 FU a1 (0 : Int32) (0 : Int32) u H locs ls hw (lv_sub hl [2, 3, 1, 0] rfl) hf
    have hf := it_neg z hf
    by_cases z : a1 = (3 : Int32)
    · have hf := it_pos z hf
      refine lv_tableIn (tgt := 66) (off := 63) hx hb dX10_count_3 (by rw [z]; decide) (by rw [z]; decide) (by rw [z]; decide) (by decide) ?_
      refine lv_iconst (v := (0 : Int32)) hx hb dX10_count_66 (by decide) ?_
      refine lv_istore_n (lv' := [(3, .int (0 : Int32)), (2, .int (0 : Int32)), (0, .ref (ev.2.1 0)), (1, .int a1)]) hx hb dX10_count_67 rfl hl (by decide) rfl (fun ls hl => ?_)
      exact wL68 FU a1 (0 : Int32) (0 : Int32) u H locs ls hw (lv_sub hl [2, 3, 1, 0] rfl) hf
    have hf := it_neg z hf
    by_cases z : a1 = (4 : Int32)
    · have hf := it_pos z hf
      refine lv_tableIn (tgt := 120) (off := 117) hx hb dX10_count_3 (by rw [z]; decide) (by rw [z]; decide) (by rw [z]; decide) (by decide) ?_
      refine lv_aload_n hx hb dX10_count_120 rfl (lv_at hl 1 rfl) ?_
      refine gM0_14 hc hw fl_X10_177 dX10_count_121 ?_
      exact retI hc hr hlk hw hf dX10_count_124
    have hf := it_neg z hf
    by_cases z : a1 = (5 : Int32)
    · have hf := it_pos z hf
      refine lv_tableIn (tgt := 125) (off := 122) hx hb dX10_count_3 (by rw [z]; decide) (by rw [z]; decide) (by rw [z]; decide) (by decide) ?_
      refine lv_aload_n hx hb dX10_count_125 rfl (lv_at hl 1 rfl) ?_
      obtain ⟨r11, u10, h9, hf⟩ := ob_some hf
      refine endI okM hw (runV_ok (As := []) (rest := []) okM hc hw (c_X10_isOpen l ev u h9 H.size) kv_X10_isOpen ml_X10_160 (rvM0 ev u) hl.1 rfl rfl (Nat.le_of_ble_eq_true rfl) (rm_le (by decide) (by decide)) dX10_count_126) (fun H locs hw => ?_)
      refine lv_if_eq (tgt := 136) hx hb dX10_count_129 (by decide) (fun z => ?_) (fun z => ?_)
      · have hf := it_pos z hf
        refine lv_iconst (v := (0 : Int32)) hx hb dX10_count_136 (by decide) ?_
        exact retI hc hr hlk hw hf dX10_count_137
      · have hf := it_neg z hf
        refine lv_iconst (v := (1 : Int32)) hx hb dX10_count_132 (by decide) ?_
        refine lv_goto (tgt := 137) hx hb dX10_count_133 (by decide) ?_
        exact retI hc hr hlk hw hf dX10_count_137
    have hf := it_neg z hf
    by_cases z : a1 = (6 : Int32)
    · have hf := it_pos z hf
      refine lv_tableIn (tgt := 138) (off := 135) hx hb dX10_count_3 (by rw [z]; decide) (by rw [z]; decide) (by rw [z]; decide) (by decide) ?_
      refine lv_aload_n hx hb dX10_count_138 rfl (lv_at hl 1 rfl) ?_
      refine gM0_52 hc hw fl_X10_356 dX10_count_139 ?_
      refine lv_if_eq (tgt := 149) hx hb dX10_count_142 (by decide) (fun z => ?_) (fun z => ?_)
      · have hf := it_pos z hf
        refine lv_iconst (v := (0 : Int32)) hx hb dX10_count_149 (by decide) ?_
        exact retI hc hr hlk hw hf dX10_count_150
      · have hf := it_neg z hf
        refine lv_iconst (v := (1 : Int32)) hx hb dX10_count_145 (by decide) ?_
        refine lv_goto (tgt := 150) hx hb dX10_count_146 (by decide) ?_
        exact retI hc hr hlk hw hf dX10_count_150
    have hf := it_neg z hf
    by_cases z : a1 = (7 : Int32)
    · have hf := it_pos z hf
      refine lv_tableIn (tgt := 151) (off := 148) hx hb dX10_count_3 (by rw [z]; decide) (by rw [z]; decide) (by rw [z]; decide) (by decide) ?_
      refine lv_aload_n hx hb dX10_count_151 rfl (lv_at hl 1 rfl) ?_
      refine gM0_53 hc hw fl_X10_362 dX10_count_152 ?_
      refine lv_if_eq (tgt := 162) hx hb dX10_count_155 (by decide) (fun z => ?_) (fun z => ?_)
      · have hf := it_pos z hf
        refine lv_iconst (v := (0 : Int32)) hx hb dX10_count_162 (by decide) ?_
        exact retI hc hr hlk hw hf dX10_count_163
      · have hf := it_neg z hf
        refine lv_iconst (v := (1 : Int32)) hx hb dX10_count_158 (by decide) ?_
        refine lv_goto (tgt := 163) hx hb dX10_count_159 (by decide) ?_
        exact retI hc hr hlk hw hf dX10_count_163
    have hf := it_neg z hf
    by_cases z : a1 = (8 : Int32)
    · have hf := it_pos z hf
      refine lv_tableIn (tgt := 164) (off := 161) hx hb dX10_count_3 (by rw [z]; decide) (by rw [z]; decide) (by rw [z]; decide) (by decide) ?_
      refine lv_aload_n hx hb dX10_count_164 rfl (lv_at hl 1 rfl) ?_
      obtain ⟨r14, u13, h12, hf⟩ := ob_some hf
      refine endI okM hw (runV_ok (As := []) (rest := []) okM hc hw (c_X10_holding l ev u h12 H.size) kv_X10_holding ml_X10_371 (rvM0 ev u) hl.1 rfl rfl (Nat.le_of_ble_eq_true rfl) (rm_le (by decide) (by decide)) dX10_count_165) (fun H locs hw => ?_)
      exact retI hc hr hlk hw hf dX10_count_168
    have hf := it_neg z hf
    by_cases z : a1 = (9 : Int32)
    · have hf := it_pos z hf
      refine lv_tableIn (tgt := 169) (off := 166) hx hb dX10_count_3 (by rw [z]; decide) (by rw [z]; decide) (by rw [z]; decide) (by decide) ?_
      refine lv_aload_n hx hb dX10_count_169 rfl (lv_at hl 1 rfl) ?_
      refine gM0_19 hc hw fl_X10_223 dX10_count_170 ?_
      exact retI hc hr hlk hw hf dX10_count_173
    have hf := it_neg z hf
    cases hf
