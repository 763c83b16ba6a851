def f_X9_turned_L46 (u : SS) : Option (Int32 × SS) :=
  ob (f_X9_refuse (-5 : Int32) u) fun r12 u11 => some (r12, u11)
def f_X9_turned_L85 (u : SS) : Option (Int32 × SS) :=
  ob (f_X9_refuse (-7 : Int32) u) fun r23 u22 => some (r23, u22)
def f_X9_turned_L197 (k114 : Int32 → Int32 → Int32 → Int32 → SS → Option (Int32 × SS)) (b1 : Int32) (b2 : Int32) (b3 : Int32) (b4 : Int32) (u : SS) : Option (Int32 × SS) :=
  lt (b4 + (1 : Int32)) fun x27 => k114 b1 b2 b3 x27 u
def b_X9_turned_L114 (k114 : Int32 → Int32 → Int32 → Int32 → SS → Option (Int32 × SS)) (b1 : Int32) (b2 : Int32) (b3 : Int32) (b4 : Int32) (u : SS) : Option (Int32 × SS) :=
  if (8 : Int32) ≤ b4 then (some ((-9 : Int32), u)) else (if b4 = b2 then (f_X9_turned_L197 k114 b1 b2 b3 b4 u) else (if b4 = b3 then (f_X9_turned_L197 k114 b1 b2 b3 b4 u) else (ob (f_X9_cell b4 b1 u) fun r30 u29 => ob (f_X1_standsAt r30 u29) fun r33 u32 => if r33 = 0 then (f_X9_turned_L197 k114 b1 b2 b3 b4 u32) else (ov (f_X9_workPair b1 b2 b3 b4 u32) fun u35 => oi b2 8 (if (gA u35 18 b2.toNatClampNeg) = 0 then (oi b3 8 (if (gA u35 18 b3.toNatClampNeg) = 0 then (ob (f_X7_isAhead b3 b2 u35) fun r38 u37 => if r38 = 0 then (f_X9_turned_L197 k114 b1 b2 b3 b4 u37) else (some (b4, u37))) else (f_X9_turned_L197 k114 b1 b2 b3 b4 u35))) else (f_X9_turned_L197 k114 b1 b2 b3 b4 u35))))))
def f_X9_turned_L114 : Nat → Int32 → Int32 → Int32 → Int32 → SS → Option (Int32 × SS)
  | 0 => fun _ _ _ _ _ => none
  | n + 1 => b_X9_turned_L114 (f_X9_turned_L114 n)
def f_X9_turned (a1 : Int32) (a2 : Int32) (a3 : Int32) (u : SS) : Option (Int32 × SS) :=
  ob (f_X9_noPair a1 a2 a3 u) fun r3 u2 => if r3 = 0 then (ob (f_X9_cell a2 a1 u2) fun r6 u5 => ob (f_X1_standsAt r6 u5) fun r9 u8 => if r9 = 0 then (f_X9_turned_L46 u8) else (ob (f_X9_cell a3 a1 u8) fun r15 u14 => ob (f_X1_standsAt r15 u14) fun r18 u17 => if r18 = 0 then (f_X9_turned_L46 u17) else (ov (f_X9_workPair a1 a2 a3 (-1 : Int32) u17) fun u20 => oi a2 8 (if (gA u20 18 a2.toNatClampNeg) = 0 then (oi a3 8 (if (gA u20 18 a3.toNatClampNeg) = 0 then (ob (f_X7_isAhead a2 a3 u20) fun r26 u25 => if r26 = 0 then (ob (f_X9_refuse (-3 : Int32) u25) fun r41 u40 => some (r41, u40)) else (f_X9_turned_L114 FU a1 a2 a3 (0 : Int32) u25)) else (f_X9_turned_L85 u20))) else (f_X9_turned_L85 u20))))) else (ob (f_X9_refuse (-1 : Int32) u2) fun r44 u43 => some (r44, u43))
set_option maxHeartbeats 4000000 in
set_option maxRecDepth 100000 in
theorem c_X9_turned (l : Launch) (ev : EV) (a1 : Int32) (a2 : Int32) (a3 : Int32) (u : SS) {r : Int32} {u' : SS} (hf : f_X9_turned a1 a2 a3 u = some (r, u')) : MI wdB l yX9_turned cX9_turned 5 (some .int) 5 ev [.ref (ev.2.1 0), .int a1, .int a2, .int a3] u r u' := by
  refine bodyI (by decide +kernel) rfl (Nat.le_of_ble_eq_true rfl) ?_
  intro p e s m below meth cd ls H locs hc hr hlk hw hl
  generalize hav : (List.toArray [.ref (ev.2.1 0), .int a1, .int a2, .int a3] : Array Value) = av at hc ⊢
  obtain ⟨hx, hb, hml, hown, hts, hK, hZ⟩ := id hc
  have hl : lv_has ls 5 [(0, .ref (ev.2.1 0)), (1, .int a1), (2, .int a2), (3, .int a3)] := hl
  have wL46 : ∀ (u : SS) (H : Heap) (locs : List Loc) (ls : Array Slot), VW wdB ev s u H locs → lv_has ls 5 [(0, .ref (ev.2.1 0))] → f_X9_turned_L46  u = some (r, u') → W p l e (rmk 5) s m av below meth cd H locs 0 0 (ZI wdB ev s below av r u') (F0 m 46 ls []) := by
    intro  u H locs ls hw hl hf
    unfold f_X9_turned_L46 at hf
    refine lv_aload_n hx hb dX9_turned_46 rfl (lv_at hl 0 rfl) ?_
    refine lv_bipush (v := (-5 : Int32)) hx hb dX9_turned_47 (by decide) ?_
    obtain ⟨r12, u11, h10, hf⟩ := ob_some hf
    refine endI okB hw (runV_ok (As := [.int (-5 : Int32)]) (rest := []) okB hc hw (c_X9_refuse l ev (-5 : Int32) u h10 H.size) kv_X9_refuse ml_X9_62 (rvB0 ev u) hl.1 rfl rfl (Nat.le_of_ble_eq_true rfl) (rm_le (by decide) (by decide)) dX9_turned_49) (fun H locs hw => ?_)
    exact retI hc hr hlk hw hf dX9_turned_52
  have wL85 : ∀ (u : SS) (H : Heap) (locs : List Loc) (ls : Array Slot), VW wdB ev s u H locs → lv_has ls 5 [(0, .ref (ev.2.1 0))] → f_X9_turned_L85  u = some (r, u') → W p l e (rmk 5) s m av below meth cd H locs 0 0 (ZI wdB ev s below av r u') (F0 m 85 ls []) := by
    intro  u H locs ls hw hl hf
    unfold f_X9_turned_L85 at hf
    refine lv_aload_n hx hb dX9_turned_85 rfl (lv_at hl 0 rfl) ?_
    refine lv_bipush (v := (-7 : Int32)) hx hb dX9_turned_86 (by decide) ?_
    obtain ⟨r23, u22, h21, hf⟩ := ob_some hf
    refine endI okB hw (runV_ok (As := [.int (-7 : Int32)]) (rest := []) okB hc hw (c_X9_refuse l ev (-7 : Int32) u h21 H.size) kv_X9_refuse ml_X9_62 (rvB0 ev u) hl.1 rfl rfl (Nat.le_of_ble_eq_true rfl) (rm_le (by decide) (by decide)) dX9_turned_88) (fun H locs hw => ?_)
    exact retI hc hr hlk hw hf dX9_turned_91
  have wL197 : ∀ (k114 : Int32 → Int32 → Int32 → Int32 → SS → Option (Int32 × SS)) (hk114 : ∀ (b1 : Int32) (b2 : Int32) (b3 : Int32) (b4 : Int32) (u : SS) (H : Heap) (locs : List Loc) (ls : Array Slot), VW wdB ev s u H locs → lv_has ls 5 [(0, .ref (ev.2.1 0)), (1, .int b1), (2, .int b2), (3, .int b3), (4, .int b4)] → k114 b1 b2 b3 b4 u = some (r, u') → W p l e (rmk 5) s m av below meth cd H locs 0 0 (ZI wdB ev s below av r u') (F0 m 114 ls [])) (b1 : Int32) (b2 : Int32) (b3 : Int32) (b4 : Int32) (u : SS) (H : Heap) (locs : List Loc) (ls : Array Slot), VW wdB ev s u H locs → lv_has ls 5 [(0, .ref (ev.2.1 0)), (1, .int b1), (2, .int b2), (3, .int b3), (4, .int b4)] → f_X9_turned_L197 k114 b1 b2 b3 b4 u = some (r, u') → W p l e (rmk 5) s m av below meth cd H locs 0 0 (ZI wdB ev s below av r u') (F0 m 197 ls []) := by
    intro k114 hk114 b1 b2 b3 b4 u H locs ls hw hl hf
    unfold f_X9_turned_L197 at hf
    obtain ⟨x27, ex27, hf⟩ := lt_some hf
    refine lv_iinc (v := x27) (lv' := [(4, .int x27), (0, .ref (ev.2.1 0)), (1, .int b1), (2, .int b2), (3, .int b3)]) hx hb dX9_turned_197 hl (k := 4) rfl (by rw [ex27]; rfl) (by decide) rfl (fun ls hl => ?_)
    refine lv_goto (tgt := 114) hx hb dX9_turned_200 (by decide) ?_
    exact hk114 b1 b2 b3 x27 u H locs ls hw (lv_sub hl [1, 2, 3, 4, 0] rfl) hf
  have wL114 : ∀ (n : Nat) (b1 : Int32) (b2 : Int32) (b3 : Int32) (b4 : Int32) (u : SS) (H : Heap) (locs : List Loc) (ls : Array Slot), VW wdB ev s u H locs → lv_has ls 5 [(0, .ref (ev.2.1 0)), (1, .int b1), (2, .int b2), (3, .int b3), (4, .int b4)] → f_X9_turned_L114 n b1 b2 b3 b4 u = some (r, u') → W p l e (rmk 5) s m av below meth cd H locs 0 0 (ZI wdB ev s below av r u') (F0 m 114 ls []) := by
    intro n
    induction n with
    | zero =>
      intro b1 b2 b3 b4 u H locs ls hw hl hf
      cases hf
    | succ n hk114 =>
      intro b1 b2 b3 b4 u H locs ls hw hl hf
      have hf : b_X9_turned_L114 (f_X9_turned_L114 n) b1 b2 b3 b4 u = some (r, u') := hf
      unfold b_X9_turned_L114 at hf
      refine lv_iload hx hb dX9_turned_114 (lv_at hl 4 rfl) ?_
      refine lv_bipush (v := (8 : Int32)) hx hb dX9_turned_116 (by decide) ?_
      refine lv_icmp_ge (tgt := 203) hx hb dX9_turned_118 (by decide) (fun z => ?_) (fun z => ?_)
      · have hf := it_pos z hf
        refine lv_bipush (v := (-9 : Int32)) hx hb dX9_turned_203 (by decide) ?_
        exact retI hc hr hlk hw hf dX9_turned_205
      · have hf := it_neg z hf
        refine lv_iload hx hb dX9_turned_121 (lv_at hl 4 rfl) ?_
        refine lv_iload_n hx hb dX9_turned_123 rfl (lv_at hl 2 rfl) ?_
        refine lv_icmp_eq (tgt := 197) hx hb dX9_turned_124 (by decide) (fun z => ?_) (fun z => ?_)
        · have hf := it_pos z hf
          exact wL197 (f_X9_turned_L114 n) hk114 b1 b2 b3 b4 u H locs ls hw (lv_sub hl [0, 1, 2, 3, 4] rfl) hf
        · have hf := it_neg z hf
          refine lv_iload hx hb dX9_turned_127 (lv_at hl 4 rfl) ?_
          refine lv_iload_n hx hb dX9_turned_129 rfl (lv_at hl 3 rfl) ?_
          refine lv_icmp_eq (tgt := 197) hx hb dX9_turned_130 (by decide) (fun z => ?_) (fun z => ?_)
          · have hf := it_pos z hf
            exact wL197 (f_X9_turned_L114 n) hk114 b1 b2 b3 b4 u H locs ls hw (lv_sub hl [0, 1, 2, 3, 4] rfl) hf
          · have hf := it_neg z hf
            refine lv_aload_n hx hb dX9_turned_133 rfl (lv_at hl 0 rfl) ?_
            refine gB0_0 hc hw fl_X9_12 dX9_turned_134 ?_
            refine lv_iload hx hb dX9_turned_137 (lv_at hl 4 rfl) ?_
            refine lv_iload_n hx hb dX9_turned_139 rfl (lv_at hl 1 rfl) ?_
            obtain ⟨r30, u29, h28, hf⟩ := ob_some hf
            refine endI okB hw (runS_ok (As := [.int b4, .int b1]) (rest := [.ref (ev.2.1 1)]) okB hc hw (c_X9_cell l ev b4 b1 u h28 H.size) ks_X9_cell ml_X9_110 hl.1 rfl rfl (Nat.le_of_ble_eq_true rfl) (rm_le (by decide) (by decide)) dX9_turned_140) (fun H locs hw => ?_)
            obtain ⟨r33, u32, h31, hf⟩ := ob_some hf
            refine endI okB hw (runV_ok (As := [.int r30]) (rest := []) okB hc hw (c_X1_standsAt l ev r30 u29 h31 H.size) kv_X1_standsAt ml_X9_138 (rvB1 ev u29) hl.1 rfl rfl (Nat.le_of_ble_eq_true rfl) (rm_le (by decide) (by decide)) dX9_turned_143) (fun H locs hw => ?_)
            refine lv_if_eq (tgt := 197) hx hb dX9_turned_146 (by decide) (fun z => ?_) (fun z => ?_)
            · have hf := it_pos z hf
              exact wL197 (f_X9_turned_L114 n) hk114 b1 b2 b3 b4 u32 H locs ls hw (lv_sub hl [0, 1, 2, 3, 4] rfl) hf
            · have hf := it_neg z hf
              refine lv_aload_n hx hb dX9_turned_149 rfl (lv_at hl 0 rfl) ?_
              refine lv_iload_n hx hb dX9_turned_150 rfl (lv_at hl 1 rfl) ?_
              refine lv_iload_n hx hb dX9_turned_151 rfl (lv_at hl 2 rfl) ?_
              refine lv_iload_n hx hb dX9_turned_152 rfl (lv_at hl 3 rfl) ?_
              refine lv_iload hx hb dX9_turned_153 (lv_at hl 4 rfl) ?_
              obtain ⟨u35, h34, hf⟩ := ov_some hf
              refine endV okB hw (runV_ok (As := [.int b1, .int b2, .int b3, .int b4]) (rest := []) okB hc hw (c_X9_workPair l ev b1 b2 b3 b4 u32 h34 H.size) kv_X9_workPair ml_X9_227 (rvB0 ev u32) hl.1 rfl rfl (Nat.le_of_ble_eq_true rfl) (rm_le (by decide) (by decide)) dX9_turned_155) (fun H locs hw => ?_)
              refine lv_aload_n hx hb dX9_turned_158 rfl (lv_at hl 0 rfl) ?_
              refine gB0_3 hc hw fl_X9_33 dX9_turned_159 ?_
              refine gB4_7 hc hw fl_X9_184 dX9_turned_162 ?_
              refine lv_iload_n hx hb dX9_turned_165 rfl (lv_at hl 2 rfl) ?_
              obtain ⟨z, hf⟩ := oi_some hf
              refine aB31 hc hw z dX9_turned_166 ?_
              refine lv_if_ne (tgt := 197) hx hb dX9_turned_167 (by decide) (fun z => ?_) (fun z => ?_)
              · have hf := it_neg z hf
                exact wL197 (f_X9_turned_L114 n) hk114 b1 b2 b3 b4 u35 H locs ls hw (lv_sub hl [0, 1, 2, 3, 4] rfl) hf
              · have hf := it_pos z hf
                refine lv_aload_n hx hb dX9_turned_170 rfl (lv_at hl 0 rfl) ?_
                refine gB0_3 hc hw fl_X9_33 dX9_turned_171 ?_
                refine gB4_7 hc hw fl_X9_184 dX9_turned_174 ?_
                refine lv_iload_n hx hb dX9_turned_177 rfl (lv_at hl 3 rfl) ?_
                obtain ⟨z, hf⟩ := oi_some hf
                refine aB31 hc hw z dX9_turned_178 ?_
                refine lv_if_ne (tgt := 197) hx hb dX9_turned_179 (by decide) (fun z => ?_) (fun z => ?_)
                · have hf := it_neg z hf
                  exact wL197 (f_X9_turned_L114 n) hk114 b1 b2 b3 b4 u35 H locs ls hw (lv_sub hl [0, 1, 2, 3, 4] rfl) hf
                · have hf := it_pos z hf
                  refine lv_aload_n hx hb dX9_turned_182 rfl (lv_at hl 0 rfl) ?_
                  refine gB0_3 hc hw fl_X9_33 dX9_turned_183 ?_
                  refine lv_iload_n hx hb dX9_turned_186 rfl (lv_at hl 3 rfl) ?_
                  refine lv_iload_n hx hb dX9_turned_187 rfl (lv_at hl 2 rfl) ?_
                  obtain ⟨r38, u37, h36, hf⟩ := ob_some hf
                  refine endI okB hw (runV_ok (As := [.int b3, .int b2]) (rest := []) okB hc hw (c_X7_isAhead l ev b3 b2 u35 h36 H.size) kv_X7_isAhead ml_X9_230 (rvB4 ev u35) hl.1 rfl rfl (Nat.le_of_ble_eq_true rfl) (rm_le (by decide) (by decide)) dX9_turned_188) (fun H locs hw => ?_)
                  refine lv_if_eq (tgt := 197) hx hb dX9_turned_191 (by decide) (fun z => ?_) (fun z => ?_)
                  · have hf := it_pos z hf
                    exact wL197 (f_X9_turned_L114 n) hk114 b1 b2 b3 b4 u37 H locs ls hw (lv_sub hl [0, 1, 2, 3, 4] rfl) hf
                  · have hf := it_neg z hf
                    refine lv_iload hx hb dX9_turned_194 (lv_at hl 4 rfl) ?_
                    exact retI hc hr hlk hw hf dX9_turned_196
  unfold f_X9_turned at hf
  refine lv_aload_n hx hb dX9_turned_0 rfl (lv_at hl 0 rfl) ?_
  refine lv_iload_n hx hb dX9_turned_1 rfl (lv_at hl 1 rfl) ?_
  refine lv_iload_n hx hb dX9_turned_2 rfl (lv_at hl 2 rfl) ?_
  refine lv_iload_n hx hb dX9_turned_3 rfl (lv_at hl 3 rfl) ?_
  obtain ⟨r3, u2, h1, hf⟩ := ob_some hf
  refine endI okB hw (runV_ok (As := [.int a1, .int a2, .int a3]) (rest := []) okB hc hw (c_X9_noPair l ev a1 a2 a3 u h1 H.size) kv_X9_noPair ml_X9_223 (rvB0 ev u) hl.1 rfl rfl (Nat.le_of_ble_eq_true rfl) (rm_le (by decide) (by decide)) dX9_turned_4) (fun H locs hw => ?_)
  refine lv_if_eq (tgt := 16) hx hb dX9_turned_7 (by decide) (fun z => ?_) (fun z => ?_)
  · have hf := it_pos z hf
    refine lv_aload_n hx hb dX9_turned_16 rfl (lv_at hl 0 rfl) ?_
    refine gB0_0 hc hw fl_X9_12 dX9_turned_17 ?_
    refine lv_iload_n hx hb dX9_turned_20 rfl (lv_at hl 2 rfl) ?_
    refine lv_iload_n hx hb dX9_turned_21 rfl (lv_at hl 1 rfl) ?_
    obtain ⟨r6, u5, h4, hf⟩ := ob_some hf
    refine endI okB hw (runS_ok (As := [.int a2, .int a1]) (rest := [.ref (ev.2.1 1)]) okB hc hw (c_X9_cell l ev a2 a1 u2 h4 H.size) ks_X9_cell ml_X9_110 hl.1 rfl rfl (Nat.le_of_ble_eq_true rfl) (rm_le (by decide) (by decide)) dX9_turned_22) (fun H locs hw => ?_)
    obtain ⟨r9, u8, h7, hf⟩ := ob_some hf
    refine endI okB hw (runV_ok (As := [.int r6]) (rest := []) okB hc hw (c_X1_standsAt l ev r6 u5 h7 H.size) kv_X1_standsAt ml_X9_138 (rvB1 ev u5) hl.1 rfl rfl (Nat.le_of_ble_eq_true rfl) (rm_le (by decide) (by decide)) dX9_turned_25) (fun H locs hw => ?_)
    refine lv_if_eq (tgt := 46) hx hb dX9_turned_28 (by decide) (fun z => ?_) (fun z => ?_)
    · have hf := it_pos z hf
      exact wL46 u8 H locs ls hw (lv_sub hl [0] rfl) hf
    · have hf := it_neg z hf
      refine lv_aload_n hx hb dX9_turned_31 rfl (lv_at hl 0 rfl) ?_
      refine gB0_0 hc hw fl_X9_12 dX9_turned_32 ?_
      refine lv_iload_n hx hb dX9_turned_35 rfl (lv_at hl 3 rfl) ?_
      refine lv_iload_n hx hb dX9_turned_36 rfl (lv_at hl 1 rfl) ?_
      obtain ⟨r15, u14, h13, hf⟩ := ob_some hf
      refine endI okB hw (runS_ok (As := [.int a3, .int a1]) (rest := [.ref (ev.2.1 1)]) okB hc hw (c_X9_cell l ev a3 a1 u8 h13 H.size) ks_X9_cell ml_X9_110 hl.1 rfl rfl (Nat.le_of_ble_eq_true rfl) (rm_le (by decide) (by decide)) dX9_turned_37) (fun H locs hw => ?_)
      obtain ⟨r18, u17, h16, hf⟩ := ob_some hf
      refine endI okB hw (runV_ok (As := [.int r15]) (rest := []) okB hc hw (c_X1_standsAt l ev r15 u14 h16 H.size) kv_X1_standsAt ml_X9_138 (rvB1 ev u14) hl.1 rfl rfl (Nat.le_of_ble_eq_true rfl) (rm_le (by decide) (by decide)) dX9_turned_40) (fun H locs hw => ?_)
      refine lv_if_ne (tgt := 53) hx hb dX9_turned_43 (by decide) (fun z => ?_) (fun z => ?_)
      · have hf := it_neg z hf
        refine lv_aload_n hx hb dX9_turned_53 rfl (lv_at hl 0 rfl) ?_
        refine lv_iload_n hx hb dX9_turned_54 rfl (lv_at hl 1 rfl) ?_
        refine lv_iload_n hx hb dX9_turned_55 rfl (lv_at hl 2 rfl) ?_
        refine lv_iload_n hx hb dX9_turned_56 rfl (lv_at hl 3 rfl) ?_
        refine lv_iconst (v := (-1 : Int32)) hx hb dX9_turned_57 (by decide) ?_
        obtain ⟨u20, h19, hf⟩ := ov_some hf
        refine endV okB hw (runV_ok (As := [.int a1, .int a2, .int a3, .int (-1 : Int32)]) (rest := []) okB hc hw (c_X9_workPair l ev a1 a2 a3 (-1 : Int32) u17 h19 H.size) kv_X9_workPair ml_X9_227 (rvB0 ev u17) hl.1 rfl rfl (Nat.le_of_ble_eq_true rfl) (rm_le (by decide) (by decide)) dX9_turned_58) (fun H locs hw => ?_)
        refine lv_aload_n hx hb dX9_turned_61 rfl (lv_at hl 0 rfl) ?_
        refine gB0_3 hc hw fl_X9_33 dX9_turned_62 ?_
        refine gB4_7 hc hw fl_X9_184 dX9_turned_65 ?_
        refine lv_iload_n hx hb dX9_turned_68 rfl (lv_at hl 2 rfl) ?_
        obtain ⟨z, hf⟩ := oi_some hf
        refine aB31 hc hw z dX9_turned_69 ?_
        refine lv_if_ne (tgt := 85) hx hb dX9_turned_70 (by decide) (fun z => ?_) (fun z => ?_)
        · have hf := it_neg z hf
          exact wL85 u20 H locs ls hw (lv_sub hl [0] rfl) hf
        · have hf := it_pos z hf
          refine lv_aload_n hx hb dX9_turned_73 rfl (lv_at hl 0 rfl) ?_
          refine gB0_3 hc hw fl_X9_33 dX9_turned_74 ?_
          refine gB4_7 hc hw fl_X9_184 dX9_turned_77 ?_
          refine lv_iload_n hx hb dX9_turned_80 rfl (lv_at hl 3 rfl) ?_
          obtain ⟨z, hf⟩ := oi_some hf
          refine aB31 hc hw z dX9_turned_81 ?_
          refine lv_if_eq (tgt := 92) hx hb dX9_turned_82 (by decide) (fun z => ?_) (fun z => ?_)
          · have hf := it_pos z hf
            refine lv_aload_n hx hb dX9_turned_92 rfl (lv_at hl 0 rfl) ?_
            refine gB0_3 hc hw fl_X9_33 dX9_turned_93 ?_
            refine lv_iload_n hx hb dX9_turned_96 rfl (lv_at hl 2 rfl) ?_
            refine lv_iload_n hx hb dX9_turned_97 rfl (lv_at hl 3 rfl) ?_
            obtain ⟨r26, u25, h24, hf⟩ := ob_some hf
            refine endI okB hw (runV_ok (As := [.int a2, .int a3]) (rest := []) okB hc hw (c_X7_isAhead l ev a2 a3 u20 h24 H.size) kv_X7_isAhead ml_X9_230 (rvB4 ev u20) hl.1 rfl rfl (Nat.le_of_ble_eq_true rfl) (rm_le (by decide) (by decide)) dX9_turned_98) (fun H locs hw => ?_)
            refine lv_if_ne (tgt := 111) hx hb dX9_turned_101 (by decide) (fun z => ?_) (fun z => ?_)
            · have hf := it_neg z hf
              refine lv_iconst (v := (0 : Int32)) hx hb dX9_turned_111 (by decide) ?_
              refine lv_istore (lv' := [(4, .int (0 : Int32)), (0, .ref (ev.2.1 0)), (1, .int a1), (2, .int a2), (3, .int a3)]) hx hb dX9_turned_112 hl (by decide) rfl (fun ls hl => ?_)
              exact wL114 FU a1 a2 a3 (0 : Int32) u25 H locs ls hw (lv_sub hl [1, 2, 3, 4, 0] rfl) hf
            · have hf := it_pos z hf
              refine lv_aload_n hx hb dX9_turned_104 rfl (lv_at hl 0 rfl) ?_
              refine lv_bipush (v := (-3 : Int32)) hx hb dX9_turned_105 (by decide) ?_
              obtain ⟨r41, u40, h39, hf⟩ := ob_some hf
              refine endI okB hw (runV_ok (As := [.int (-3 : Int32)]) (rest := []) okB hc hw (c_X9_refuse l ev (-3 : Int32) u25 h39 H.size) kv_X9_refuse ml_X9_62 (rvB0 ev u25) hl.1 rfl rfl (Nat.le_of_ble_eq_true rfl) (rm_le (by decide) (by decide)) dX9_turned_107) (fun H locs hw => ?_)
              exact retI hc hr hlk hw hf dX9_turned_110
          · have hf := it_neg z hf
            exact wL85 u20 H locs ls hw (lv_sub hl [0] rfl) hf
      · have hf := it_pos z hf
        exact wL46 u17 H locs ls hw (lv_sub hl [0] rfl) hf
  · have hf := it_neg z hf
    refine lv_aload_n hx hb dX9_turned_10 rfl (lv_at hl 0 rfl) ?_
    refine lv_iconst (v := (-1 : Int32)) hx hb dX9_turned_11 (by decide) ?_
    obtain ⟨r44, u43, h42, hf⟩ := ob_some hf
    refine endI okB hw (runV_ok (As := [.int (-1 : Int32)]) (rest := []) okB hc hw (c_X9_refuse l ev (-1 : Int32) u2 h42 H.size) kv_X9_refuse ml_X9_62 (rvB0 ev u2) hl.1 rfl rfl (Nat.le_of_ble_eq_true rfl) (rm_le (by decide) (by decide)) dX9_turned_12) (fun H locs hw => ?_)
    exact retI hc hr hlk hw hf dX9_turned_15
def f_X1_isTooLow_L54 (k8 : Int32 → Int32 → Int64 → Int64 → Int32 → SS → Option (Int32 × SS)) (b1 : Int32) (b2 : Int32) (b3 : Int64) (b5 : Int64) (b7 : Int32) (u : SS) : Option (Int32 × SS) :=
  lt (b7 + (1 : Int32)) fun x10 => k8 b1 b2 b3 b5 x10 u
def b_X1_isTooLow_L8 (k8 : Int32 → Int32 → Int64 → Int64 → Int32 → SS → Option (Int32 × SS)) (b1 : Int32) (b2 : Int32) (b3 : Int64) (b5 : Int64) (b7 : Int32) (u : SS) : Option (Int32 × SS) :=
  if (8 : Int32) ≤ b7 then (ob (f_X9_cell b1 b2 u) fun r3 u2 => ob (f_X1_priceAt r3 u2) fun r6 u5 => oi (2 : Int32) 4 (if 0 ≤ (lg_cmp (((r6.toInt64) * (100 : Int64)) * b3) (((gA u5 1 (2 : Int32).toNatClampNeg).toInt64) * b5)) then (some ((0 : Int32), u5)) else (some ((1 : Int32), u5)))) else (ob (f_X9_cell b7 b2 u) fun r9 u8 => if b7 = b1 then (f_X1_isTooLow_L54 k8 b1 b2 b3 b5 b7 u8) else (ob (f_X1_standsAt r9 u8) fun r13 u12 => if r13 = 0 then (f_X1_isTooLow_L54 k8 b1 b2 b3 b5 b7 u12) else (lt (b3 + (1 : Int64)) fun x14 => ob (f_X1_priceAt r9 u12) fun r17 u16 => lt (b5 + (r17.toInt64)) fun x18 => f_X1_isTooLow_L54 k8 b1 b2 x14 x18 b7 u16)))
def f_X1_isTooLow_L8 : Nat → Int32 → Int32 → Int64 → Int64 → Int32 → SS → Option (Int32 × SS)
  | 0 => fun _ _ _ _ _ _ => none
  | n + 1 => b_X1_isTooLow_L8 (f_X1_isTooLow_L8 n)
def f_X1_isTooLow (a1 : Int32) (a2 : Int32) (u : SS) : Option (Int32 × SS) :=
  f_X1_isTooLow_L8 FU a1 a2 (0 : Int64) (0 : Int64) (0 : Int32) u
set_option maxHeartbeats 4000000 in
set_option maxRecDepth 100000 in
theorem c_X1_isTooLow (l : Launch) (ev : EV) (a1 : Int32) (a2 : Int32) (u : SS) {r : Int32} {u' : SS} (hf : f_X1_isTooLow a1 a2 u = some (r, u')) : MI wdB l yX1_isTooLow cX1_isTooLow 9 (some .boolean) 3 ev [.ref (ev.2.1 1), .int a1, .int a2] u r u' := by
  refine bodyI (by decide +kernel) rfl (Nat.le_of_ble_eq_true rfl) ?_
  intro p e s m below meth cd ls H locs hc hr hlk hw hl
  generalize hav : (List.toArray [.ref (ev.2.1 1), .int a1, .int a2] : Array Value) = av at hc ⊢
  obtain ⟨hx, hb, hml, hown, hts, hK, hZ⟩ := id hc
  have hl : lv_has ls 9 [(0, .ref (ev.2.1 1)), (1, .int a1), (2, .int a2)] := hl
  have wL54 : ∀ (k8 : Int32 → Int32 → Int64 → Int64 → Int32 → SS → Option (Int32 × SS)) (hk8 : ∀ (b1 : Int32) (b2 : Int32) (b3 : Int64) (b5 : Int64) (b7 : Int32) (u : SS) (H : Heap) (locs : List Loc) (ls : Array Slot), VW wdB ev s u H locs → lv_has ls 9 [(0, .ref (ev.2.1 1)), (1, .int b1), (2, .int b2), (3, .long b3), (5, .long b5), (7, .int b7)] → k8 b1 b2 b3 b5 b7 u = some (r, u') → W p l e (rmk 3) s m av below meth cd H locs 0 0 (ZI wdB ev s below av r u') (F0 m 8 ls [])) (b1 : Int32) (b2 : Int32) (b3 : Int64) (b5 : Int64) (b7 : Int32) (u : SS) (H : Heap) (locs : List Loc) (ls : Array Slot), VW wdB ev s u H locs → lv_has ls 9 [(0, .ref (ev.2.1 1)), (1, .int b1), (2, .int b2), (3, .long b3), (5, .long b5), (7, .int b7)] → f_X1_isTooLow_L54 k8 b1 b2 b3 b5 b7 u = some (r, u') → W p l e (rmk 3) s m av below meth cd H locs 0 0 (ZI wdB ev s below av r u') (F0 m 54 ls []) := by
    intro k8 hk8 b1 b2 b3 b5 b7 u H locs ls hw hl hf
    unfold f_X1_isTooLow_L54 at hf
    obtain ⟨x10, ex10, hf⟩ := lt_some hf
    refine lv_iinc (v := x10) (lv' := [(7, .int x10), (0, .ref (ev.2.1 1)), (1, .int b1), (2, .int b2), (3, .long b3), (5, .long b5)]) hx hb dX1_isTooLow_54 hl (k := 5) rfl (by rw [ex10]; rfl) (by decide) rfl (fun ls hl => ?_)
    refine lv_goto (tgt := 8) hx hb dX1_isTooLow_57 (by decide) ?_
    exact hk8 b1 b2 b3 b5 x10 u H locs ls hw (lv_sub hl [1, 2, 3, 4, 5, 0] rfl) hf
  have wL8 : ∀ (n : Nat) (b1 : Int32) (b2 : Int32) (b3 : Int64) (b5 : Int64) (b7 : Int32) (u : SS) (H : Heap) (locs : List Loc) (ls : Array Slot), VW wdB ev s u H locs → lv_has ls 9 [(0, .ref (ev.2.1 1)), (1, .int b1), (2, .int b2), (3, .long b3), (5, .long b5), (7, .int b7)] → f_X1_isTooLow_L8 n b1 b2 b3 b5 b7 u = some (r, u') → W p l e (rmk 3) s m av below meth cd H locs 0 0 (ZI wdB ev s below av r u') (F0 m 8 ls []) := by
    intro n
    induction n with
    | zero =>
      intro b1 b2 b3 b5 b7 u H locs ls hw hl hf
      cases hf
    | succ n hk8 =>
      intro b1 b2 b3 b5 b7 u H locs ls hw hl hf
      have hf : b_X1_isTooLow_L8 (f_X1_isTooLow_L8 n) b1 b2 b3 b5 b7 u = some (r, u') := hf
      unfold b_X1_isTooLow_L8 at hf
      refine lv_iload hx hb dX1_isTooLow_8 (lv_at hl 5 rfl) ?_
      refine lv_bipush (v := (8 : Int32)) hx hb dX1_isTooLow_10 (by decide) ?_
      refine lv_icmp_ge (tgt := 60) hx hb dX1_isTooLow_12 (by decide) (fun z => ?_) (fun z => ?_)
      · have hf := it_pos z hf
        refine lv_aload_n hx hb dX1_isTooLow_60 rfl (lv_at hl 0 rfl) ?_
        refine lv_iload_n hx hb dX1_isTooLow_61 rfl (lv_at hl 1 rfl) ?_
        refine lv_iload_n hx hb dX1_isTooLow_62 rfl (lv_at hl 2 rfl) ?_
        obtain ⟨r3, u2, h1, hf⟩ := ob_some hf
        refine endI okB hw (runN_ok (As := [.int b1, .int b2]) (rest := [.ref (ev.2.1 1)]) okB hc hw (c_X9_cell l ev b1 b2 u h1 H.size) ks_X9_cell (hZ.2.2 ("BidsJudged$Book", 79) (by decide)) hl.1 rfl rfl (Nat.le_of_ble_eq_true rfl) (rm_le (by decide) (by decide)) dX1_isTooLow_63) (fun H locs hw => ?_)
        obtain ⟨r6, u5, h4, hf⟩ := ob_some hf
        refine endI okB hw (runV_ok (As := [.int r3]) (rest := []) okB hc hw (c_X1_priceAt l ev r3 u2 h4 H.size) kv_X1_priceAt ml_X1_88 (rvB1 ev u2) hl.1 rfl rfl (Nat.le_of_ble_eq_true rfl) (rm_le (by decide) (by decide)) dX1_isTooLow_66) (fun H locs hw => ?_)
        refine lv_i2l (v := r6.toInt64) hx hb dX1_isTooLow_69 rfl ?_
        refine lv_ldc2 (v := (100 : Int64)) hx hb hown (hts _ ct_X1_91) dX1_isTooLow_70 ?_
        refine lv_lmul hx hb dX1_isTooLow_73 ?_
        refine lv_lload_n hx hb dX1_isTooLow_74 rfl (lv_at hl 3 rfl) ?_
        refine lv_lmul hx hb dX1_isTooLow_75 ?_
        refine lv_aload_n hx hb dX1_isTooLow_76 rfl (lv_at hl 0 rfl) ?_
        refine gB1_0 hc hw fl_X1_9 dX1_isTooLow_77 ?_
        refine lv_iconst (v := (2 : Int32)) hx hb dX1_isTooLow_80 (by decide) ?_
        obtain ⟨z, hf⟩ := oi_some hf
        refine aB10 hc hw z dX1_isTooLow_81 ?_
        refine lv_i2l (v := (gA u5 1 (2 : Int32).toNatClampNeg).toInt64) hx hb dX1_isTooLow_82 rfl ?_
        refine lv_lload hx hb dX1_isTooLow_83 (lv_at hl 4 rfl) ?_
        refine lv_lmul hx hb dX1_isTooLow_85 ?_
        refine W.lcmp hx hb dX1_isTooLow_86 ?_
        refine lv_if_ge (tgt := 94) hx hb dX1_isTooLow_87 (by decide) (fun z => ?_) (fun z => ?_)
        · have hf := it_pos z hf
          refine lv_iconst (v := (0 : Int32)) hx hb dX1_isTooLow_94 (by decide) ?_
          exact retZ hc hr hlk hw nz0 hf dX1_isTooLow_95
        · have hf := it_neg z hf
          refine lv_iconst (v := (1 : Int32)) hx hb dX1_isTooLow_90 (by decide) ?_
          refine lv_goto (tgt := 95) hx hb dX1_isTooLow_91 (by decide) ?_
          exact retZ hc hr hlk hw nz1 hf dX1_isTooLow_95
      · have hf := it_neg z hf
        refine lv_iload hx hb dX1_isTooLow_15 (lv_at hl 5 rfl) ?_
        refine lv_iload_n hx hb dX1_isTooLow_17 rfl (lv_at hl 2 rfl) ?_
        obtain ⟨r9, u8, h7, hf⟩ := ob_some hf
        refine endI okB hw (runN_ok (As := [.int b7, .int b2]) (rest := []) okB hc hw (c_X9_cell l ev b7 b2 u h7 H.size) ks_X9_cell (hZ.2.2 ("BidsJudged$Book", 79) (by decide)) hl.1 rfl rfl (Nat.le_of_ble_eq_true rfl) (rm_le (by decide) (by decide)) dX1_isTooLow_18) (fun H locs hw => ?_)
        refine lv_istore (lv' := [(8, .int r9), (0, .ref (ev.2.1 1)), (1, .int b1), (2, .int b2), (3, .long b3), (5, .long b5), (7, .int b7)]) hx hb dX1_isTooLow_21 hl (by decide) rfl (fun ls hl => ?_)
        refine lv_iload hx hb dX1_isTooLow_23 (lv_at hl 6 rfl) ?_
        refine lv_iload_n hx hb dX1_isTooLow_25 rfl (lv_at hl 2 rfl) ?_
        refine lv_icmp_eq (tgt := 54) hx hb dX1_isTooLow_26 (by decide) (fun z => ?_) (fun z => ?_)
        · have hf := it_pos z hf
          exact wL54 (f_X1_isTooLow_L8 n) hk8 b1 b2 b3 b5 b7 u8 H locs ls hw (lv_sub hl [1, 2, 3, 4, 5, 6] rfl) hf
        · have hf := it_neg z hf
          refine lv_aload_n hx hb dX1_isTooLow_29 rfl (lv_at hl 1 rfl) ?_
          refine lv_iload hx hb dX1_isTooLow_30 (lv_at hl 0 rfl) ?_
          obtain ⟨r13, u12, h11, hf⟩ := ob_some hf
          refine endI okB hw (runV_ok (As := [.int r9]) (rest := []) okB hc hw (c_X1_standsAt l ev r9 u8 h11 H.size) kv_X1_standsAt ml_X1_85 (rvB1 ev u8) hl.1 rfl rfl (Nat.le_of_ble_eq_true rfl) (rm_le (by decide) (by decide)) dX1_isTooLow_32) (fun H locs hw => ?_)
          refine lv_if_eq (tgt := 54) hx hb dX1_isTooLow_35 (by decide) (fun z => ?_) (fun z => ?_)
          · have hf := it_pos z hf
            exact wL54 (f_X1_isTooLow_L8 n) hk8 b1 b2 b3 b5 b7 u12 H locs ls hw (lv_sub hl [1, 2, 3, 4, 5, 6] rfl) hf
          · have hf := it_neg z hf
            refine lv_lload_n hx hb dX1_isTooLow_38 rfl (lv_at hl 4 rfl) ?_
            refine lv_lconst (v := (1 : Int64)) hx hb dX1_isTooLow_39 (by decide) ?_
            refine lv_ladd hx hb dX1_isTooLow_40 ?_
            obtain ⟨x14, ex14, hf⟩ := lt_some hf
            refine topel ex14 ?_
            refine lv_lstore_n (lv' := [(3, .long x14), (8, .int r9), (0, .ref (ev.2.1 1)), (1, .int b1), (2, .int b2), (5, .long b5), (7, .int b7)]) hx hb dX1_isTooLow_41 rfl hl (by decide) rfl (fun ls hl => ?_)
            refine lv_lload hx hb dX1_isTooLow_42 (lv_at hl 5 rfl) ?_
            refine lv_aload_n hx hb dX1_isTooLow_44 rfl (lv_at hl 2 rfl) ?_
            refine lv_iload hx hb dX1_isTooLow_45 (lv_at hl 1 rfl) ?_
            obtain ⟨r17, u16, h15, hf⟩ := ob_some hf
            refine endI okB hw (runV_ok (As := [.int r9]) (rest := [.long b5]) okB hc hw (c_X1_priceAt l ev r9 u12 h15 H.size) kv_X1_priceAt ml_X1_88 (rvB1 ev u12) hl.1 rfl rfl (Nat.le_of_ble_eq_true rfl) (rm_le (by decide) (by decide)) dX1_isTooLow_47) (fun H locs hw => ?_)
            refine lv_i2l (v := r17.toInt64) hx hb dX1_isTooLow_50 rfl ?_
            refine lv_ladd hx hb dX1_isTooLow_51 ?_
            obtain ⟨x18, ex18, hf⟩ := lt_some hf
            refine topel ex18 ?_
            refine lv_lstore (lv' := [(5, .long x18), (3, .long x14), (8, .int r9), (0, .ref (ev.2.1 1)), (1, .int b1), (2, .int b2), (7, .int b7)]) hx hb dX1_isTooLow_52 hl (by decide) rfl (fun ls hl => ?_)
            exact wL54 (f_X1_isTooLow_L8 n) hk8 b1 b2 x14 x18 b7 u16 H locs ls hw (lv_sub hl [3, 4, 5, 1, 0, 6] rfl) hf
  unfold f_X1_isTooLow at hf
  refine lv_lconst (v := (0 : Int64)) hx hb dX1_isTooLow_0 (by decide) ?_
  refine lv_lstore_n (lv' := [(3, .long (0 : Int64)), (0, .ref (ev.2.1 1)), (1, .int a1), (2, .int a2)]) hx hb dX1_isTooLow_1 rfl hl (by decide) rfl (fun ls hl => ?_)
  refine lv_lconst (v := (0 : Int64)) hx hb dX1_isTooLow_2 (by decide) ?_
  refine lv_lstore (lv' := [(5, .long (0 : Int64)), (3, .long (0 : Int64)), (0, .ref (ev.2.1 1)), (1, .int a1), (2, .int a2)]) hx hb dX1_isTooLow_3 hl (by decide) rfl (fun ls hl => ?_)
  refine lv_iconst (v := (0 : Int32)) hx hb dX1_isTooLow_5 (by decide) ?_
  refine lv_istore (lv' := [(7, .int (0 : Int32)), (5, .long (0 : Int64)), (3, .long (0 : Int64)), (0, .ref (ev.2.1 1)), (1, .int a1), (2, .int a2)]) hx hb dX1_isTooLow_6 hl (by decide) rfl (fun ls hl => ?_)
  exact wL8 FU a1 a2 (0 : Int64) (0 : Int64) (0 : Int32) u H locs ls hw (lv_sub hl [3, 4, 5, 2, 1, 0] rfl) hf
def f_X9_low (a1 : Int32) (a2 : Int32) (u : SS) : Option (Int32 × SS) :=
  ob (f_X9_noBid a1 a2 u) fun r3 u2 => if r3 = 0 then (ob (f_X9_cell a1 a2 u2) fun r6 u5 => ob (f_X1_standsAt r6 u5) fun r9 u8 => if r9 = 0 then (ob (f_X9_refuse (-5 : Int32) u8) fun r15 u14 => some (r15, u14)) else (ob (f_X1_isTooLow a1 a2 u8) fun r12 u11 => if r12 = 0 then (some ((0 : Int32), u11)) else (some ((1 : Int32), u11)))) else (ob (f_X9_refuse (-1 : Int32) u2) fun r18 u17 => some (r18, u17))
set_option maxHeartbeats 4000000 in
set_option maxRecDepth 100000 in
theorem c_X9_low (l : Launch) (ev : EV) (a1 : Int32) (a2 : Int32) (u : SS) {r : Int32} {u' : SS} (hf : f_X9_low a1 a2 u = some (r, u')) : MI wdB l yX9_low cX9_low 3 (some .int) 4 ev [.ref (ev.2.1 0), .int a1, .int a2] u r u' := by
  refine bodyI (by decide +kernel) rfl (Nat.le_of_ble_eq_true rfl) ?_
  intro p e s m below meth cd ls H locs hc hr hlk hw hl
  generalize hav : (List.toArray [.ref (ev.2.1 0), .int a1, .int a2] : Array Value) = av at hc ⊢
  obtain ⟨hx, hb, hml, hown, hts, hK, hZ⟩ := id hc
  have hl : lv_has ls 3 [(0, .ref (ev.2.1 0)), (1, .int a1), (2, .int a2)] := hl
  unfold f_X9_low at hf
  refine lv_aload_n hx hb dX9_low_0 rfl (lv_at hl 0 rfl) ?_
  refine lv_iload_n hx hb dX9_low_1 rfl (lv_at hl 1 rfl) ?_
  refine lv_iload_n hx hb dX9_low_2 rfl (lv_at hl 2 rfl) ?_
  obtain ⟨r3, u2, h1, hf⟩ := ob_some hf
  refine endI okB hw (runV_ok (As := [.int a1, .int a2]) (rest := []) okB hc hw (c_X9_noBid l ev a1 a2 u h1 H.size) kv_X9_noBid ml_X9_93 (rvB0 ev u) hl.1 rfl rfl (Nat.le_of_ble_eq_true rfl) (rm_le (by decide) (by decide)) dX9_low_3) (fun H locs hw => ?_)
  refine lv_if_eq (tgt := 15) hx hb dX9_low_6 (by decide) (fun z => ?_) (fun z => ?_)
  · have hf := it_pos z hf
    refine lv_aload_n hx hb dX9_low_15 rfl (lv_at hl 0 rfl) ?_
    refine gB0_0 hc hw fl_X9_12 dX9_low_16 ?_
    refine lv_iload_n hx hb dX9_low_19 rfl (lv_at hl 1 rfl) ?_
    refine lv_iload_n hx hb dX9_low_20 rfl (lv_at hl 2 rfl) ?_
    obtain ⟨r6, u5, h4, hf⟩ := ob_some hf
    refine endI okB hw (runS_ok (As := [.int a1, .int a2]) (rest := [.ref (ev.2.1 1)]) okB hc hw (c_X9_cell l ev a1 a2 u2 h4 H.size) ks_X9_cell ml_X9_110 hl.1 rfl rfl (Nat.le_of_ble_eq_true rfl) (rm_le (by decide) (by decide)) dX9_low_21) (fun H locs hw => ?_)
    obtain ⟨r9, u8, h7, hf⟩ := ob_some hf
    refine endI okB hw (runV_ok (As := [.int r6]) (rest := []) okB hc hw (c_X1_standsAt l ev r6 u5 h7 H.size) kv_X1_standsAt ml_X9_138 (rvB1 ev u5) hl.1 rfl rfl (Nat.le_of_ble_eq_true rfl) (rm_le (by decide) (by decide)) dX9_low_24) (fun H locs hw => ?_)
    refine lv_if_ne (tgt := 37) hx hb dX9_low_27 (by decide) (fun z => ?_) (fun z => ?_)
    · have hf := it_neg z hf
      refine lv_aload_n hx hb dX9_low_37 rfl (lv_at hl 0 rfl) ?_
      refine gB0_0 hc hw fl_X9_12 dX9_low_38 ?_
      refine lv_iload_n hx hb dX9_low_41 rfl (lv_at hl 1 rfl) ?_
      refine lv_iload_n hx hb dX9_low_42 rfl (lv_at hl 2 rfl) ?_
      obtain ⟨r12, u11, h10, hf⟩ := ob_some hf
      refine endI okB hw (runV_ok (As := [.int a1, .int a2]) (rest := []) okB hc hw (c_X1_isTooLow l ev a1 a2 u8 h10 H.size) kv_X1_isTooLow ml_X9_233 (rvB1 ev u8) hl.1 rfl rfl (Nat.le_of_ble_eq_true rfl) (rm_le (by decide) (by decide)) dX9_low_43) (fun H locs hw => ?_)
      refine lv_if_eq (tgt := 53) hx hb dX9_low_46 (by decide) (fun z => ?_) (fun z => ?_)
      · have hf := it_pos z hf
        refine lv_iconst (v := (0 : Int32)) hx hb dX9_low_53 (by decide) ?_
        exact retI hc hr hlk hw hf dX9_low_54
      · have hf := it_neg z hf
        refine lv_iconst (v := (1 : Int32)) hx hb dX9_low_49 (by decide) ?_
        refine lv_goto (tgt := 54) hx hb dX9_low_50 (by decide) ?_
        exact retI hc hr hlk hw hf dX9_low_54
    · have hf := it_pos z hf
      refine lv_aload_n hx hb dX9_low_30 rfl (lv_at hl 0 rfl) ?_
      refine lv_bipush (v := (-5 : Int32)) hx hb dX9_low_31 (by decide) ?_
      obtain ⟨r15, u14, h13, hf⟩ := ob_some hf
      refine endI okB hw (runV_ok (As := [.int (-5 : Int32)]) (rest := []) okB hc hw (c_X9_refuse l ev (-5 : Int32) u8 h13 H.size) kv_X9_refuse ml_X9_62 (rvB0 ev u8) hl.1 rfl rfl (Nat.le_of_ble_eq_true rfl) (rm_le (by decide) (by decide)) dX9_low_33) (fun H locs hw => ?_)
      exact retI hc hr hlk hw hf dX9_low_36
  · have hf := it_neg z hf
    refine lv_aload_n hx hb dX9_low_9 rfl (lv_at hl 0 rfl) ?_
    refine lv_iconst (v := (-1 : Int32)) hx hb dX9_low_10 (by decide) ?_
    obtain ⟨r18, u17, h16, hf⟩ := ob_some hf
    refine endI okB hw (runV_ok (As := [.int (-1 : Int32)]) (rest := []) okB hc hw (c_X9_refuse l ev (-1 : Int32) u2 h16 H.size) kv_X9_refuse ml_X9_62 (rvB0 ev u2) hl.1 rfl rfl (Nat.le_of_ble_eq_true rfl) (rm_le (by decide) (by decide)) dX9_low_11) (fun H locs hw => ?_)
    exact retI hc hr hlk hw hf dX9_low_14
def f_X9_ask_L66 (u : SS) : Option (Int32 × SS) :=
  ob (f_X9_refuse (-3 : Int32) u) fun r12 u11 => some (r12, u11)
def f_X9_ask (a1 : Int32) (a2 : Int32) (a3 : Int32) (u : SS) : Option (Int32 × SS) :=
  ob (f_X9_noBid a1 a2 u) fun r3 u2 => if r3 = 0 then (ob (f_X9_cell a1 a2 u2) fun r6 u5 => ob (f_X1_standsAt r6 u5) fun r9 u8 => if r9 = 0 then (ob (f_X9_refuse (-5 : Int32) u8) fun r25 u24 => some (r25, u24)) else (oi r6 48 (if (gA u8 5 r6.toNatClampNeg) = 0 then (ob (f_X1_isTooLow a1 a2 u8) fun r15 u14 => if r15 = 0 then (f_X9_ask_L66 u14) else (ob (f_X9_inRange a3 ((gI u14 0) + (1 : Int32)) (999999 : Int32) u14) fun r18 u17 => if r18 = 0 then (oi r6 48 (lt (tA u17 5 r6 a3) fun u19 => some ((1 : Int32), u19))) else (ob (f_X9_refuse r18 u17) fun r22 u21 => some (r22, u21)))) else (f_X9_ask_L66 u8)))) else (ob (f_X9_refuse (-1 : Int32) u2) fun r28 u27 => some (r28, u27))
set_option maxHeartbeats 4000000 in
set_option maxRecDepth 100000 in
theorem c_X9_ask (l : Launch) (ev : EV) (a1 : Int32) (a2 : Int32) (a3 : Int32) (u : SS) {r : Int32} {u' : SS} (hf : f_X9_ask a1 a2 a3 u = some (r, u')) : MI wdB l yX9_ask cX9_ask 6 (some .int) 4 ev [.ref (ev.2.1 0), .int a1, .int a2, .int a3] u r u' := by
  refine bodyI (by decide +kernel) rfl (Nat.le_of_ble_eq_true rfl) ?_
  intro p e s m below meth cd ls H locs hc hr hlk hw hl
  generalize hav : (List.toArray [.ref (ev.2.1 0), .int a1, .int a2, .int a3] : Array Value) = av at hc ⊢
  obtain ⟨hx, hb, hml, hown, hts, hK, hZ⟩ := id hc
  have hl : lv_has ls 6 [(0, .ref (ev.2.1 0)), (1, .int a1), (2, .int a2), (3, .int a3)] := hl
  have wL66 : ∀ (u : SS) (H : Heap) (locs : List Loc) (ls : Array Slot), VW wdB ev s u H locs → lv_has ls 6 [(0, .ref (ev.2.1 0))] → f_X9_ask_L66  u = some (r, u') → W p l e (rmk 4) s m av below meth cd H locs 0 0 (ZI wdB ev s below av r u') (F0 m 66 ls []) := by
    intro  u H locs ls hw hl hf
    unfold f_X9_ask_L66 at hf
    refine lv_aload_n hx hb dX9_ask_66 rfl (lv_at hl 0 rfl) ?_
    refine lv_bipush (v := (-3 : Int32)) hx hb dX9_ask_67 (by decide) ?_
    obtain ⟨r12, u11, h10, hf⟩ := ob_some hf
    refine endI okB hw (runV_ok (As := [.int (-3 : Int32)]) (rest := []) okB hc hw (c_X9_refuse l ev (-3 : Int32) u h10 H.size) kv_X9_refuse ml_X9_62 (rvB0 ev u) hl.1 rfl rfl (Nat.le_of_ble_eq_true rfl) (rm_le (by decide) (by decide)) dX9_ask_69) (fun H locs hw => ?_)
    exact retI hc hr hlk hw hf dX9_ask_72
  unfold f_X9_ask at hf
  refine lv_aload_n hx hb dX9_ask_0 rfl (lv_at hl 0 rfl) ?_
  refine lv_iload_n hx hb dX9_ask_1 rfl (lv_at hl 1 rfl) ?_
  refine lv_iload_n hx hb dX9_ask_2 rfl (lv_at hl 2 rfl) ?_
  obtain ⟨r3, u2, h1, hf⟩ := ob_some hf
  refine endI okB hw (runV_ok (As := [.int a1, .int a2]) (rest := []) okB hc hw (c_X9_noBid l ev a1 a2 u h1 H.size) kv_X9_noBid ml_X9_93 (rvB0 ev u) hl.1 rfl rfl (Nat.le_of_ble_eq_true rfl) (rm_le (by decide) (by decide)) dX9_ask_3) (fun H locs hw => ?_)
  refine lv_if_eq (tgt := 15) hx hb dX9_ask_6 (by decide) (fun z => ?_) (fun z => ?_)
  · have hf := it_pos z hf
    refine lv_iload_n hx hb dX9_ask_15 rfl (lv_at hl 1 rfl) ?_
    refine lv_iload_n hx hb dX9_ask_16 rfl (lv_at hl 2 rfl) ?_
    obtain ⟨r6, u5, h4, hf⟩ := ob_some hf
    refine endI okB hw (runS_ok (As := [.int a1, .int a2]) (rest := []) okB hc hw (c_X9_cell l ev a1 a2 u2 h4 H.size) ks_X9_cell ml_X9_110 hl.1 rfl rfl (Nat.le_of_ble_eq_true rfl) (rm_le (by decide) (by decide)) dX9_ask_17) (fun H locs hw => ?_)
    refine lv_istore (lv' := [(4, .int r6), (0, .ref (ev.2.1 0)), (1, .int a1), (2, .int a2), (3, .int a3)]) hx hb dX9_ask_20 hl (by decide) rfl (fun ls hl => ?_)
    refine lv_aload_n hx hb dX9_ask_22 rfl (lv_at hl 1 rfl) ?_
    refine gB0_0 hc hw fl_X9_12 dX9_ask_23 ?_
    refine lv_iload hx hb dX9_ask_26 (lv_at hl 0 rfl) ?_
    obtain ⟨r9, u8, h7, hf⟩ := ob_some hf
    refine endI okB hw (runV_ok (As := [.int r6]) (rest := []) okB hc hw (c_X1_standsAt l ev r6 u5 h7 H.size) kv_X1_standsAt ml_X9_138 (rvB1 ev u5) hl.1 rfl rfl (Nat.le_of_ble_eq_true rfl) (rm_le (by decide) (by decide)) dX9_ask_28) (fun H locs hw => ?_)
    refine lv_if_ne (tgt := 41) hx hb dX9_ask_31 (by decide) (fun z => ?_) (fun z => ?_)
    · have hf := it_neg z hf
      refine lv_aload_n hx hb dX9_ask_41 rfl (lv_at hl 1 rfl) ?_
      refine gB0_0 hc hw fl_X9_12 dX9_ask_42 ?_
      refine gB1_4 hc hw fl_X9_236 dX9_ask_45 ?_
      refine lv_iload hx hb dX9_ask_48 (lv_at hl 0 rfl) ?_
      obtain ⟨z, hf⟩ := oi_some hf
      refine aB14 hc hw z dX9_ask_50 ?_
      refine lv_if_ne (tgt := 66) hx hb dX9_ask_51 (by decide) (fun z => ?_) (fun z => ?_)
      · have hf := it_neg z hf
        exact wL66 u8 H locs ls hw (lv_sub hl [1] rfl) hf
      · have hf := it_pos z hf
        refine lv_aload_n hx hb dX9_ask_54 rfl (lv_at hl 1 rfl) ?_
        refine gB0_0 hc hw fl_X9_12 dX9_ask_55 ?_
        refine lv_iload_n hx hb dX9_ask_58 rfl (lv_at hl 2 rfl) ?_
        refine lv_iload_n hx hb dX9_ask_59 rfl (lv_at hl 3 rfl) ?_
        obtain ⟨r15, u14, h13, hf⟩ := ob_some hf
        refine endI okB hw (runV_ok (As := [.int a1, .int a2]) (rest := []) okB hc hw (c_X1_isTooLow l ev a1 a2 u8 h13 H.size) kv_X1_isTooLow ml_X9_233 (rvB1 ev u8) hl.1 rfl rfl (Nat.le_of_ble_eq_true rfl) (rm_le (by decide) (by decide)) dX9_ask_60) (fun H locs hw => ?_)
        refine lv_if_ne (tgt := 73) hx hb dX9_ask_63 (by decide) (fun z => ?_) (fun z => ?_)
        · have hf := it_neg z hf
          refine lv_iload_n hx hb dX9_ask_73 rfl (lv_at hl 4 rfl) ?_
          refine lv_aload_n hx hb dX9_ask_74 rfl (lv_at hl 1 rfl) ?_
          refine gB0_0 hc hw fl_X9_12 dX9_ask_75 ?_
          refine gB1_9 hc hw fl_X9_67 dX9_ask_78 ?_
          refine lv_iconst (v := (1 : Int32)) hx hb dX9_ask_81 (by decide) ?_
          refine lv_iadd hx hb dX9_ask_82 ?_
          refine lv_ldc (v := (999999 : Int32)) hx hb hown (hts _ ct_X9_66) dX9_ask_83 ?_
          obtain ⟨r18, u17, h16, hf⟩ := ob_some hf
          refine endI okB hw (runS_ok (As := [.int a3, .int ((gI u14 0) + (1 : Int32)), .int (999999 : Int32)]) (rest := []) okB hc hw (c_X9_inRange l ev a3 ((gI u14 0) + (1 : Int32)) (999999 : Int32) u14 h16 H.size) ks_X9_inRange ml_X9_76 hl.1 rfl rfl (Nat.le_of_ble_eq_true rfl) (rm_le (by decide) (by decide)) dX9_ask_85) (fun H locs hw => ?_)
          refine lv_istore (lv' := [(5, .int r18), (4, .int r6), (0, .ref (ev.2.1 0)), (1, .int a1), (2, .int a2), (3, .int a3)]) hx hb dX9_ask_88 hl (by decide) rfl (fun ls hl => ?_)
          refine lv_iload hx hb dX9_ask_90 (lv_at hl 0 rfl) ?_
          refine lv_if_eq (tgt := 102) hx hb dX9_ask_92 (by decide) (fun z => ?_) (fun z => ?_)
          · have hf := it_pos z hf
            refine lv_aload_n hx hb dX9_ask_102 rfl (lv_at hl 2 rfl) ?_
            refine gB0_0 hc hw fl_X9_12 dX9_ask_103 ?_
            refine gB1_4 hc hw fl_X9_236 dX9_ask_106 ?_
            refine lv_iload hx hb dX9_ask_109 (lv_at hl 1 rfl) ?_
            refine lv_iload_n hx hb dX9_ask_111 rfl (lv_at hl 5 rfl) ?_
            obtain ⟨z, hf⟩ := oi_some hf
            refine tB14 hc hw z dX9_ask_112 (fun H locs hw => ?_)
            obtain ⟨u19, eu19, hf⟩ := lt_some hf
            have hw := VW.nm eu19 hw
            refine lv_iconst (v := (1 : Int32)) hx hb dX9_ask_113 (by decide) ?_
            exact retI hc hr hlk hw hf dX9_ask_114
          · have hf := it_neg z hf
            refine lv_aload_n hx hb dX9_ask_95 rfl (lv_at hl 2 rfl) ?_
            refine lv_iload hx hb dX9_ask_96 (lv_at hl 0 rfl) ?_
            obtain ⟨r22, u21, h20, hf⟩ := ob_some hf
            refine endI okB hw (runV_ok (As := [.int r18]) (rest := []) okB hc hw (c_X9_refuse l ev r18 u17 h20 H.size) kv_X9_refuse ml_X9_62 (rvB0 ev u17) hl.1 rfl rfl (Nat.le_of_ble_eq_true rfl) (rm_le (by decide) (by decide)) dX9_ask_98) (fun H locs hw => ?_)
            exact retI hc hr hlk hw hf dX9_ask_101
        · have hf := it_pos z hf
          exact wL66 u14 H locs ls hw (lv_sub hl [1] rfl) hf
    · have hf := it_pos z hf
      refine lv_aload_n hx hb dX9_ask_34 rfl (lv_at hl 1 rfl) ?_
      refine lv_bipush (v := (-5 : Int32)) hx hb dX9_ask_35 (by decide) ?_
      obtain ⟨r25, u24, h23, hf⟩ := ob_some hf
      refine endI okB hw (runV_ok (As := [.int (-5 : Int32)]) (rest := []) okB hc hw (c_X9_refuse l ev (-5 : Int32) u8 h23 H.size) kv_X9_refuse ml_X9_62 (rvB0 ev u8) hl.1 rfl rfl (Nat.le_of_ble_eq_true rfl) (rm_le (by decide) (by decide)) dX9_ask_37) (fun H locs hw => ?_)
      exact retI hc hr hlk hw hf dX9_ask_40
  · have hf := it_neg z hf
    refine lv_aload_n hx hb dX9_ask_9 rfl (lv_at hl 0 rfl) ?_
    refine lv_iconst (v := (-1 : Int32)) hx hb dX9_ask_10 (by decide) ?_
    obtain ⟨r28, u27, h26, hf⟩ := ob_some hf
    refine endI okB hw (runV_ok (As := [.int (-1 : Int32)]) (rest := []) okB hc hw (c_X9_refuse l ev (-1 : Int32) u2 h26 H.size) kv_X9_refuse ml_X9_62 (rvB0 ev u2) hl.1 rfl rfl (Nat.le_of_ble_eq_true rfl) (rm_le (by decide) (by decide)) dX9_ask_11) (fun H locs hw => ?_)
    exact retI hc hr hlk hw hf dX9_ask_14
def f_X9_answer (a1 : Int32) (a2 : Int32) (u : SS) : Option (Int32 × SS) :=
  ob (f_X9_noBid a1 a2 u) fun r3 u2 => if r3 = 0 then (ob (f_X9_cell a1 a2 u2) fun r6 u5 => ob (f_X1_standsAt r6 u5) fun r9 u8 => if r9 = 0 then (ob (f_X9_refuse (-5 : Int32) u8) fun r16 u15 => some (r16, u15)) else (oi r6 48 (if (gA u8 5 r6.toNatClampNeg) = 0 then (ob (f_X9_refuse (-3 : Int32) u8) fun r13 u12 => some (r13, u12)) else (oi r6 48 (lt (tA u8 5 r6 (0 : Int32)) fun u10 => some ((1 : Int32), u10)))))) else (ob (f_X9_refuse (-1 : Int32) u2) fun r19 u18 => some (r19, u18))
set_option maxHeartbeats 4000000 in
set_option maxRecDepth 100000 in
theorem c_X9_answer (l : Launch) (ev : EV) (a1 : Int32) (a2 : Int32) (u : SS) {r : Int32} {u' : SS} (hf : f_X9_answer a1 a2 u = some (r, u')) : MI wdB l yX9_answer cX9_answer 4 (some .int) 3 ev [.ref (ev.2.1 0), .int a1, .int a2] u r u' := by
  refine bodyI (by decide +kernel) rfl (Nat.le_of_ble_eq_true rfl) ?_
  intro p e s m below meth cd ls H locs hc hr hlk hw hl
  generalize hav : (List.toArray [.ref (ev.2.1 0), .int a1, .int a2] : Array Value) = av at hc ⊢
  obtain ⟨hx, hb, hml, hown, hts, hK, hZ⟩ := id hc
  have hl : lv_has ls 4 [(0, .ref (ev.2.1 0)), (1, .int a1), (2, .int a2)] := hl
  unfold f_X9_answer at hf
  refine lv_aload_n hx hb dX9_answer_0 rfl (lv_at hl 0 rfl) ?_
  refine lv_iload_n hx hb dX9_answer_1 rfl (lv_at hl 1 rfl) ?_
  refine lv_iload_n hx hb dX9_answer_2 rfl (lv_at hl 2 rfl) ?_
  obtain ⟨r3, u2, h1, hf⟩ := ob_some hf
  refine endI okB hw (runV_ok (As := [.int a1, .int a2]) (rest := []) okB hc hw (c_X9_noBid l ev a1 a2 u h1 H.size) kv_X9_noBid ml_X9_93 (rvB0 ev u) hl.1 rfl rfl (Nat.le_of_ble_eq_true rfl) (rm_le (by decide) (by decide)) dX9_answer_3) (fun H locs hw => ?_)
  refine lv_if_eq (tgt := 15) hx hb dX9_answer_6 (by decide) (fun z => ?_) (fun z => ?_)
  · have hf := it_pos z hf
    refine lv_iload_n hx hb dX9_answer_15 rfl (lv_at hl 1 rfl) ?_
    refine lv_iload_n hx hb dX9_answer_16 rfl (lv_at hl 2 rfl) ?_
    obtain ⟨r6, u5, h4, hf⟩ := ob_some hf
    refine endI okB hw (runS_ok (As := [.int a1, .int a2]) (rest := []) okB hc hw (c_X9_cell l ev a1 a2 u2 h4 H.size) ks_X9_cell ml_X9_110 hl.1 rfl rfl (Nat.le_of_ble_eq_true rfl) (rm_le (by decide) (by decide)) dX9_answer_17) (fun H locs hw => ?_)
    refine lv_istore_n (lv' := [(3, .int r6), (0, .ref (ev.2.1 0)), (1, .int a1), (2, .int a2)]) hx hb dX9_answer_20 rfl hl (by decide) rfl (fun ls hl => ?_)
    refine lv_aload_n hx hb dX9_answer_21 rfl (lv_at hl 1 rfl) ?_
    refine gB0_0 hc hw fl_X9_12 dX9_answer_22 ?_
    refine lv_iload_n hx hb dX9_answer_25 rfl (lv_at hl 0 rfl) ?_
    obtain ⟨r9, u8, h7, hf⟩ := ob_some hf
    refine endI okB hw (runV_ok (As := [.int r6]) (rest := []) okB hc hw (c_X1_standsAt l ev r6 u5 h7 H.size) kv_X1_standsAt ml_X9_138 (rvB1 ev u5) hl.1 rfl rfl (Nat.le_of_ble_eq_true rfl) (rm_le (by decide) (by decide)) dX9_answer_26) (fun H locs hw => ?_)
    refine lv_if_ne (tgt := 39) hx hb dX9_answer_29 (by decide) (fun z => ?_) (fun z => ?_)
    · have hf := it_neg z hf
      refine lv_aload_n hx hb dX9_answer_39 rfl (lv_at hl 1 rfl) ?_
      refine gB0_0 hc hw fl_X9_12 dX9_answer_40 ?_
      refine gB1_4 hc hw fl_X9_236 dX9_answer_43 ?_
      refine lv_iload_n hx hb dX9_answer_46 rfl (lv_at hl 0 rfl) ?_
      obtain ⟨z, hf⟩ := oi_some hf
      refine aB14 hc hw z dX9_answer_47 ?_
      refine lv_if_ne (tgt := 58) hx hb dX9_answer_48 (by decide) (fun z => ?_) (fun z => ?_)
      · have hf := it_neg z hf
        refine lv_aload_n hx hb dX9_answer_58 rfl (lv_at hl 1 rfl) ?_
        refine gB0_0 hc hw fl_X9_12 dX9_answer_59 ?_
        refine gB1_4 hc hw fl_X9_236 dX9_answer_62 ?_
        refine lv_iload_n hx hb dX9_answer_65 rfl (lv_at hl 0 rfl) ?_
        refine lv_iconst (v := (0 : Int32)) hx hb dX9_answer_66 (by decide) ?_
        obtain ⟨z, hf⟩ := oi_some hf
        refine tB14 hc hw z dX9_answer_67 (fun H locs hw => ?_)
        obtain ⟨u10, eu10, hf⟩ := lt_some hf
        have hw := VW.nm eu10 hw
        refine lv_iconst (v := (1 : Int32)) hx hb dX9_answer_68 (by decide) ?_
        exact retI hc hr hlk hw hf dX9_answer_69
      · have hf := it_pos z hf
        refine lv_aload_n hx hb dX9_answer_51 rfl (lv_at hl 1 rfl) ?_
        refine lv_bipush (v := (-3 : Int32)) hx hb dX9_answer_52 (by decide) ?_
        obtain ⟨r13, u12, h11, hf⟩ := ob_some hf
        refine endI okB hw (runV_ok (As := [.int (-3 : Int32)]) (rest := []) okB hc hw (c_X9_refuse l ev (-3 : Int32) u8 h11 H.size) kv_X9_refuse ml_X9_62 (rvB0 ev u8) hl.1 rfl rfl (Nat.le_of_ble_eq_true rfl) (rm_le (by decide) (by decide)) dX9_answer_54) (fun H locs hw => ?_)
        exact retI hc hr hlk hw hf dX9_answer_57
    · have hf := it_pos z hf
      refine lv_aload_n hx hb dX9_answer_32 rfl (lv_at hl 1 rfl) ?_
      refine lv_bipush (v := (-5 : Int32)) hx hb dX9_answer_33 (by decide) ?_
      obtain ⟨r16, u15, h14, hf⟩ := ob_some hf
      refine endI okB hw (runV_ok (As := [.int (-5 : Int32)]) (rest := []) okB hc hw (c_X9_refuse l ev (-5 : Int32) u8 h14 H.size) kv_X9_refuse ml_X9_62 (rvB0 ev u8) hl.1 rfl rfl (Nat.le_of_ble_eq_true rfl) (rm_le (by decide) (by decide)) dX9_answer_35) (fun H locs hw => ?_)
      exact retI hc hr hlk hw hf dX9_answer_38
  · have hf := it_neg z hf
    refine lv_aload_n hx hb dX9_answer_9 rfl (lv_at hl 0 rfl) ?_
    refine lv_iconst (v := (-1 : Int32)) hx hb dX9_answer_10 (by decide) ?_
    obtain ⟨r19, u18, h17, hf⟩ := ob_some hf
    refine endI okB hw (runV_ok (As := [.int (-1 : Int32)]) (rest := []) okB hc hw (c_X9_refuse l ev (-1 : Int32) u2 h17 H.size) kv_X9_refuse ml_X9_62 (rvB0 ev u2) hl.1 rfl rfl (Nat.le_of_ble_eq_true rfl) (rm_le (by decide) (by decide)) dX9_answer_11) (fun H locs hw => ?_)
    exact retI hc hr hlk hw hf dX9_answer_14
def f_X1_clearOut (a1 : Int32) (u : SS) : Option SS :=
  oi a1 48 (lt (tZ u 4 a1 (0 : Int32)) fun u1 => ob (f_X1_isLapsed a1 u1) fun r4 u3 => if r4 = 0 then (some u3) else (oi a1 48 (lt (tA u3 5 a1 (0 : Int32)) fun u5 => some u5)))
set_option maxHeartbeats 4000000 in
set_option maxRecDepth 100000 in
theorem c_X1_clearOut (l : Launch) (ev : EV) (a1 : Int32) (u : SS) {u' : SS} (hf : f_X1_clearOut a1 u = some u') : MV wdB l yX1_clearOut cX1_clearOut 2 none 1 ev [.ref (ev.2.1 1), .int a1] u u' := by
  refine bodyV (by decide +kernel) rfl (Nat.le_of_ble_eq_true rfl) ?_
  intro p e s m below meth cd ls H locs hc hr hlk hw hl
  generalize hav : (List.toArray [.ref (ev.2.1 1), .int a1] : Array Value) = av at hc ⊢
  obtain ⟨hx, hb, hml, hown, hts, hK, hZ⟩ := id hc
  have hl : lv_has ls 2 [(0, .ref (ev.2.1 1)), (1, .int a1)] := hl
  unfold f_X1_clearOut at hf
  refine lv_aload_n hx hb dX1_clearOut_0 rfl (lv_at hl 0 rfl) ?_
  refine gB1_3 hc hw fl_X1_22 dX1_clearOut_1 ?_
  refine lv_iload_n hx hb dX1_clearOut_4 rfl (lv_at hl 1 rfl) ?_
  refine lv_iconst (v := (0 : Int32)) hx hb dX1_clearOut_5 (by decide) ?_
  obtain ⟨z, hf⟩ := oi_some hf
  refine tB13 hc hw z dX1_clearOut_6 (fun H locs hw => ?_)
  obtain ⟨u1, eu1, hf⟩ := lt_some hf
  have hw := VW.nm eu1 hw
  refine lv_aload_n hx hb dX1_clearOut_7 rfl (lv_at hl 0 rfl) ?_
  refine lv_iload_n hx hb dX1_clearOut_8 rfl (lv_at hl 1 rfl) ?_
  obtain ⟨r4, u3, h2, hf⟩ := ob_some hf
  refine endI okB hw (runV_ok (As := [.int a1]) (rest := []) okB hc hw (c_X1_isLapsed l ev a1 u1 h2 H.size) kv_X1_isLapsed ml_X1_72 (rvB1 ev u1) hl.1 rfl rfl (Nat.le_of_ble_eq_true rfl) (rm_le (by decide) (by decide)) dX1_clearOut_9) (fun H locs hw => ?_)
  refine lv_if_eq (tgt := 22) hx hb dX1_clearOut_12 (by decide) (fun z => ?_) (fun z => ?_)
  · have hf := it_pos z hf
    exact retV hc hr hlk hw hf dX1_clearOut_22
  · have hf := it_neg z hf
    refine lv_aload_n hx hb dX1_clearOut_15 rfl (lv_at hl 0 rfl) ?_
    refine gB1_4 hc hw fl_X1_25 dX1_clearOut_16 ?_
    refine lv_iload_n hx hb dX1_clearOut_19 rfl (lv_at hl 1 rfl) ?_
    refine lv_iconst (v := (0 : Int32)) hx hb dX1_clearOut_20 (by decide) ?_
    obtain ⟨z, hf⟩ := oi_some hf
    refine tB14 hc hw z dX1_clearOut_21 (fun H locs hw => ?_)
    obtain ⟨u5, eu5, hf⟩ := lt_some hf
    have hw := VW.nm eu5 hw
    exact retV hc hr hlk hw hf dX1_clearOut_22
def f_X9_out_L60 (b3 : Int32) (b5 : Int32) (u : SS) : Option (Int32 × SS) :=
  if b5 = b3 then (some ((0 : Int32), u)) else (some ((1 : Int32), u))
def f_X9_out (a1 : Int32) (a2 : Int32) (a3 : Int32) (u : SS) : Option (Int32 × SS) :=
  ob (f_X9_noBid a1 a2 u) fun r3 u2 => if r3 = 0 then (ob (f_X9_cell a1 a2 u2) fun r6 u5 => ob (f_X1_isOutAt r6 u5) fun r9 u8 => if a3 = 0 then (ov (f_X1_clearOut r6 u8) fun u11 => f_X9_out_L60 a3 r9 u11) else (oi r6 48 (lt (tZ u8 4 r6 (1 : Int32)) fun u12 => f_X9_out_L60 a3 r9 u12))) else (ob (f_X9_refuse (-1 : Int32) u2) fun r15 u14 => some (r15, u14))
set_option maxHeartbeats 4000000 in
set_option maxRecDepth 100000 in
theorem c_X9_out (l : Launch) (ev : EV) (a1 : Int32) (a2 : Int32) (a3 : Int32) (u : SS) {r : Int32} {u' : SS} (hf : f_X9_out a1 a2 a3 u = some (r, u')) : MI wdB l yX9_out cX9_out 6 (some .int) 2 ev [.ref (ev.2.1 0), .int a1, .int a2, .int a3] u r u' := by
  refine bodyI (by decide +kernel) rfl (Nat.le_of_ble_eq_true rfl) ?_
  intro p e s m below meth cd ls H locs hc hr hlk hw hl
  generalize hav : (List.toArray [.ref (ev.2.1 0), .int a1, .int a2, .int a3] : Array Value) = av at hc ⊢
  obtain ⟨hx, hb, hml, hown, hts, hK, hZ⟩ := id hc
  have hl : lv_has ls 6 [(0, .ref (ev.2.1 0)), (1, .int a1), (2, .int a2), (3, .int a3)] := hl
  have wL60 : ∀ (b3 : Int32) (b5 : Int32) (u : SS) (H : Heap) (locs : List Loc) (ls : Array Slot), VW wdB ev s u H locs → lv_has ls 6 [(3, .int b3), (5, .int b5)] → f_X9_out_L60 b3 b5 u = some (r, u') → W p l e (rmk 2) s m av below meth cd H locs 0 0 (ZI wdB ev s below av r u') (F0 m 60 ls []) := by
    intro b3 b5 u H locs ls hw hl hf
    unfold f_X9_out_L60 at hf
    refine lv_iload hx hb dX9_out_60 (lv_at hl 1 rfl) ?_
    refine lv_iload_n hx hb dX9_out_62 rfl (lv_at hl 0 rfl) ?_
    refine lv_icmp_ne (tgt := 70) hx hb dX9_out_63 (by decide) (fun z => ?_) (fun z => ?_)
    · have hf := it_neg z hf
      refine lv_iconst (v := (1 : Int32)) hx hb dX9_out_70 (by decide) ?_
      exact retI hc hr hlk hw hf dX9_out_71
    · have hf := it_pos z hf
      refine lv_iconst (v := (0 : Int32)) hx hb dX9_out_66 (by decide) ?_
      refine lv_goto (tgt := 71) hx hb dX9_out_67 (by decide) ?_
      exact retI hc hr hlk hw hf dX9_out_71
  unfold f_X9_out at hf
  refine lv_aload_n hx hb dX9_out_0 rfl (lv_at hl 0 rfl) ?_
  refine lv_iload_n hx hb dX9_out_1 rfl (lv_at hl 1 rfl) ?_
  refine lv_iload_n hx hb dX9_out_2 rfl (lv_at hl 2 rfl) ?_
  obtain ⟨r3, u2, h1, hf⟩ := ob_some hf
  refine endI okB hw (runV_ok (As := [.int a1, .int a2]) (rest := []) okB hc hw (c_X9_noBid l ev a1 a2 u h1 H.size) kv_X9_noBid ml_X9_93 (rvB0 ev u) hl.1 rfl rfl (Nat.le_of_ble_eq_true rfl) (rm_le (by decide) (by decide)) dX9_out_3) (fun H locs hw => ?_)
  refine lv_if_eq (tgt := 15) hx hb dX9_out_6 (by decide) (fun z => ?_) (fun z => ?_)
  · have hf := it_pos z hf
    refine lv_iload_n hx hb dX9_out_15 rfl (lv_at hl 1 rfl) ?_
    refine lv_iload_n hx hb dX9_out_16 rfl (lv_at hl 2 rfl) ?_
    obtain ⟨r6, u5, h4, hf⟩ := ob_some hf
    refine endI okB hw (runS_ok (As := [.int a1, .int a2]) (rest := []) okB hc hw (c_X9_cell l ev a1 a2 u2 h4 H.size) ks_X9_cell ml_X9_110 hl.1 rfl rfl (Nat.le_of_ble_eq_true rfl) (rm_le (by decide) (by decide)) dX9_out_17) (fun H locs hw => ?_)
    refine lv_istore (lv' := [(4, .int r6), (0, .ref (ev.2.1 0)), (1, .int a1), (2, .int a2), (3, .int a3)]) hx hb dX9_out_20 hl (by decide) rfl (fun ls hl => ?_)
    refine lv_aload_n hx hb dX9_out_22 rfl (lv_at hl 1 rfl) ?_
    refine gB0_0 hc hw fl_X9_12 dX9_out_23 ?_
    refine lv_iload hx hb dX9_out_26 (lv_at hl 0 rfl) ?_
    obtain ⟨r9, u8, h7, hf⟩ := ob_some hf
    refine endI okB hw (runV_ok (As := [.int r6]) (rest := []) okB hc hw (c_X1_isOutAt l ev r6 u5 h7 H.size) kv_X1_isOutAt ml_X9_239 (rvB1 ev u5) hl.1 rfl rfl (Nat.le_of_ble_eq_true rfl) (rm_le (by decide) (by decide)) dX9_out_28) (fun H locs hw => ?_)
    refine lv_istore (lv' := [(5, .int r9), (4, .int r6), (0, .ref (ev.2.1 0)), (1, .int a1), (2, .int a2), (3, .int a3)]) hx hb dX9_out_31 hl (by decide) rfl (fun ls hl => ?_)
    refine lv_iload_n hx hb dX9_out_33 rfl (lv_at hl 5 rfl) ?_
    refine lv_if_eq (tgt := 51) hx hb dX9_out_34 (by decide) (fun z => ?_) (fun z => ?_)
    · have hf := it_pos z hf
      refine lv_aload_n hx hb dX9_out_51 rfl (lv_at hl 2 rfl) ?_
      refine gB0_0 hc hw fl_X9_12 dX9_out_52 ?_
      refine lv_iload hx hb dX9_out_55 (lv_at hl 1 rfl) ?_
      obtain ⟨u11, h10, hf⟩ := ov_some hf
      refine endV okB hw (runV_ok (As := [.int r6]) (rest := []) okB hc hw (c_X1_clearOut l ev r6 u8 h10 H.size) kv_X1_clearOut ml_X9_245 (rvB1 ev u8) hl.1 rfl rfl (Nat.le_of_ble_eq_true rfl) (rm_le (by decide) (by decide)) dX9_out_57) (fun H locs hw => ?_)
      exact wL60 a3 r9 u11 H locs ls hw (lv_sub hl [5, 0] rfl) hf
    · have hf := it_neg z hf
      refine lv_aload_n hx hb dX9_out_37 rfl (lv_at hl 2 rfl) ?_
      refine gB0_0 hc hw fl_X9_12 dX9_out_38 ?_
      refine gB1_3 hc hw fl_X9_242 dX9_out_41 ?_
      refine lv_iload hx hb dX9_out_44 (lv_at hl 1 rfl) ?_
      refine lv_iconst (v := (1 : Int32)) hx hb dX9_out_46 (by decide) ?_
      obtain ⟨z, hf⟩ := oi_some hf
      refine tB13 hc hw z dX9_out_47 (fun H locs hw => ?_)
      obtain ⟨u12, eu12, hf⟩ := lt_some hf
      have hw := VW.nm eu12 hw
      refine lv_goto (tgt := 60) hx hb dX9_out_48 (by decide) ?_
      exact wL60 a3 r9 u12 H locs ls hw (lv_sub hl [5, 0] rfl) hf
  · have hf := it_neg z hf
    refine lv_aload_n hx hb dX9_out_9 rfl (lv_at hl 0 rfl) ?_
    refine lv_iconst (v := (-1 : Int32)) hx hb dX9_out_10 (by decide) ?_
    obtain ⟨r15, u14, h13, hf⟩ := ob_some hf
    refine endI okB hw (runV_ok (As := [.int (-1 : Int32)]) (rest := []) okB hc hw (c_X9_refuse l ev (-1 : Int32) u2 h13 H.size) kv_X9_refuse ml_X9_62 (rvB0 ev u2) hl.1 rfl rfl (Nat.le_of_ble_eq_true rfl) (rm_le (by decide) (by decide)) dX9_out_11) (fun H locs hw => ?_)
    exact retI hc hr hlk hw hf dX9_out_14
def f_X9_most (a1 : Int32) (a2 : Int32) (u : SS) : Option (Int32 × SS) :=
  ob (f_X9_noBidder a1 u) fun r3 u2 => if r3 = 0 then (ob (f_X9_inRange a2 (0 : Int32) (6 : Int32) u2) fun r6 u5 => if r6 = 0 then (oi a1 8 (lt (gA u5 20 a1.toNatClampNeg) fun x7 => oi a1 8 (lt (tA u5 20 a1 a2) fun u8 => some (x7, u8)))) else (ob (f_X9_refuse r6 u5) fun r11 u10 => some (r11, u10))) else (ob (f_X9_refuse (-1 : Int32) u2) fun r14 u13 => some (r14, u13))
set_option maxHeartbeats 4000000 in
set_option maxRecDepth 100000 in
theorem c_X9_most (l : Launch) (ev : EV) (a1 : Int32) (a2 : Int32) (u : SS) {r : Int32} {u' : SS} (hf : f_X9_most a1 a2 u = some (r, u')) : MI wdB l yX9_most cX9_most 5 (some .int) 1 ev [.ref (ev.2.1 0), .int a1, .int a2] u r u' := by
  refine bodyI (by decide +kernel) rfl (Nat.le_of_ble_eq_true rfl) ?_
  intro p e s m below meth cd ls H locs hc hr hlk hw hl
  generalize hav : (List.toArray [.ref (ev.2.1 0), .int a1, .int a2] : Array Value) = av at hc ⊢
  obtain ⟨hx, hb, hml, hown, hts, hK, hZ⟩ := id hc
  have hl : lv_has ls 5 [(0, .ref (ev.2.1 0)), (1, .int a1), (2, .int a2)] := hl
  unfold f_X9_most at hf
  refine lv_iload_n hx hb dX9_most_0 rfl (lv_at hl 1 rfl) ?_
  obtain ⟨r3, u2, h1, hf⟩ := ob_some hf
  refine endI okB hw (runS_ok (As := [.int a1]) (rest := []) okB hc hw (c_X9_noBidder l ev a1 u h1 H.size) ks_X9_noBidder ml_X9_144 hl.1 rfl rfl (Nat.le_of_ble_eq_true rfl) (rm_le (by decide) (by decide)) dX9_most_1) (fun H locs hw => ?_)
  refine lv_if_eq (tgt := 13) hx hb dX9_most_4 (by decide) (fun z => ?_) (fun z => ?_)
  · have hf := it_pos z hf
    refine lv_iload_n hx hb dX9_most_13 rfl (lv_at hl 2 rfl) ?_
    refine lv_iconst (v := (0 : Int32)) hx hb dX9_most_14 (by decide) ?_
    refine lv_bipush (v := (6 : Int32)) hx hb dX9_most_15 (by decide) ?_
    obtain ⟨r6, u5, h4, hf⟩ := ob_some hf
    refine endI okB hw (runS_ok (As := [.int a2, .int (0 : Int32), .int (6 : Int32)]) (rest := []) okB hc hw (c_X9_inRange l ev a2 (0 : Int32) (6 : Int32) u2 h4 H.size) ks_X9_inRange ml_X9_76 hl.1 rfl rfl (Nat.le_of_ble_eq_true rfl) (rm_le (by decide) (by decide)) dX9_most_17) (fun H locs hw => ?_)
    refine lv_istore_n (lv' := [(3, .int r6), (0, .ref (ev.2.1 0)), (1, .int a1), (2, .int a2)]) hx hb dX9_most_20 rfl hl (by decide) rfl (fun ls hl => ?_)
    refine lv_iload_n hx hb dX9_most_21 rfl (lv_at hl 0 rfl) ?_
    refine lv_if_eq (tgt := 31) hx hb dX9_most_22 (by decide) (fun z => ?_) (fun z => ?_)
    · have hf := it_pos z hf
      refine lv_aload_n hx hb dX9_most_31 rfl (lv_at hl 1 rfl) ?_
      refine gB0_4 hc hw fl_X9_40 dX9_most_32 ?_
      refine gB5_0 hc hw fl_X9_248 dX9_most_35 ?_
      refine lv_iload_n hx hb dX9_most_38 rfl (lv_at hl 2 rfl) ?_
      obtain ⟨z, hf⟩ := oi_some hf
      refine aB35 hc hw z dX9_most_39 ?_
      obtain ⟨x7, ex7, hf⟩ := lt_some hf
      refine tope ex7 ?_
      refine lv_istore (lv' := [(4, .int x7), (3, .int r6), (0, .ref (ev.2.1 0)), (1, .int a1), (2, .int a2)]) hx hb dX9_most_40 hl (by decide) rfl (fun ls hl => ?_)
      refine lv_aload_n hx hb dX9_most_42 rfl (lv_at hl 2 rfl) ?_
      refine gB0_4 hc hw fl_X9_40 dX9_most_43 ?_
      refine gB5_0 hc hw fl_X9_248 dX9_most_46 ?_
      refine lv_iload_n hx hb dX9_most_49 rfl (lv_at hl 3 rfl) ?_
      refine lv_iload_n hx hb dX9_most_50 rfl (lv_at hl 4 rfl) ?_
      obtain ⟨z, hf⟩ := oi_some hf
      refine tB35 hc hw z dX9_most_51 (fun H locs hw => ?_)
      obtain ⟨u8, eu8, hf⟩ := lt_some hf
      have hw := VW.nm eu8 hw
      refine lv_iload hx hb dX9_most_52 (lv_at hl 0 rfl) ?_
      exact retI hc hr hlk hw hf dX9_most_54
    · have hf := it_neg z hf
      refine lv_aload_n hx hb dX9_most_25 rfl (lv_at hl 1 rfl) ?_
      refine lv_iload_n hx hb dX9_most_26 rfl (lv_at hl 0 rfl) ?_
      obtain ⟨r11, u10, h9, hf⟩ := ob_some hf
      refine endI okB hw (runV_ok (As := [.int r6]) (rest := []) okB hc hw (c_X9_refuse l ev r6 u5 h9 H.size) kv_X9_refuse ml_X9_62 (rvB0 ev u5) hl.1 rfl rfl (Nat.le_of_ble_eq_true rfl) (rm_le (by decide) (by decide)) dX9_most_27) (fun H locs hw => ?_)
      exact retI hc hr hlk hw hf dX9_most_30
  · have hf := it_neg z hf
    refine lv_aload_n hx hb dX9_most_7 rfl (lv_at hl 0 rfl) ?_
    refine lv_iconst (v := (-1 : Int32)) hx hb dX9_most_8 (by decide) ?_
    obtain ⟨r14, u13, h12, hf⟩ := ob_some hf
    refine endI okB hw (runV_ok (As := [.int (-1 : Int32)]) (rest := []) okB hc hw (c_X9_refuse l ev (-1 : Int32) u2 h12 H.size) kv_X9_refuse ml_X9_62 (rvB0 ev u2) hl.1 rfl rfl (Nat.le_of_ble_eq_true rfl) (rm_le (by decide) (by decide)) dX9_most_9) (fun H locs hw => ?_)
    exact retI hc hr hlk hw hf dX9_most_12
def f_X8_putRebate (a1 : Int32) (a2 : Int32) (a3 : Int32) (u : SS) : Option (Int32 × SS) :=
  lt ((a1 * (7 : Int32)) + a2) fun x1 => oi x1 56 (lt (gA u 22 x1.toNatClampNeg) fun x2 => oi x1 56 (lt (tA u 22 x1 a3) fun u3 => some (x2, u3)))
set_option maxHeartbeats 4000000 in
set_option maxRecDepth 100000 in
theorem c_X8_putRebate (l : Launch) (ev : EV) (a1 : Int32) (a2 : Int32) (a3 : Int32) (u : SS) {r : Int32} {u' : SS} (hf : f_X8_putRebate a1 a2 a3 u = some (r, u')) : MI wdB l yX8_putRebate cX8_putRebate 6 (some .int) 0 ev [.ref (ev.2.1 5), .int a1, .int a2, .int a3] u r u' := by
  refine bodyI (by decide +kernel) rfl (Nat.le_of_ble_eq_true rfl) ?_
  intro p e s m below meth cd ls H locs hc hr hlk hw hl
  generalize hav : (List.toArray [.ref (ev.2.1 5), .int a1, .int a2, .int a3] : Array Value) = av at hc ⊢
  obtain ⟨hx, hb, hml, hown, hts, hK, hZ⟩ := id hc
  have hl : lv_has ls 6 [(0, .ref (ev.2.1 5)), (1, .int a1), (2, .int a2), (3, .int a3)] := hl
  unfold f_X8_putRebate at hf
  refine lv_iload_n hx hb dX8_putRebate_0 rfl (lv_at hl 1 rfl) ?_
  refine lv_bipush (v := (7 : Int32)) hx hb dX8_putRebate_1 (by decide) ?_
  refine lv_imul hx hb dX8_putRebate_3 ?_
  refine lv_iload_n hx hb dX8_putRebate_4 rfl (lv_at hl 2 rfl) ?_
  refine lv_iadd hx hb dX8_putRebate_5 ?_
  obtain ⟨x1, ex1, hf⟩ := lt_some hf
  refine tope ex1 ?_
  refine lv_istore (lv' := [(4, .int x1), (0, .ref (ev.2.1 5)), (1, .int a1), (2, .int a2), (3, .int a3)]) hx hb dX8_putRebate_6 hl (by decide) rfl (fun ls hl => ?_)
  refine lv_aload_n hx hb dX8_putRebate_8 rfl (lv_at hl 1 rfl) ?_
  refine gB5_4 hc hw fl_X8_20 dX8_putRebate_9 ?_
  refine lv_iload hx hb dX8_putRebate_12 (lv_at hl 0 rfl) ?_
  obtain ⟨z, hf⟩ := oi_some hf
  refine aB37 hc hw z dX8_putRebate_14 ?_
  obtain ⟨x2, ex2, hf⟩ := lt_some hf
  refine tope ex2 ?_
  refine lv_istore (lv' := [(5, .int x2), (4, .int x1), (0, .ref (ev.2.1 5)), (1, .int a1), (2, .int a2), (3, .int a3)]) hx hb dX8_putRebate_15 hl (by decide) rfl (fun ls hl => ?_)
  refine lv_aload_n hx hb dX8_putRebate_17 rfl (lv_at hl 2 rfl) ?_
  refine gB5_4 hc hw fl_X8_20 dX8_putRebate_18 ?_
  refine lv_iload hx hb dX8_putRebate_21 (lv_at hl 1 rfl) ?_
  refine lv_iload_n hx hb dX8_putRebate_23 rfl (lv_at hl 5 rfl) ?_
  obtain ⟨z, hf⟩ := oi_some hf
  refine tB37 hc hw z dX8_putRebate_24 (fun H locs hw => ?_)
  obtain ⟨u3, eu3, hf⟩ := lt_some hf
  have hw := VW.nm eu3 hw
  refine lv_iload hx hb dX8_putRebate_25 (lv_at hl 0 rfl) ?_
  exact retI hc hr hlk hw hf dX8_putRebate_27
def f_X9_rebate_L22 (u : SS) : Option (Int32 × SS) :=
  ob (f_X9_refuse (-4 : Int32) u) fun r6 u5 => some (r6, u5)
def f_X9_rebate_L41 (u : SS) : Option (Int32 × SS) :=
  ob (f_X9_refuse (-6 : Int32) u) fun r9 u8 => some (r9, u8)
def f_X9_rebate (a1 : Int32) (a2 : Int32) (a3 : Int32) (u : SS) : Option (Int32 × SS) :=
  ob (f_X9_noBidder a1 u) fun r3 u2 => if r3 = 0 then (if a2 < (1 : Int32) then (f_X9_rebate_L22 u2) else (if 0 ≤ a3 then (if (6 : Int32) < a2 then (f_X9_rebate_L41 u2) else (if a3 ≤ (50 : Int32) then (ob (f_X8_putRebate a1 a2 a3 u2) fun r12 u11 => some (r12, u11)) else (f_X9_rebate_L41 u2))) else (f_X9_rebate_L22 u2))) else (ob (f_X9_refuse (-1 : Int32) u2) fun r15 u14 => some (r15, u14))
set_option maxHeartbeats 4000000 in
set_option maxRecDepth 100000 in
theorem c_X9_rebate (l : Launch) (ev : EV) (a1 : Int32) (a2 : Int32) (a3 : Int32) (u : SS) {r : Int32} {u' : SS} (hf : f_X9_rebate a1 a2 a3 u = some (r, u')) : MI wdB l yX9_rebate cX9_rebate 4 (some .int) 1 ev [.ref (ev.2.1 0), .int a1, .int a2, .int a3] u r u' := by
  refine bodyI (by decide +kernel) rfl (Nat.le_of_ble_eq_true rfl) ?_
  intro p e s m below meth cd ls H locs hc hr hlk hw hl
  generalize hav : (List.toArray [.ref (ev.2.1 0), .int a1, .int a2, .int a3] : Array Value) = av at hc ⊢
  obtain ⟨hx, hb, hml, hown, hts, hK, hZ⟩ := id hc
  have hl : lv_has ls 4 [(0, .ref (ev.2.1 0)), (1, .int a1), (2, .int a2), (3, .int a3)] := hl
  have wL22 : ∀ (u : SS) (H : Heap) (locs : List Loc) (ls : Array Slot), VW wdB ev s u H locs → lv_has ls 4 [(0, .ref (ev.2.1 0))] → f_X9_rebate_L22  u = some (r, u') → W p l e (rmk 1) s m av below meth cd H locs 0 0 (ZI wdB ev s below av r u') (F0 m 22 ls []) := by
    intro  u H locs ls hw hl hf
    unfold f_X9_rebate_L22 at hf
    refine lv_aload_n hx hb dX9_rebate_22 rfl (lv_at hl 0 rfl) ?_
    refine lv_bipush (v := (-4 : Int32)) hx hb dX9_rebate_23 (by decide) ?_
    obtain ⟨r6, u5, h4, hf⟩ := ob_some hf
    refine endI okB hw (runV_ok (As := [.int (-4 : Int32)]) (rest := []) okB hc hw (c_X9_refuse l ev (-4 : Int32) u h4 H.size) kv_X9_refuse ml_X9_62 (rvB0 ev u) hl.1 rfl rfl (Nat.le_of_ble_eq_true rfl) (rm_le (by decide) (by decide)) dX9_rebate_25) (fun H locs hw => ?_)
    exact retI hc hr hlk hw hf dX9_rebate_28
  have wL41 : ∀ (u : SS) (H : Heap) (locs : List Loc) (ls : Array Slot), VW wdB ev s u H locs → lv_has ls 4 [(0, .ref (ev.2.1 0))] → f_X9_rebate_L41  u = some (r, u') → W p l e (rmk 1) s m av below meth cd H locs 0 0 (ZI wdB ev s below av r u') (F0 m 41 ls []) := by
    intro  u H locs ls hw hl hf
    unfold f_X9_rebate_L41 at hf
    refine lv_aload_n hx hb dX9_rebate_41 rfl (lv_at hl 0 rfl) ?_
    refine lv_bipush (v := (-6 : Int32)) hx hb dX9_rebate_42 (by decide) ?_
    obtain ⟨r9, u8, h7, hf⟩ := ob_some hf
    refine endI okB hw (runV_ok (As := [.int (-6 : Int32)]) (rest := []) okB hc hw (c_X9_refuse l ev (-6 : Int32) u h7 H.size) kv_X9_refuse ml_X9_62 (rvB0 ev u) hl.1 rfl rfl (Nat.le_of_ble_eq_true rfl) (rm_le (by decide) (by decide)) dX9_rebate_44) (fun H locs hw => ?_)
    exact retI hc hr hlk hw hf dX9_rebate_47
  unfold f_X9_rebate at hf
  refine lv_iload_n hx hb dX9_rebate_0 rfl (lv_at hl 1 rfl) ?_
  obtain ⟨r3, u2, h1, hf⟩ := ob_some hf
  refine endI okB hw (runS_ok (As := [.int a1]) (rest := []) okB hc hw (c_X9_noBidder l ev a1 u h1 H.size) ks_X9_noBidder ml_X9_144 hl.1 rfl rfl (Nat.le_of_ble_eq_true rfl) (rm_le (by decide) (by decide)) dX9_rebate_1) (fun H locs hw => ?_)
  refine lv_if_eq (tgt := 13) hx hb dX9_rebate_4 (by decide) (fun z => ?_) (fun z => ?_)
  · have hf := it_pos z hf
    refine lv_iload_n hx hb dX9_rebate_13 rfl (lv_at hl 2 rfl) ?_
    refine lv_iconst (v := (1 : Int32)) hx hb dX9_rebate_14 (by decide) ?_
    refine lv_icmp_lt (tgt := 22) hx hb dX9_rebate_15 (by decide) (fun z => ?_) (fun z => ?_)
    · have hf := it_pos z hf
      exact wL22 u2 H locs ls hw (lv_sub hl [0] rfl) hf
    · have hf := it_neg z hf
      refine lv_iload_n hx hb dX9_rebate_18 rfl (lv_at hl 3 rfl) ?_
      refine lv_if_ge (tgt := 29) hx hb dX9_rebate_19 (by decide) (fun z => ?_) (fun z => ?_)
      · have hf := it_pos z hf
        refine lv_iload_n hx hb dX9_rebate_29 rfl (lv_at hl 2 rfl) ?_
        refine lv_bipush (v := (6 : Int32)) hx hb dX9_rebate_30 (by decide) ?_
        refine lv_icmp_gt (tgt := 41) hx hb dX9_rebate_32 (by decide) (fun z => ?_) (fun z => ?_)
        · have hf := it_pos z hf
          exact wL41 u2 H locs ls hw (lv_sub hl [0] rfl) hf
        · have hf := it_neg z hf
          refine lv_iload_n hx hb dX9_rebate_35 rfl (lv_at hl 3 rfl) ?_
          refine lv_bipush (v := (50 : Int32)) hx hb dX9_rebate_36 (by decide) ?_
          refine lv_icmp_le (tgt := 48) hx hb dX9_rebate_38 (by decide) (fun z => ?_) (fun z => ?_)
          · have hf := it_pos z hf
            refine lv_aload_n hx hb dX9_rebate_48 rfl (lv_at hl 0 rfl) ?_
            refine gB0_4 hc hw fl_X9_40 dX9_rebate_49 ?_
            refine lv_iload_n hx hb dX9_rebate_52 rfl (lv_at hl 1 rfl) ?_
            refine lv_iload_n hx hb dX9_rebate_53 rfl (lv_at hl 2 rfl) ?_
            refine lv_iload_n hx hb dX9_rebate_54 rfl (lv_at hl 3 rfl) ?_
            obtain ⟨r12, u11, h10, hf⟩ := ob_some hf
            refine endI okB hw (runV_ok (As := [.int a1, .int a2, .int a3]) (rest := []) okB hc hw (c_X8_putRebate l ev a1 a2 a3 u2 h10 H.size) kv_X8_putRebate ml_X9_251 (rvB5 ev u2) hl.1 rfl rfl (Nat.le_of_ble_eq_true rfl) (rm_le (by decide) (by decide)) dX9_rebate_55) (fun H locs hw => ?_)
            exact retI hc hr hlk hw hf dX9_rebate_58
          · have hf := it_neg z hf
            exact wL41 u2 H locs ls hw (lv_sub hl [0] rfl) hf
      · have hf := it_neg z hf
        exact wL22 u2 H locs ls hw (lv_sub hl [0] rfl) hf
  · have hf := it_neg z hf
    refine lv_aload_n hx hb dX9_rebate_7 rfl (lv_at hl 0 rfl) ?_
    refine lv_iconst (v := (-1 : Int32)) hx hb dX9_rebate_8 (by decide) ?_
    obtain ⟨r15, u14, h13, hf⟩ := ob_some hf
    refine endI okB hw (runV_ok (As := [.int (-1 : Int32)]) (rest := []) okB hc hw (c_X9_refuse l ev (-1 : Int32) u2 h13 H.size) kv_X9_refuse ml_X9_62 (rvB0 ev u2) hl.1 rfl rfl (Nat.le_of_ble_eq_true rfl) (rm_le (by decide) (by decide)) dX9_rebate_9) (fun H locs hw => ?_)
    exact retI hc hr hlk hw hf dX9_rebate_12
def b_J7_fill_53178_38_L5 (k5 : Int32 → Int32 → Int32 → SS → Option SS) (b1 : Int32) (b2 : Int32) (b3 : Int32) (u : SS) : Option SS :=
  if b3 ≤ b2 then (some u) else (oi b2 48 (lt (tA u 23 b2 b1) fun u1 => lt (b2 + (1 : Int32)) fun x2 => k5 b1 x2 b3 u1))
def f_J7_fill_53178_38_L5 : Nat → Int32 → Int32 → Int32 → SS → Option SS
  | 0 => fun _ _ _ _ => none
  | n + 1 => b_J7_fill_53178_38_L5 (f_J7_fill_53178_38_L5 n)
def f_J7_fill_53178_38 (a1 : Int32) (u : SS) : Option SS :=
  f_J7_fill_53178_38_L5 FU a1 (0 : Int32) (48 : Int32) u
set_option maxHeartbeats 4000000 in
set_option maxRecDepth 100000 in
theorem c_J7_fill_53178_38 (l : Launch) (ev : EV) (a1 : Int32) (u : SS) {u' : SS} (hf : f_J7_fill_53178_38 a1 u = some u') : MV wdB l yJ7_fill_53178 cJ7_fill_53178 4 none 0 ev [.ref (ev.2.1 38), .int a1] u u' := by
  refine bodyV (by decide +kernel) rfl (Nat.le_of_ble_eq_true rfl) ?_
  intro p e s m below meth cd ls H locs hc hr hlk hw hl
  generalize hav : (List.toArray [.ref (ev.2.1 38), .int a1] : Array Value) = av at hc ⊢
  obtain ⟨hx, hb, hml, hown, hts, hK, hZ⟩ := id hc
  have hl : lv_has ls 4 [(0, .ref (ev.2.1 38)), (1, .int a1)] := hl
  have wL5 : ∀ (n : Nat) (b1 : Int32) (b2 : Int32) (b3 : Int32) (u : SS) (H : Heap) (locs : List Loc) (ls : Array Slot), VW wdB ev s u H locs → lv_has ls 4 [(0, .ref (ev.2.1 38)), (1, .int b1), (2, .int b2), (3, .int b3)] → f_J7_fill_53178_38_L5 n b1 b2 b3 u = some u' → W p l e (rmk 0) s m av below meth cd H locs 0 0 (ZV wdB ev s below av u') (F0 m 5 ls []) := by
    intro n
    induction n with
    | zero =>
      intro b1 b2 b3 u H locs ls hw hl hf
      cases hf
    | succ n hk5 =>
      intro b1 b2 b3 u H locs ls hw hl hf
      have hf : b_J7_fill_53178_38_L5 (f_J7_fill_53178_38_L5 n) b1 b2 b3 u = some u' := hf
      unfold b_J7_fill_53178_38_L5 at hf
      refine lv_iload_n hx hb dJ7_fill_53178_5 rfl (lv_at hl 2 rfl) ?_
      refine lv_iload_n hx hb dJ7_fill_53178_6 rfl (lv_at hl 3 rfl) ?_
      refine lv_icmp_ge (tgt := 20) hx hb dJ7_fill_53178_7 (by decide) (fun z => ?_) (fun z => ?_)
      · have hf := it_pos z hf
        exact retV hc hr hlk hw hf dJ7_fill_53178_20
      · have hf := it_neg z hf
        refine lv_aload_n hx hb dJ7_fill_53178_10 rfl (lv_at hl 0 rfl) ?_
        refine lv_iload_n hx hb dJ7_fill_53178_11 rfl (lv_at hl 2 rfl) ?_
        refine lv_iload_n hx hb dJ7_fill_53178_12 rfl (lv_at hl 1 rfl) ?_
        obtain ⟨z, hf⟩ := oi_some hf
        refine tB38 hc hw z dJ7_fill_53178_13 (fun H locs hw => ?_)
        obtain ⟨u1, eu1, hf⟩ := lt_some hf
        have hw := VW.nm eu1 hw
        obtain ⟨x2, ex2, hf⟩ := lt_some hf
        refine lv_iinc (v := x2) (lv' := [(2, .int x2), (0, .ref (ev.2.1 38)), (1, .int b1), (3, .int b3)]) hx hb dJ7_fill_53178_14 hl (k := 2) rfl (by rw [ex2]; rfl) (by decide) rfl (fun ls hl => ?_)
        refine lv_goto (tgt := 5) hx hb dJ7_fill_53178_17 (by decide) ?_
        exact hk5 b1 x2 b3 u1 H locs ls hw (lv_sub hl [1, 2, 0, 3] rfl) hf
  unfold f_J7_fill_53178_38 at hf
  refine lv_iconst (v := (0 : Int32)) hx hb dJ7_fill_53178_0 (by decide) ?_
  refine lv_istore_n (lv' := [(2, .int (0 : Int32)), (0, .ref (ev.2.1 38)), (1, .int a1)]) hx hb dJ7_fill_53178_1 rfl hl (by decide) rfl (fun ls hl => ?_)
  refine lv_aload_n hx hb dJ7_fill_53178_2 rfl (lv_at hl 1 rfl) ?_
  refine nB38 hc hw dJ7_fill_53178_3 ?_
  refine lv_istore_n (lv' := [(3, .int (48 : Int32)), (2, .int (0 : Int32)), (0, .ref (ev.2.1 38)), (1, .int a1)]) hx hb dJ7_fill_53178_4 rfl hl (by decide) rfl (fun ls hl => ?_)
  exact wL5 FU a1 (0 : Int32) (48 : Int32) u H locs ls hw (lv_sub hl [2, 3, 1, 0] rfl) hf
def f_X8_clear (u : SS) : Option SS :=
  ov (f_J7_fill_53178_38 (-1 : Int32) u) fun u2 => some u2
set_option maxHeartbeats 4000000 in
set_option maxRecDepth 100000 in
theorem c_X8_clear (l : Launch) (ev : EV) (u : SS) {u' : SS} (hf : f_X8_clear  u = some u') : MV wdB l yX8_clear cX8_clear 1 none 1 ev [.ref (ev.2.1 5)] u u' := by
  refine bodyV (by decide +kernel) rfl (Nat.le_of_ble_eq_true rfl) ?_
  intro p e s m below meth cd ls H locs hc hr hlk hw hl
  generalize hav : (List.toArray [.ref (ev.2.1 5)] : Array Value) = av at hc ⊢
  obtain ⟨hx, hb, hml, hown, hts, hK, hZ⟩ := id hc
  have hl : lv_has ls 1 [(0, .ref (ev.2.1 5))] := hl
  unfold f_X8_clear at hf
  refine lv_aload_n hx hb dX8_clear_0 rfl (lv_at hl 0 rfl) ?_
  refine gB5_5 hc hw fl_X8_23 dX8_clear_1 ?_
  refine lv_iconst (v := (-1 : Int32)) hx hb dX8_clear_4 (by decide) ?_
  obtain ⟨u2, h1, hf⟩ := ov_some hf
  refine endV okB hw (runS_ok (As := [.ref (ev.2.1 38), .int (-1 : Int32)]) (rest := []) okB hc hw (c_J7_fill_53178_38 l ev (-1 : Int32) u h1 H.size) ks_J7_fill_53178 ml_X8_36 hl.1 rfl rfl (Nat.le_of_ble_eq_true rfl) (rm_le (by decide) (by decide)) dX8_clear_5) (fun H locs hw => ?_)
  exact retV hc hr hlk hw hf dX8_clear_8
def b_J7_fill_d0a16_40_L6 (k6 : Int64 → Int32 → Int32 → SS → Option SS) (b1 : Int64) (b3 : Int32) (b4 : Int32) (u : SS) : Option SS :=
  if b4 ≤ b3 then (some u) else (oi b3 64 (lt (tL u 6 b3 b1) fun u1 => lt (b3 + (1 : Int32)) fun x2 => k6 b1 x2 b4 u1))
def f_J7_fill_d0a16_40_L6 : Nat → Int64 → Int32 → Int32 → SS → Option SS
  | 0 => fun _ _ _ _ => none
  | n + 1 => b_J7_fill_d0a16_40_L6 (f_J7_fill_d0a16_40_L6 n)
def f_J7_fill_d0a16_40 (a1 : Int64) (u : SS) : Option SS :=
  f_J7_fill_d0a16_40_L6 FU a1 (0 : Int32) (64 : Int32) u
set_option maxHeartbeats 4000000 in
set_option maxRecDepth 100000 in
theorem c_J7_fill_d0a16_40 (l : Launch) (ev : EV) (a1 : Int64) (u : SS) {u' : SS} (hf : f_J7_fill_d0a16_40 a1 u = some u') : MV wdB l yJ7_fill_d0a16 cJ7_fill_d0a16 5 none 0 ev [.ref (ev.2.1 40), .long a1] u u' := by
  refine bodyV (by decide +kernel) rfl (Nat.le_of_ble_eq_true rfl) ?_
  intro p e s m below meth cd ls H locs hc hr hlk hw hl
  generalize hav : (List.toArray [.ref (ev.2.1 40), .long a1] : Array Value) = av at hc ⊢
  obtain ⟨hx, hb, hml, hown, hts, hK, hZ⟩ := id hc
  have hl : lv_has ls 5 [(0, .ref (ev.2.1 40)), (1, .long a1)] := hl
  have wL6 : ∀ (n : Nat) (b1 : Int64) (b3 : Int32) (b4 : Int32) (u : SS) (H : Heap) (locs : List Loc) (ls : Array Slot), VW wdB ev s u H locs → lv_has ls 5 [(0, .ref (ev.2.1 40)), (1, .long b1), (3, .int b3), (4, .int b4)] → f_J7_fill_d0a16_40_L6 n b1 b3 b4 u = some u' → W p l e (rmk 0) s m av below meth cd H locs 0 0 (ZV wdB ev s below av u') (F0 m 6 ls []) := by
    intro n
    induction n with
    | zero =>
      intro b1 b3 b4 u H locs ls hw hl hf
      cases hf
    | succ n hk6 =>
      intro b1 b3 b4 u H locs ls hw hl hf
      have hf : b_J7_fill_d0a16_40_L6 (f_J7_fill_d0a16_40_L6 n) b1 b3 b4 u = some u' := hf
      unfold b_J7_fill_d0a16_40_L6 at hf
      refine lv_iload_n hx hb dJ7_fill_d0a16_6 rfl (lv_at hl 2 rfl) ?_
      refine lv_iload hx hb dJ7_fill_d0a16_7 (lv_at hl 3 rfl) ?_
      refine lv_icmp_ge (tgt := 22) hx hb dJ7_fill_d0a16_9 (by decide) (fun z => ?_) (fun z => ?_)
      · have hf := it_pos z hf
        exact retV hc hr hlk hw hf dJ7_fill_d0a16_22
      · have hf := it_neg z hf
        refine lv_aload_n hx hb dJ7_fill_d0a16_12 rfl (lv_at hl 0 rfl) ?_
        refine lv_iload_n hx hb dJ7_fill_d0a16_13 rfl (lv_at hl 2 rfl) ?_
        refine lv_lload_n hx hb dJ7_fill_d0a16_14 rfl (lv_at hl 1 rfl) ?_
        obtain ⟨z, hf⟩ := oi_some hf
        refine tB40 hc hw z dJ7_fill_d0a16_15 (fun H locs hw => ?_)
        obtain ⟨u1, eu1, hf⟩ := lt_some hf
        have hw := VW.nm eu1 hw
        obtain ⟨x2, ex2, hf⟩ := lt_some hf
        refine lv_iinc (v := x2) (lv' := [(3, .int x2), (0, .ref (ev.2.1 40)), (1, .long b1), (4, .int b4)]) hx hb dJ7_fill_d0a16_16 hl (k := 2) rfl (by rw [ex2]; rfl) (by decide) rfl (fun ls hl => ?_)
        refine lv_goto (tgt := 6) hx hb dJ7_fill_d0a16_19 (by decide) ?_
        exact hk6 b1 x2 b4 u1 H locs ls hw (lv_sub hl [1, 2, 0, 3] rfl) hf
  unfold f_J7_fill_d0a16_40 at hf
  refine lv_iconst (v := (0 : Int32)) hx hb dJ7_fill_d0a16_0 (by decide) ?_
  refine lv_istore_n (lv' := [(3, .int (0 : Int32)), (0, .ref (ev.2.1 40)), (1, .long a1)]) hx hb dJ7_fill_d0a16_1 rfl hl (by decide) rfl (fun ls hl => ?_)
  refine lv_aload_n hx hb dJ7_fill_d0a16_2 rfl (lv_at hl 1 rfl) ?_
  refine nB40 hc hw dJ7_fill_d0a16_3 ?_
  refine lv_istore (lv' := [(4, .int (64 : Int32)), (3, .int (0 : Int32)), (0, .ref (ev.2.1 40)), (1, .long a1)]) hx hb dJ7_fill_d0a16_4 hl (by decide) rfl (fun ls hl => ?_)
  exact wL6 FU a1 (0 : Int32) (64 : Int32) u H locs ls hw (lv_sub hl [2, 3, 1, 0] rfl) hf
def f_X8_keep_L80 (k35 : Int32 → Int32 → Int32 → SS → Option SS) (b3 : Int32) (b4 : Int32) (b5 : Int32) (q0 : Int32) (q1 : Int32) (u : SS) : Option SS :=
  oi q1 6 (lt (tA u 21 q1 q0) fun u6 => lt (b5 + (-1 : Int32)) fun x7 => k35 b3 b4 x7 u6)
def f_X8_keep_L73 (k35 : Int32 → Int32 → Int32 → SS → Option SS) (b3 : Int32) (b4 : Int32) (b5 : Int32) (q0 : Int32) (u : SS) : Option SS :=
  f_X8_keep_L80 k35 b3 b4 b5 (-9 : Int32) q0 u
def b_X8_keep_L35 (k35 : Int32 → Int32 → Int32 → SS → Option SS) (b3 : Int32) (b4 : Int32) (b5 : Int32) (u : SS) : Option SS :=
  if b5 < 0 then (some u) else (lt (b4 - b4 / (9 : Int32) * (9 : Int32)) fun x4 => lt (b4 / (9 : Int32)) fun x5 => if b3 ≤ b5 then (f_X8_keep_L73 k35 b3 x5 b5 b5 u) else (if x4 = (8 : Int32) then (f_X8_keep_L73 k35 b3 x5 b5 b5 u) else (f_X8_keep_L80 k35 b3 x5 b5 x4 b5 u)))
def f_X8_keep_L35 : Nat → Int32 → Int32 → Int32 → SS → Option SS
  | 0 => fun _ _ _ _ => none
  | n + 1 => b_X8_keep_L35 (f_X8_keep_L35 n)
def f_X8_keep (a1 : Int64) (a3 : Int32) (u : SS) : Option SS :=
  lt (sI u 13 (a3 - ((a1 >>> ((56 : Int32).toInt64 &&& 63)).toInt32))) fun u1 => lt (sI u1 14 (((a1 >>> ((26 : Int32).toInt64 &&& 63)) &&& (1073741823 : Int64)).toInt32)) fun u2 => lt ((a1 &&& (1048575 : Int64)).toInt32) fun x3 => f_X8_keep_L35 FU a3 x3 (5 : Int32) u2
set_option maxHeartbeats 4000000 in
set_option maxRecDepth 100000 in
theorem c_X8_keep (l : Launch) (ev : EV) (a1 : Int64) (a3 : Int32) (u : SS) {u' : SS} (hf : f_X8_keep a1 a3 u = some u') : MV wdB l yX8_keep cX8_keep 7 none 0 ev [.ref (ev.2.1 5), .long a1, .int a3] u u' := by
  refine bodyV (by decide +kernel) rfl (Nat.le_of_ble_eq_true rfl) ?_
  intro p e s m below meth cd ls H locs hc hr hlk hw hl
  generalize hav : (List.toArray [.ref (ev.2.1 5), .long a1, .int a3] : Array Value) = av at hc ⊢
  obtain ⟨hx, hb, hml, hown, hts, hK, hZ⟩ := id hc
  have hl : lv_has ls 7 [(0, .ref (ev.2.1 5)), (1, .long a1), (3, .int a3)] := hl
  have wL80 : ∀ (k35 : Int32 → Int32 → Int32 → SS → Option SS) (hk35 : ∀ (b3 : Int32) (b4 : Int32) (b5 : Int32) (u : SS) (H : Heap) (locs : List Loc) (ls : Array Slot), VW wdB ev s u H locs → lv_has ls 7 [(0, .ref (ev.2.1 5)), (3, .int b3), (4, .int b4), (5, .int b5)] → k35 b3 b4 b5 u = some u' → W p l e (rmk 0) s m av below meth cd H locs 0 0 (ZV wdB ev s below av u') (F0 m 35 ls [])) (b3 : Int32) (b4 : Int32) (b5 : Int32) (q0 : Int32) (q1 : Int32) (u : SS) (H : Heap) (locs : List Loc) (ls : Array Slot), VW wdB ev s u H locs → lv_has ls 7 [(0, .ref (ev.2.1 5)), (3, .int b3), (4, .int b4), (5, .int b5)] → f_X8_keep_L80 k35 b3 b4 b5 q0 q1 u = some u' → W p l e (rmk 0) s m av below meth cd H locs 0 0 (ZV wdB ev s below av u') (F0 m 80 ls [.int q0, .int q1, .ref (ev.2.1 36)]) := by
    intro k35 hk35 b3 b4 b5 q0 q1 u H locs ls hw hl hf
    unfold f_X8_keep_L80 at hf
    obtain ⟨z, hf⟩ := oi_some hf
    refine tB36 hc hw z dX8_keep_80 (fun H locs hw => ?_)
    obtain ⟨u6, eu6, hf⟩ := lt_some hf
    have hw := VW.nm eu6 hw
    obtain ⟨x7, ex7, hf⟩ := lt_some hf
    refine lv_iinc (v := x7) (lv' := [(5, .int x7), (0, .ref (ev.2.1 5)), (3, .int b3), (4, .int b4)]) hx hb dX8_keep_81 hl (k := 3) rfl (by rw [ex7]; rfl) (by decide) rfl (fun ls hl => ?_)
    refine lv_goto (tgt := 35) hx hb dX8_keep_84 (by decide) ?_
    exact hk35 b3 b4 x7 u6 H locs ls hw (lv_sub hl [1, 2, 3, 0] rfl) hf
  have wL73 : ∀ (k35 : Int32 → Int32 → Int32 → SS → Option SS) (hk35 : ∀ (b3 : Int32) (b4 : Int32) (b5 : Int32) (u : SS) (H : Heap) (locs : List Loc) (ls : Array Slot), VW wdB ev s u H locs → lv_has ls 7 [(0, .ref (ev.2.1 5)), (3, .int b3), (4, .int b4), (5, .int b5)] → k35 b3 b4 b5 u = some u' → W p l e (rmk 0) s m av below meth cd H locs 0 0 (ZV wdB ev s below av u') (F0 m 35 ls [])) (b3 : Int32) (b4 : Int32) (b5 : Int32) (q0 : Int32) (u : SS) (H : Heap) (locs : List Loc) (ls : Array Slot), VW wdB ev s u H locs → lv_has ls 7 [(0, .ref (ev.2.1 5)), (3, .int b3), (4, .int b4), (5, .int b5)] → f_X8_keep_L73 k35 b3 b4 b5 q0 u = some u' → W p l e (rmk 0) s m av below meth cd H locs 0 0 (ZV wdB ev s below av u') (F0 m 73 ls [.int q0, .ref (ev.2.1 36)]) := by
    intro k35 hk35 b3 b4 b5 q0 u H locs ls hw hl hf
    unfold f_X8_keep_L73 at hf
    refine lv_bipush (v := (-9 : Int32)) hx hb dX8_keep_73 (by decide) ?_
    refine lv_goto (tgt := 80) hx hb dX8_keep_75 (by decide) ?_
    exact wL80 k35 hk35 b3 b4 b5 (-9 : Int32) q0 u H locs ls hw (lv_sub hl [0, 1, 2, 3] rfl) hf
  have wL35 : ∀ (n : Nat) (b3 : Int32) (b4 : Int32) (b5 : Int32) (u : SS) (H : Heap) (locs : List Loc) (ls : Array Slot), VW wdB ev s u H locs → lv_has ls 7 [(0, .ref (ev.2.1 5)), (3, .int b3), (4, .int b4), (5, .int b5)] → f_X8_keep_L35 n b3 b4 b5 u = some u' → W p l e (rmk 0) s m av below meth cd H locs 0 0 (ZV wdB ev s below av u') (F0 m 35 ls []) := by
    intro n
    induction n with
    | zero =>
      intro b3 b4 b5 u H locs ls hw hl hf
      cases hf
    | succ n hk35 =>
      intro b3 b4 b5 u H locs ls hw hl hf
      have hf : b_X8_keep_L35 (f_X8_keep_L35 n) b3 b4 b5 u = some u' := hf
      unfold b_X8_keep_L35 at hf
      refine lv_iload hx hb dX8_keep_35 (lv_at hl 3 rfl) ?_
      refine lv_if_lt (tgt := 87) hx hb dX8_keep_37 (by decide) (fun z => ?_) (fun z => ?_)
      · have hf := it_pos z hf
        exact retV hc hr hlk hw hf dX8_keep_87
      · have hf := it_neg z hf
        refine lv_iload hx hb dX8_keep_40 (lv_at hl 2 rfl) ?_
        refine lv_bipush (v := (9 : Int32)) hx hb dX8_keep_42 (by decide) ?_
        refine lv_irem hx hb dX8_keep_44 (by decide) ?_
        obtain ⟨x4, ex4, hf⟩ := lt_some hf
        refine tope ex4 ?_
        refine lv_istore (lv' := [(6, .int x4), (0, .ref (ev.2.1 5)), (3, .int b3), (4, .int b4), (5, .int b5)]) hx hb dX8_keep_45 hl (by decide) rfl (fun ls hl => ?_)
        refine lv_iload hx hb dX8_keep_47 (lv_at hl 3 rfl) ?_
        refine lv_bipush (v := (9 : Int32)) hx hb dX8_keep_49 (by decide) ?_
        refine lv_idiv hx hb dX8_keep_51 (by decide) ?_
        obtain ⟨x5, ex5, hf⟩ := lt_some hf
        refine tope ex5 ?_
        refine lv_istore (lv' := [(4, .int x5), (6, .int x4), (0, .ref (ev.2.1 5)), (3, .int b3), (5, .int b5)]) hx hb dX8_keep_52 hl (by decide) rfl (fun ls hl => ?_)
        refine lv_aload_n hx hb dX8_keep_54 rfl (lv_at hl 2 rfl) ?_
        refine gB5_1 hc hw fl_X8_17 dX8_keep_55 ?_
        refine lv_iload hx hb dX8_keep_58 (lv_at hl 4 rfl) ?_
        refine lv_iload hx hb dX8_keep_60 (lv_at hl 4 rfl) ?_
        refine lv_iload_n hx hb dX8_keep_62 rfl (lv_at hl 3 rfl) ?_
        refine lv_icmp_ge (tgt := 73) hx hb dX8_keep_63 (by decide) (fun z => ?_) (fun z => ?_)
        · have hf := it_pos z hf
          exact wL73 (f_X8_keep_L35 n) hk35 b3 x5 b5 b5 u H locs ls hw (lv_sub hl [2, 3, 0, 4] rfl) hf
        · have hf := it_neg z hf
          refine lv_iload hx hb dX8_keep_66 (lv_at hl 1 rfl) ?_
          refine lv_bipush (v := (8 : Int32)) hx hb dX8_keep_68 (by decide) ?_
          refine lv_icmp_ne (tgt := 78) hx hb dX8_keep_70 (by decide) (fun z => ?_) (fun z => ?_)
          · have hf := it_neg z hf
            refine lv_iload hx hb dX8_keep_78 (lv_at hl 1 rfl) ?_
            exact wL80 (f_X8_keep_L35 n) hk35 b3 x5 b5 x4 b5 u H locs ls hw (lv_sub hl [2, 3, 0, 4] rfl) hf
          · have hf := it_pos z hf
            exact wL73 (f_X8_keep_L35 n) hk35 b3 x5 b5 b5 u H locs ls hw (lv_sub hl [2, 3, 0, 4] rfl) hf
  unfold f_X8_keep at hf
  refine lv_aload_n hx hb dX8_keep_0 rfl (lv_at hl 0 rfl) ?_
  refine lv_iload_n hx hb dX8_keep_1 rfl (lv_at hl 2 rfl) ?_
  refine lv_lload_n hx hb dX8_keep_2 rfl (lv_at hl 1 rfl) ?_
  refine lv_bipush (v := (56 : Int32)) hx hb dX8_keep_3 (by decide) ?_
  refine lv_lshr (v := (a1 >>> ((56 : Int32).toInt64 &&& 63))) hx hb dX8_keep_5 rfl ?_
  refine lv_l2i (v := (a1 >>> ((56 : Int32).toInt64 &&& 63)).toInt32) hx hb dX8_keep_6 rfl ?_
  refine lv_isub hx hb dX8_keep_7 ?_
  refine pB5_2 hc hw fl_X8_86 dX8_keep_8 (fun H locs hw => ?_)
  obtain ⟨u1, eu1, hf⟩ := lt_some hf
  have hw := VW.nm eu1 hw
  refine lv_aload_n hx hb dX8_keep_11 rfl (lv_at hl 0 rfl) ?_
  refine lv_lload_n hx hb dX8_keep_12 rfl (lv_at hl 1 rfl) ?_
  refine lv_bipush (v := (26 : Int32)) hx hb dX8_keep_13 (by decide) ?_
  refine lv_lshr (v := (a1 >>> ((26 : Int32).toInt64 &&& 63))) hx hb dX8_keep_15 rfl ?_
  refine lv_ldc2 (v := (1073741823 : Int64)) hx hb hown (hts _ ct_X8_90) dX8_keep_16 ?_
  refine lv_land hx hb dX8_keep_19 ?_
  refine lv_l2i (v := ((a1 >>> ((26 : Int32).toInt64 &&& 63)) &&& (1073741823 : Int64)).toInt32) hx hb dX8_keep_20 rfl ?_
  refine pB5_3 hc hw fl_X8_92 dX8_keep_21 (fun H locs hw => ?_)
  obtain ⟨u2, eu2, hf⟩ := lt_some hf
  have hw := VW.nm eu2 hw
  refine lv_lload_n hx hb dX8_keep_24 rfl (lv_at hl 1 rfl) ?_
  refine lv_ldc2 (v := (1048575 : Int64)) hx hb hown (hts _ ct_X8_95) dX8_keep_25 ?_
  refine lv_land hx hb dX8_keep_28 ?_
  refine lv_l2i (v := (a1 &&& (1048575 : Int64)).toInt32) hx hb dX8_keep_29 rfl ?_
  obtain ⟨x3, ex3, hf⟩ := lt_some hf
  refine tope ex3 ?_
  refine lv_istore (lv' := [(4, .int x3), (0, .ref (ev.2.1 5)), (1, .long a1), (3, .int a3)]) hx hb dX8_keep_30 hl (by decide) rfl (fun ls hl => ?_)
  refine lv_iconst (v := (5 : Int32)) hx hb dX8_keep_32 (by decide) ?_
  refine lv_istore (lv' := [(5, .int (5 : Int32)), (4, .int x3), (0, .ref (ev.2.1 5)), (1, .long a1), (3, .int a3)]) hx hb dX8_keep_33 hl (by decide) rfl (fun ls hl => ?_)
  exact wL35 FU a3 x3 (5 : Int32) u2 H locs ls hw (lv_sub hl [2, 4, 1, 0] rfl) hf
def f_X8_costOfRest_L44 (k5 : Int32 → Int32 → Int64 → Int32 → SS → Option (Int64 × SS)) (b0 : Int32) (b1 : Int32) (b2 : Int64) (b4 : Int32) (u : SS) : Option (Int64 × SS) :=
  lt (b4 + (1 : Int32)) fun x1 => k5 b0 b1 b2 x1 u
def b_X8_costOfRest_L5 (k5 : Int32 → Int32 → Int64 → Int32 → SS → Option (Int64 × SS)) (b0 : Int32) (b1 : Int32) (b2 : Int64) (b4 : Int32) (u : SS) : Option (Int64 × SS) :=
  if (6 : Int32) ≤ b4 then (some (b2, u)) else (if b1 ≤ b4 then (some (b2, u)) else (if ((b0 >>> (b4 &&& 31)) &&& (1 : Int32)) = 0 then (oi b4 6 (lt (b2 + ((72057594037927936 : Int64) + (((8 : Int32) * (dgt b4)).toInt64))) fun x2 => f_X8_costOfRest_L44 k5 b0 b1 x2 b4 u)) else (f_X8_costOfRest_L44 k5 b0 b1 b2 b4 u)))
def f_X8_costOfRest_L5 : Nat → Int32 → Int32 → Int64 → Int32 → SS → Option (Int64 × SS)
  | 0 => fun _ _ _ _ _ => none
  | n + 1 => b_X8_costOfRest_L5 (f_X8_costOfRest_L5 n)
def f_X8_costOfRest (a0 : Int32) (a1 : Int32) (u : SS) : Option (Int64 × SS) :=
  f_X8_costOfRest_L5 FU a0 a1 (0 : Int64) (0 : Int32) u
set_option maxHeartbeats 4000000 in
set_option maxRecDepth 100000 in
theorem c_X8_costOfRest (l : Launch) (ev : EV) (a0 : Int32) (a1 : Int32) (u : SS) {r : Int64} {u' : SS} (hf : f_X8_costOfRest a0 a1 u = some (r, u')) : ML wdB l yX8_costOfRest cX8_costOfRest 5 (some .long) 0 ev [.int a0, .int a1] u r u' := by
  refine bodyL (by decide +kernel) rfl (Nat.le_of_ble_eq_true rfl) ?_
  intro p e s m below meth cd ls H locs hc hr hlk hw hl
  generalize hav : (List.toArray [.int a0, .int a1] : Array Value) = av at hc ⊢
  obtain ⟨hx, hb, hml, hown, hts, hK, hZ⟩ := id hc
  have hl : lv_has ls 5 [(0, .int a0), (1, .int a1)] := hl
  have wL44 : ∀ (k5 : Int32 → Int32 → Int64 → Int32 → SS → Option (Int64 × SS)) (hk5 : ∀ (b0 : Int32) (b1 : Int32) (b2 : Int64) (b4 : Int32) (u : SS) (H : Heap) (locs : List Loc) (ls : Array Slot), VW wdB ev s u H locs → lv_has ls 5 [(0, .int b0), (1, .int b1), (2, .long b2), (4, .int b4)] → k5 b0 b1 b2 b4 u = some (r, u') → W p l e (rmk 0) s m av below meth cd H locs 0 0 (ZL wdB ev s below av r u') (F0 m 5 ls [])) (b0 : Int32) (b1 : Int32) (b2 : Int64) (b4 : Int32) (u : SS) (H : Heap) (locs : List Loc) (ls : Array Slot), VW wdB ev s u H locs → lv_has ls 5 [(0, .int b0), (1, .int b1), (2, .long b2), (4, .int b4)] → f_X8_costOfRest_L44 k5 b0 b1 b2 b4 u = some (r, u') → W p l e (rmk 0) s m av below meth cd H locs 0 0 (ZL wdB ev s below av r u') (F0 m 44 ls []) := by
    intro k5 hk5 b0 b1 b2 b4 u H locs ls hw hl hf
    unfold f_X8_costOfRest_L44 at hf
    obtain ⟨x1, ex1, hf⟩ := lt_some hf
    refine lv_iinc (v := x1) (lv' := [(4, .int x1), (0, .int b0), (1, .int b1), (2, .long b2)]) hx hb dX8_costOfRest_44 hl (k := 3) rfl (by rw [ex1]; rfl) (by decide) rfl (fun ls hl => ?_)
    refine lv_goto (tgt := 5) hx hb dX8_costOfRest_47 (by decide) ?_
    exact hk5 b0 b1 b2 x1 u H locs ls hw (lv_sub hl [1, 2, 3, 0] rfl) hf
  have wL5 : ∀ (n : Nat) (b0 : Int32) (b1 : Int32) (b2 : Int64) (b4 : Int32) (u : SS) (H : Heap) (locs : List Loc) (ls : Array Slot), VW wdB ev s u H locs → lv_has ls 5 [(0, .int b0), (1, .int b1), (2, .long b2), (4, .int b4)] → f_X8_costOfRest_L5 n b0 b1 b2 b4 u = some (r, u') → W p l e (rmk 0) s m av below meth cd H locs 0 0 (ZL wdB ev s below av r u') (F0 m 5 ls []) := by
    intro n
    induction n with
    | zero =>
      intro b0 b1 b2 b4 u H locs ls hw hl hf
      cases hf
    | succ n hk5 =>
      intro b0 b1 b2 b4 u H locs ls hw hl hf
      have hf : b_X8_costOfRest_L5 (f_X8_costOfRest_L5 n) b0 b1 b2 b4 u = some (r, u') := hf
      unfold b_X8_costOfRest_L5 at hf
      refine lv_iload hx hb dX8_costOfRest_5 (lv_at hl 3 rfl) ?_
      refine lv_bipush (v := (6 : Int32)) hx hb dX8_costOfRest_7 (by decide) ?_
      refine lv_icmp_ge (tgt := 50) hx hb dX8_costOfRest_9 (by decide) (fun z => ?_) (fun z => ?_)
      · have hf := it_pos z hf
        refine lv_lload_n hx hb dX8_costOfRest_50 rfl (lv_at hl 2 rfl) ?_
        exact retL hc hr hlk hw hf dX8_costOfRest_51
      · have hf := it_neg z hf
        refine lv_iload hx hb dX8_costOfRest_12 (lv_at hl 3 rfl) ?_
        refine lv_iload_n hx hb dX8_costOfRest_14 rfl (lv_at hl 1 rfl) ?_
        refine lv_icmp_ge (tgt := 50) hx hb dX8_costOfRest_15 (by decide) (fun z => ?_) (fun z => ?_)
        · have hf := it_pos z hf
          refine lv_lload_n hx hb dX8_costOfRest_50 rfl (lv_at hl 2 rfl) ?_
          exact retL hc hr hlk hw hf dX8_costOfRest_51
        · have hf := it_neg z hf
          refine lv_iload_n hx hb dX8_costOfRest_18 rfl (lv_at hl 0 rfl) ?_
          refine lv_iload hx hb dX8_costOfRest_19 (lv_at hl 3 rfl) ?_
          refine lv_ishr hx hb dX8_costOfRest_21 ?_
          refine lv_iconst (v := (1 : Int32)) hx hb dX8_costOfRest_22 (by decide) ?_
          refine lv_iand hx hb dX8_costOfRest_23 ?_
          refine lv_if_ne (tgt := 44) hx hb dX8_costOfRest_24 (by decide) (fun z => ?_) (fun z => ?_)
          · have hf := it_neg z hf
            exact wL44 (f_X8_costOfRest_L5 n) hk5 b0 b1 b2 b4 u H locs ls hw (lv_sub hl [0, 1, 2, 3] rfl) hf
          · have hf := it_pos z hf
            refine lv_lload_n hx hb dX8_costOfRest_27 rfl (lv_at hl 2 rfl) ?_
            refine lv_ldc2 (v := (72057594037927936 : Int64)) hx hb hown (hts _ ct_X8_84) dX8_costOfRest_28 ?_
            refine lv_bipush (v := (8 : Int32)) hx hb dX8_costOfRest_31 (by decide) ?_
            refine va_gets hx hb hZ.1 hw.2.2 hown (hts _ fl_X8_77) (fun _ h => h) dX8_costOfRest_33 ?_
            refine lv_iload hx hb dX8_costOfRest_36 (lv_at hl 3 rfl) ?_
            obtain ⟨z, hf⟩ := oi_some hf
            refine va_ti hx hb hZ.2.1 hw.2.2 z (dig_dgt z) dX8_costOfRest_38 ?_
            refine lv_imul hx hb dX8_costOfRest_39 ?_
            refine lv_i2l (v := ((8 : Int32) * (dgt b4)).toInt64) hx hb dX8_costOfRest_40 rfl ?_
            refine lv_ladd hx hb dX8_costOfRest_41 ?_
            refine lv_ladd hx hb dX8_costOfRest_42 ?_
            obtain ⟨x2, ex2, hf⟩ := lt_some hf
            refine topel ex2 ?_
            refine lv_lstore_n (lv' := [(2, .long x2), (0, .int b0), (1, .int b1), (4, .int b4)]) hx hb dX8_costOfRest_43 rfl hl (by decide) rfl (fun ls hl => ?_)
            exact wL44 (f_X8_costOfRest_L5 n) hk5 b0 b1 x2 b4 u H locs ls hw (lv_sub hl [1, 2, 0, 3] rfl) hf
  unfold f_X8_costOfRest at hf
  refine lv_lconst (v := (0 : Int64)) hx hb dX8_costOfRest_0 (by decide) ?_
  refine lv_lstore_n (lv' := [(2, .long (0 : Int64)), (0, .int a0), (1, .int a1)]) hx hb dX8_costOfRest_1 rfl hl (by decide) rfl (fun ls hl => ?_)
  refine lv_iconst (v := (0 : Int32)) hx hb dX8_costOfRest_2 (by decide) ?_
  refine lv_istore (lv' := [(4, .int (0 : Int32)), (2, .long (0 : Int64)), (0, .int a0), (1, .int a1)]) hx hb dX8_costOfRest_3 hl (by decide) rfl (fun ls hl => ?_)
  exact wL5 FU a0 a1 (0 : Int64) (0 : Int32) u H locs ls hw (lv_sub hl [2, 3, 1, 0] rfl) hf
def f_X8_addBidder_L66 (k9 : Int32 → Int32 → SS → Option SS) (b1 : Int32) (b2 : Int32) (u : SS) : Option SS :=
  lt ((b2 - (1 : Int32)) &&& b1) fun x3 => k9 b1 x3 u
def b_X8_addBidder_L9 (k3 : Int32 → SS → Option SS) (k9 : Int32 → Int32 → SS → Option SS) (b1 : Int32) (b2 : Int32) (u : SS) : Option SS :=
  if b2 ≤ 0 then (lt (b1 + (-1 : Int32)) fun x1 => k3 x1 u) else (oi (b1 - b2) 64 (lt (gL u 6 (b1 - b2).toNatClampNeg) fun x2 => oi b2 64 (if (lg_cmp (gL u 7 b2.toNatClampNeg) (9223372036854775807 : Int64)) = 0 then (f_X8_addBidder_L66 k9 b1 b2 u) else (if (lg_cmp x2 (9223372036854775807 : Int64)) = 0 then (f_X8_addBidder_L66 k9 b1 b2 u) else (oi b1 64 (oi b2 64 (oi b1 64 (lt (tL u 6 b1 (if (x2 + (gL u 7 b2.toNatClampNeg)) < (gL u 6 b1.toNatClampNeg) then (x2 + (gL u 7 b2.toNatClampNeg)) else (gL u 6 b1.toNatClampNeg))) fun u4 => f_X8_addBidder_L66 k9 b1 b2 u4))))))))
def f_X8_addBidder_L9 (k3 : Int32 → SS → Option SS) : Nat → Int32 → Int32 → SS → Option SS
  | 0 => fun _ _ _ => none
  | n + 1 => b_X8_addBidder_L9 k3 (f_X8_addBidder_L9 k3 n)
def b_X8_addBidder_L3 (k3 : Int32 → SS → Option SS) (b1 : Int32) (u : SS) : Option SS :=
  if b1 ≤ 0 then (some u) else (f_X8_addBidder_L9 k3 FU b1 b1 u)
def f_X8_addBidder_L3 : Nat → Int32 → SS → Option SS
  | 0 => fun _ _ => none
  | n + 1 => b_X8_addBidder_L3 (f_X8_addBidder_L3 n)
def f_X8_addBidder (u : SS) : Option SS :=
  f_X8_addBidder_L3 FU (63 : Int32) u
set_option maxHeartbeats 4000000 in
set_option maxRecDepth 100000 in
theorem c_X8_addBidder (l : Launch) (ev : EV) (u : SS) {u' : SS} (hf : f_X8_addBidder  u = some u') : MV wdB l yX8_addBidder cX8_addBidder 5 none 1 ev [.ref (ev.2.1 5)] u u' := by
  refine bodyV (by decide +kernel) rfl (Nat.le_of_ble_eq_true rfl) ?_
  intro p e s m below meth cd ls H locs hc hr hlk hw hl
  generalize hav : (List.toArray [.ref (ev.2.1 5)] : Array Value) = av at hc ⊢
  obtain ⟨hx, hb, hml, hown, hts, hK, hZ⟩ := id hc
  have hl : lv_has ls 5 [(0, .ref (ev.2.1 5))] := hl
  have wL66 : ∀ (k9 : Int32 → Int32 → SS → Option SS) (hk9 : ∀ (b1 : Int32) (b2 : Int32) (u : SS) (H : Heap) (locs : List Loc) (ls : Array Slot), VW wdB ev s u H locs → lv_has ls 5 [(0, .ref (ev.2.1 5)), (1, .int b1), (2, .int b2)] → k9 b1 b2 u = some u' → W p l e (rmk 1) s m av below meth cd H locs 0 0 (ZV wdB ev s below av u') (F0 m 9 ls [])) (b1 : Int32) (b2 : Int32) (u : SS) (H : Heap) (locs : List Loc) (ls : Array Slot), VW wdB ev s u H locs → lv_has ls 5 [(0, .ref (ev.2.1 5)), (1, .int b1), (2, .int b2)] → f_X8_addBidder_L66 k9 b1 b2 u = some u' → W p l e (rmk 1) s m av below meth cd H locs 0 0 (ZV wdB ev s below av u') (F0 m 66 ls []) := by
    intro k9 hk9 b1 b2 u H locs ls hw hl hf
    unfold f_X8_addBidder_L66 at hf
    refine lv_iload_n hx hb dX8_addBidder_66 rfl (lv_at hl 2 rfl) ?_
    refine lv_iconst (v := (1 : Int32)) hx hb dX8_addBidder_67 (by decide) ?_
    refine lv_isub hx hb dX8_addBidder_68 ?_
    refine lv_iload_n hx hb dX8_addBidder_69 rfl (lv_at hl 1 rfl) ?_
    refine lv_iand hx hb dX8_addBidder_70 ?_
    obtain ⟨x3, ex3, hf⟩ := lt_some hf
    refine tope ex3 ?_
    refine lv_istore_n (lv' := [(2, .int x3), (0, .ref (ev.2.1 5)), (1, .int b1)]) hx hb dX8_addBidder_71 rfl hl (by decide) rfl (fun ls hl => ?_)
    refine lv_goto (tgt := 9) hx hb dX8_addBidder_72 (by decide) ?_
    exact hk9 b1 x3 u H locs ls hw (lv_sub hl [1, 2, 0] rfl) hf
  have wL9 : ∀ (k3 : Int32 → SS → Option SS) (hk3 : ∀ (b1 : Int32) (u : SS) (H : Heap) (locs : List Loc) (ls : Array Slot), VW wdB ev s u H locs → lv_has ls 5 [(0, .ref (ev.2.1 5)), (1, .int b1)] → k3 b1 u = some u' → W p l e (rmk 1) s m av below meth cd H locs 0 0 (ZV wdB ev s below av u') (F0 m 3 ls [])) (n : Nat) (b1 : Int32) (b2 : Int32) (u : SS) (H : Heap) (locs : List Loc) (ls : Array Slot), VW wdB ev s u H locs → lv_has ls 5 [(0, .ref (ev.2.1 5)), (1, .int b1), (2, .int b2)] → f_X8_addBidder_L9 k3 n b1 b2 u = some u' → W p l e (rmk 1) s m av below meth cd H locs 0 0 (ZV wdB ev s below av u') (F0 m 9 ls []) := by
    intro k3 hk3 n
    induction n with
    | zero =>
      intro b1 b2 u H locs ls hw hl hf
      cases hf
    | succ n hk9 =>
      intro b1 b2 u H locs ls hw hl hf
      have hf : b_X8_addBidder_L9 k3 (f_X8_addBidder_L9 k3 n) b1 b2 u = some u' := hf
      unfold b_X8_addBidder_L9 at hf
      refine lv_iload_n hx hb dX8_addBidder_9 rfl (lv_at hl 2 rfl) ?_
      refine lv_if_le (tgt := 75) hx hb dX8_addBidder_10 (by decide) (fun z => ?_) (fun z => ?_)
      · have hf := it_pos z hf
        obtain ⟨x1, ex1, hf⟩ := lt_some hf
        refine lv_iinc (v := x1) (lv' := [(1, .int x1), (0, .ref (ev.2.1 5)), (2, .int b2)]) hx hb dX8_addBidder_75 hl (k := 1) rfl (by rw [ex1]; rfl) (by decide) rfl (fun ls hl => ?_)
        refine lv_goto (tgt := 3) hx hb dX8_addBidder_78 (by decide) ?_
        exact hk3 x1 u H locs ls hw (lv_sub hl [1, 0] rfl) hf
      · have hf := it_neg z hf
        refine lv_aload_n hx hb dX8_addBidder_13 rfl (lv_at hl 0 rfl) ?_
        refine gB5_7 hc hw fl_X8_29 dX8_addBidder_14 ?_
        refine lv_iload_n hx hb dX8_addBidder_17 rfl (lv_at hl 1 rfl) ?_
        refine lv_iload_n hx hb dX8_addBidder_18 rfl (lv_at hl 2 rfl) ?_
        refine lv_isub hx hb dX8_addBidder_19 ?_
        obtain ⟨z, hf⟩ := oi_some hf
        refine aB40 hc hw z dX8_addBidder_20 ?_
        obtain ⟨x2, ex2, hf⟩ := lt_some hf
        refine topel ex2 ?_
        refine lv_lstore_n (lv' := [(3, .long x2), (0, .ref (ev.2.1 5)), (1, .int b1), (2, .int b2)]) hx hb dX8_addBidder_21 rfl hl (by decide) rfl (fun ls hl => ?_)
        refine lv_aload_n hx hb dX8_addBidder_22 rfl (lv_at hl 1 rfl) ?_
        refine gB5_8 hc hw fl_X8_33 dX8_addBidder_23 ?_
        refine lv_iload_n hx hb dX8_addBidder_26 rfl (lv_at hl 3 rfl) ?_
        obtain ⟨z, hf⟩ := oi_some hf
        refine aB41 hc hw z dX8_addBidder_27 ?_
        refine lv_ldc2 (v := (9223372036854775807 : Int64)) hx hb hown (hts _ ct_X8_46) dX8_addBidder_28 ?_
        refine W.lcmp hx hb dX8_addBidder_31 ?_
        refine lv_if_eq (tgt := 66) hx hb dX8_addBidder_32 (by decide) (fun z => ?_) (fun z => ?_)
        · have hf := it_pos z hf
          exact wL66 (f_X8_addBidder_L9 k3 n) hk9 b1 b2 u H locs ls hw (lv_sub hl [1, 2, 3] rfl) hf
        · have hf := it_neg z hf
          refine lv_lload_n hx hb dX8_addBidder_35 rfl (lv_at hl 0 rfl) ?_
          refine lv_ldc2 (v := (9223372036854775807 : Int64)) hx hb hown (hts _ ct_X8_46) dX8_addBidder_36 ?_
          refine W.lcmp hx hb dX8_addBidder_39 ?_
          refine lv_if_eq (tgt := 66) hx hb dX8_addBidder_40 (by decide) (fun z => ?_) (fun z => ?_)
          · have hf := it_pos z hf
            exact wL66 (f_X8_addBidder_L9 k3 n) hk9 b1 b2 u H locs ls hw (lv_sub hl [1, 2, 3] rfl) hf
          · have hf := it_neg z hf
            refine lv_aload_n hx hb dX8_addBidder_43 rfl (lv_at hl 1 rfl) ?_
            refine gB5_7 hc hw fl_X8_29 dX8_addBidder_44 ?_
            refine lv_iload_n hx hb dX8_addBidder_47 rfl (lv_at hl 2 rfl) ?_
            refine lv_aload_n hx hb dX8_addBidder_48 rfl (lv_at hl 1 rfl) ?_
            refine gB5_7 hc hw fl_X8_29 dX8_addBidder_49 ?_
            refine lv_iload_n hx hb dX8_addBidder_52 rfl (lv_at hl 2 rfl) ?_
            obtain ⟨z, hf⟩ := oi_some hf
            refine aB40 hc hw z dX8_addBidder_53 ?_
            refine lv_lload_n hx hb dX8_addBidder_54 rfl (lv_at hl 0 rfl) ?_
            refine lv_aload_n hx hb dX8_addBidder_55 rfl (lv_at hl 1 rfl) ?_
            refine gB5_8 hc hw fl_X8_33 dX8_addBidder_56 ?_
            refine lv_iload_n hx hb dX8_addBidder_59 rfl (lv_at hl 3 rfl) ?_
            obtain ⟨z, hf⟩ := oi_some hf
            refine aB41 hc hw z dX8_addBidder_60 ?_
            refine lv_ladd hx hb dX8_addBidder_61 ?_
            refine va_mmin_long hx hb (hml.trans hl.1.symm) hown (hts _ ml_X8_61) (hts _ va_mmin_long_st) (hts _ math_in) (hts _ va_mmin_long_cd) (by decide) (Nat.le_of_ble_eq_true rfl) (Nat.zero_le _) (Nat.zero_le _) dX8_addBidder_62 ?_
            obtain ⟨z, hf⟩ := oi_some hf
            refine tB40 hc hw z dX8_addBidder_65 (fun H locs hw => ?_)
            obtain ⟨u4, eu4, hf⟩ := lt_some hf
            have hw := VW.nm eu4 hw
            exact wL66 (f_X8_addBidder_L9 k3 n) hk9 b1 b2 u4 H locs ls hw (lv_sub hl [1, 2, 3] rfl) hf
  have wL3 : ∀ (n : Nat) (b1 : Int32) (u : SS) (H : Heap) (locs : List Loc) (ls : Array Slot), VW wdB ev s u H locs → lv_has ls 5 [(0, .ref (ev.2.1 5)), (1, .int b1)] → f_X8_addBidder_L3 n b1 u = some u' → W p l e (rmk 1) s m av below meth cd H locs 0 0 (ZV wdB ev s below av u') (F0 m 3 ls []) := by
    intro n
    induction n with
    | zero =>
      intro b1 u H locs ls hw hl hf
      cases hf
    | succ n hk3 =>
      intro b1 u H locs ls hw hl hf
      have hf : b_X8_addBidder_L3 (f_X8_addBidder_L3 n) b1 u = some u' := hf
      unfold b_X8_addBidder_L3 at hf
      refine lv_iload_n hx hb dX8_addBidder_3 rfl (lv_at hl 1 rfl) ?_
      refine lv_if_le (tgt := 81) hx hb dX8_addBidder_4 (by decide) (fun z => ?_) (fun z => ?_)
      · have hf := it_pos z hf
        exact retV hc hr hlk hw hf dX8_addBidder_81
      · have hf := it_neg z hf
        refine lv_iload_n hx hb dX8_addBidder_7 rfl (lv_at hl 1 rfl) ?_
        refine lv_istore_n (lv' := [(2, .int b1), (0, .ref (ev.2.1 5)), (1, .int b1)]) hx hb dX8_addBidder_8 rfl hl (by decide) rfl (fun ls hl => ?_)
        exact wL9 (f_X8_addBidder_L3 n) hk3 FU b1 b1 u H locs ls hw (lv_sub hl [1, 2, 0] rfl) hf
  unfold f_X8_addBidder at hf
  refine lv_bipush (v := (63 : Int32)) hx hb dX8_addBidder_0 (by decide) ?_
  refine lv_istore_n (lv' := [(1, .int (63 : Int32)), (0, .ref (ev.2.1 5))]) hx hb dX8_addBidder_2 rfl hl (by decide) rfl (fun ls hl => ?_)
  exact wL3 FU (63 : Int32) u H locs ls hw (lv_sub hl [1, 0] rfl) hf
