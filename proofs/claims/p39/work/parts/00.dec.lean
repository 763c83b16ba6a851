/-! ===== decoding: the bytes from a place on; a row an opcode ===== -/
def Bt (c : ByteArray) (p : Nat) (l : List UInt8) : Prop := c.data.toList.drop p = l
theorem Bt_0 (c : ByteArray) : Bt c 0 c.data.toList := rfl
theorem Bt_k {c : ByteArray} {p : Nat} {l : List UInt8} (k : Nat) (h : Bt c p l) : Bt c (p + k) (l.drop k) := by
  unfold Bt at h ⊢
  rw [← h, List.drop_drop]
theorem Bt_1 {c : ByteArray} {p q : Nat} {a : UInt8} {l : List UInt8} (h : Bt c p (a :: l)) (e : p + 1 = q) : Bt c q l := e ▸ Bt_k 1 h
theorem Bt_2 {c : ByteArray} {p q : Nat} {a b : UInt8} {l : List UInt8} (h : Bt c p (a :: b :: l)) (e : p + 2 = q) : Bt c q l := e ▸ Bt_k 2 h
theorem Bt_3 {c : ByteArray} {p q : Nat} {a b d : UInt8} {l : List UInt8} (h : Bt c p (a :: b :: d :: l)) (e : p + 3 = q) : Bt c q l := e ▸ Bt_k 3 h
theorem Bt_n {c : ByteArray} {p q : Nat} {l l2 : List UInt8} (k : Nat) (h : Bt c p l) (e : p + k = q) (e2 : l.drop k = l2) : Bt c q l2 := e ▸ e2 ▸ Bt_k k h
theorem Bt_g {c : ByteArray} {p : Nat} {a : UInt8} {l : List UInt8} (h : Bt c p (a :: l)) : ∃ hp : p < c.size, c[p] = a := by
  unfold Bt at h
  have hl : p < c.data.toList.length := by
    rcases Nat.lt_or_ge p c.data.toList.length with z | z
    · exact z
    · rw [List.drop_eq_nil_of_le z] at h; cases h
  have hs : p < c.size := by rw [Array.length_toList] at hl; exact hl
  refine ⟨hs, ?_⟩
  have h2 := List.drop_eq_getElem_cons hl
  rw [h] at h2
  have h3 := (List.cons.inj h2).1
  show c.data[p] = a
  rw [h3, Array.getElem_toList]
theorem u1_ok {c : ByteArray} {p : Nat} {a : UInt8} {l : List UInt8} (h : Bt c p (a :: l)) : (Reader.u1 : Decoder Nat).runAt c p = .ok (a.toNat, p + 1) := by
  obtain ⟨hp, e⟩ := Bt_g h
  rw [← e]
  unfold Reader.u1 Reader.runAt
  change (ReaderT.run (if h : p < c.size then (do set (p + 1); pure c[p].toNat) else throw (HasTruncated.truncated p) : Decoder Nat) c).run p = _
  rw [dif_pos hp]
  rfl
theorem run_b {α β : Type} {x : Decoder α} {f : α → Decoder β} {c : ByteArray} {p q : Nat} {a : α} (h : x.runAt c p = .ok (a, q)) : (x >>= f).runAt c p = (f a).runAt c q := by
  have h : x c p = .ok (a, q) := h
  show (bind (x c p) fun r => f r.1 c r.2 : Except DecodeError (β × Nat)) = f a c q
  rw [h]; rfl
theorem u2_ok {c : ByteArray} {p : Nat} {a b : UInt8} {l : List UInt8} (h : Bt c p (a :: b :: l)) : (Reader.u2 : Decoder Nat).runAt c p = .ok (a.toNat * 256 + b.toNat, p + 2) := by
  unfold Reader.u2
  rw [run_b (u1_ok h), run_b (u1_ok (Bt_1 h rfl))]
  rfl
theorem s1_ok {c : ByteArray} {p : Nat} {a : UInt8} {l : List UInt8} (h : Bt c p (a :: l)) : (Reader.s1 : Decoder Int).runAt c p = .ok (Reader.signed 8 a.toNat, p + 1) := by
  have e : (Reader.u1 : Decoder Nat) c p = .ok (a.toNat, p + 1) := u1_ok h
  show (bind ((Reader.u1 : Decoder Nat) c p) fun r => pure (Reader.signed 8 r.1, r.2) : Except DecodeError (Int × Nat)) = _
  rw [e]; rfl
theorem s2_ok {c : ByteArray} {p : Nat} {a b : UInt8} {l : List UInt8} (h : Bt c p (a :: b :: l)) : (Reader.s2 : Decoder Int).runAt c p = .ok (Reader.signed 16 (a.toNat * 256 + b.toNat), p + 2) := by
  have e : (Reader.u2 : Decoder Nat) c p = .ok (a.toNat * 256 + b.toNat, p + 2) := u2_ok h
  show (bind ((Reader.u2 : Decoder Nat) c p) fun r => pure (Reader.signed 16 r.1, r.2) : Except DecodeError (Int × Nat)) = _
  rw [e]; rfl
theorem de_f {c : ByteArray} {p k : Nat} {i : Instr} (h : (Decoder.instr p).runAt c p = .ok (i, p + k)) : decode c p = .ok (i, k) := by
  unfold decode
  rw [h]
  show Except.ok (i, p + k - p) = _
  rw [Nat.add_sub_cancel_left]
theorem de_02 {c : ByteArray} {p : Nat} {l : List UInt8} (h : Bt c p (0x02 :: l)) : decode c p = .ok (.iconst (-1), 1) := de_f ((run_b (u1_ok h)).trans rfl)
theorem de_03 {c : ByteArray} {p : Nat} {l : List UInt8} (h : Bt c p (0x03 :: l)) : decode c p = .ok (.iconst 0, 1) := de_f ((run_b (u1_ok h)).trans rfl)
theorem de_04 {c : ByteArray} {p : Nat} {l : List UInt8} (h : Bt c p (0x04 :: l)) : decode c p = .ok (.iconst 1, 1) := de_f ((run_b (u1_ok h)).trans rfl)
theorem de_05 {c : ByteArray} {p : Nat} {l : List UInt8} (h : Bt c p (0x05 :: l)) : decode c p = .ok (.iconst 2, 1) := de_f ((run_b (u1_ok h)).trans rfl)
theorem de_06 {c : ByteArray} {p : Nat} {l : List UInt8} (h : Bt c p (0x06 :: l)) : decode c p = .ok (.iconst 3, 1) := de_f ((run_b (u1_ok h)).trans rfl)
theorem de_07 {c : ByteArray} {p : Nat} {l : List UInt8} (h : Bt c p (0x07 :: l)) : decode c p = .ok (.iconst 4, 1) := de_f ((run_b (u1_ok h)).trans rfl)
theorem de_08 {c : ByteArray} {p : Nat} {l : List UInt8} (h : Bt c p (0x08 :: l)) : decode c p = .ok (.iconst 5, 1) := de_f ((run_b (u1_ok h)).trans rfl)
theorem de_09 {c : ByteArray} {p : Nat} {l : List UInt8} (h : Bt c p (0x09 :: l)) : decode c p = .ok (.lconst 0, 1) := de_f ((run_b (u1_ok h)).trans rfl)
theorem de_0a {c : ByteArray} {p : Nat} {l : List UInt8} (h : Bt c p (0x0a :: l)) : decode c p = .ok (.lconst 1, 1) := de_f ((run_b (u1_ok h)).trans rfl)
theorem de_10 {c : ByteArray} {p : Nat} {l : List UInt8} {a : UInt8} {i : Int} (h : Bt c p (0x10 :: a :: l)) (e : Reader.signed 8 a.toNat = i) : decode c p = .ok (.bipush i, 2) := e ▸ de_f ((run_b (u1_ok h)).trans ((run_b (s1_ok (Bt_1 h rfl))).trans rfl))
theorem de_11 {c : ByteArray} {p : Nat} {l : List UInt8} {a b : UInt8} {i : Int} (h : Bt c p (0x11 :: a :: b :: l)) (e : Reader.signed 16 (a.toNat * 256 + b.toNat) = i) : decode c p = .ok (.sipush i, 3) := e ▸ de_f ((run_b (u1_ok h)).trans ((run_b (s2_ok (Bt_1 h rfl))).trans rfl))
theorem de_12 {c : ByteArray} {p : Nat} {l : List UInt8} {a : UInt8} {i : Nat} (h : Bt c p (0x12 :: a :: l)) (e : a.toNat = i) : decode c p = .ok (.ldc i, 2) := e ▸ de_f ((run_b (u1_ok h)).trans ((run_b (u1_ok (Bt_1 h rfl))).trans rfl))
theorem de_13 {c : ByteArray} {p : Nat} {l : List UInt8} {a b : UInt8} {i : Nat} (h : Bt c p (0x13 :: a :: b :: l)) (e : a.toNat * 256 + b.toNat = i) : decode c p = .ok (.ldc_w i, 3) := e ▸ de_f ((run_b (u1_ok h)).trans ((run_b (u2_ok (Bt_1 h rfl))).trans rfl))
theorem de_14 {c : ByteArray} {p : Nat} {l : List UInt8} {a b : UInt8} {i : Nat} (h : Bt c p (0x14 :: a :: b :: l)) (e : a.toNat * 256 + b.toNat = i) : decode c p = .ok (.ldc2_w i, 3) := e ▸ de_f ((run_b (u1_ok h)).trans ((run_b (u2_ok (Bt_1 h rfl))).trans rfl))
theorem de_15 {c : ByteArray} {p : Nat} {l : List UInt8} {a : UInt8} {i : Nat} (h : Bt c p (0x15 :: a :: l)) (e : a.toNat = i) : decode c p = .ok (.iload i, 2) := e ▸ de_f ((run_b (u1_ok h)).trans ((run_b (u1_ok (Bt_1 h rfl))).trans rfl))
theorem de_16 {c : ByteArray} {p : Nat} {l : List UInt8} {a : UInt8} {i : Nat} (h : Bt c p (0x16 :: a :: l)) (e : a.toNat = i) : decode c p = .ok (.lload i, 2) := e ▸ de_f ((run_b (u1_ok h)).trans ((run_b (u1_ok (Bt_1 h rfl))).trans rfl))
theorem de_1a {c : ByteArray} {p : Nat} {l : List UInt8} (h : Bt c p (0x1a :: l)) : decode c p = .ok (.iload_n 0, 1) := de_f ((run_b (u1_ok h)).trans rfl)
theorem de_1b {c : ByteArray} {p : Nat} {l : List UInt8} (h : Bt c p (0x1b :: l)) : decode c p = .ok (.iload_n 1, 1) := de_f ((run_b (u1_ok h)).trans rfl)
theorem de_1c {c : ByteArray} {p : Nat} {l : List UInt8} (h : Bt c p (0x1c :: l)) : decode c p = .ok (.iload_n 2, 1) := de_f ((run_b (u1_ok h)).trans rfl)
theorem de_1d {c : ByteArray} {p : Nat} {l : List UInt8} (h : Bt c p (0x1d :: l)) : decode c p = .ok (.iload_n 3, 1) := de_f ((run_b (u1_ok h)).trans rfl)
theorem de_1e {c : ByteArray} {p : Nat} {l : List UInt8} (h : Bt c p (0x1e :: l)) : decode c p = .ok (.lload_n 0, 1) := de_f ((run_b (u1_ok h)).trans rfl)
theorem de_1f {c : ByteArray} {p : Nat} {l : List UInt8} (h : Bt c p (0x1f :: l)) : decode c p = .ok (.lload_n 1, 1) := de_f ((run_b (u1_ok h)).trans rfl)
theorem de_20 {c : ByteArray} {p : Nat} {l : List UInt8} (h : Bt c p (0x20 :: l)) : decode c p = .ok (.lload_n 2, 1) := de_f ((run_b (u1_ok h)).trans rfl)
theorem de_21 {c : ByteArray} {p : Nat} {l : List UInt8} (h : Bt c p (0x21 :: l)) : decode c p = .ok (.lload_n 3, 1) := de_f ((run_b (u1_ok h)).trans rfl)
theorem de_2a {c : ByteArray} {p : Nat} {l : List UInt8} (h : Bt c p (0x2a :: l)) : decode c p = .ok (.aload_n 0, 1) := de_f ((run_b (u1_ok h)).trans rfl)
theorem de_2b {c : ByteArray} {p : Nat} {l : List UInt8} (h : Bt c p (0x2b :: l)) : decode c p = .ok (.aload_n 1, 1) := de_f ((run_b (u1_ok h)).trans rfl)
theorem de_2c {c : ByteArray} {p : Nat} {l : List UInt8} (h : Bt c p (0x2c :: l)) : decode c p = .ok (.aload_n 2, 1) := de_f ((run_b (u1_ok h)).trans rfl)
theorem de_2e {c : ByteArray} {p : Nat} {l : List UInt8} (h : Bt c p (0x2e :: l)) : decode c p = .ok (.iaload, 1) := de_f ((run_b (u1_ok h)).trans rfl)
theorem de_2f {c : ByteArray} {p : Nat} {l : List UInt8} (h : Bt c p (0x2f :: l)) : decode c p = .ok (.laload, 1) := de_f ((run_b (u1_ok h)).trans rfl)
theorem de_33 {c : ByteArray} {p : Nat} {l : List UInt8} (h : Bt c p (0x33 :: l)) : decode c p = .ok (.baload, 1) := de_f ((run_b (u1_ok h)).trans rfl)
theorem de_36 {c : ByteArray} {p : Nat} {l : List UInt8} {a : UInt8} {i : Nat} (h : Bt c p (0x36 :: a :: l)) (e : a.toNat = i) : decode c p = .ok (.istore i, 2) := e ▸ de_f ((run_b (u1_ok h)).trans ((run_b (u1_ok (Bt_1 h rfl))).trans rfl))
theorem de_37 {c : ByteArray} {p : Nat} {l : List UInt8} {a : UInt8} {i : Nat} (h : Bt c p (0x37 :: a :: l)) (e : a.toNat = i) : decode c p = .ok (.lstore i, 2) := e ▸ de_f ((run_b (u1_ok h)).trans ((run_b (u1_ok (Bt_1 h rfl))).trans rfl))
theorem de_3b {c : ByteArray} {p : Nat} {l : List UInt8} (h : Bt c p (0x3b :: l)) : decode c p = .ok (.istore_n 0, 1) := de_f ((run_b (u1_ok h)).trans rfl)
theorem de_3c {c : ByteArray} {p : Nat} {l : List UInt8} (h : Bt c p (0x3c :: l)) : decode c p = .ok (.istore_n 1, 1) := de_f ((run_b (u1_ok h)).trans rfl)
theorem de_3d {c : ByteArray} {p : Nat} {l : List UInt8} (h : Bt c p (0x3d :: l)) : decode c p = .ok (.istore_n 2, 1) := de_f ((run_b (u1_ok h)).trans rfl)
theorem de_3e {c : ByteArray} {p : Nat} {l : List UInt8} (h : Bt c p (0x3e :: l)) : decode c p = .ok (.istore_n 3, 1) := de_f ((run_b (u1_ok h)).trans rfl)
theorem de_3f {c : ByteArray} {p : Nat} {l : List UInt8} (h : Bt c p (0x3f :: l)) : decode c p = .ok (.lstore_n 0, 1) := de_f ((run_b (u1_ok h)).trans rfl)
theorem de_40 {c : ByteArray} {p : Nat} {l : List UInt8} (h : Bt c p (0x40 :: l)) : decode c p = .ok (.lstore_n 1, 1) := de_f ((run_b (u1_ok h)).trans rfl)
theorem de_41 {c : ByteArray} {p : Nat} {l : List UInt8} (h : Bt c p (0x41 :: l)) : decode c p = .ok (.lstore_n 2, 1) := de_f ((run_b (u1_ok h)).trans rfl)
theorem de_42 {c : ByteArray} {p : Nat} {l : List UInt8} (h : Bt c p (0x42 :: l)) : decode c p = .ok (.lstore_n 3, 1) := de_f ((run_b (u1_ok h)).trans rfl)
theorem de_4c {c : ByteArray} {p : Nat} {l : List UInt8} (h : Bt c p (0x4c :: l)) : decode c p = .ok (.astore_n 1, 1) := de_f ((run_b (u1_ok h)).trans rfl)
theorem de_4d {c : ByteArray} {p : Nat} {l : List UInt8} (h : Bt c p (0x4d :: l)) : decode c p = .ok (.astore_n 2, 1) := de_f ((run_b (u1_ok h)).trans rfl)
theorem de_4f {c : ByteArray} {p : Nat} {l : List UInt8} (h : Bt c p (0x4f :: l)) : decode c p = .ok (.iastore, 1) := de_f ((run_b (u1_ok h)).trans rfl)
theorem de_50 {c : ByteArray} {p : Nat} {l : List UInt8} (h : Bt c p (0x50 :: l)) : decode c p = .ok (.lastore, 1) := de_f ((run_b (u1_ok h)).trans rfl)
theorem de_54 {c : ByteArray} {p : Nat} {l : List UInt8} (h : Bt c p (0x54 :: l)) : decode c p = .ok (.bastore, 1) := de_f ((run_b (u1_ok h)).trans rfl)
theorem de_57 {c : ByteArray} {p : Nat} {l : List UInt8} (h : Bt c p (0x57 :: l)) : decode c p = .ok (.pop, 1) := de_f ((run_b (u1_ok h)).trans rfl)
theorem de_58 {c : ByteArray} {p : Nat} {l : List UInt8} (h : Bt c p (0x58 :: l)) : decode c p = .ok (.pop2, 1) := de_f ((run_b (u1_ok h)).trans rfl)
theorem de_59 {c : ByteArray} {p : Nat} {l : List UInt8} (h : Bt c p (0x59 :: l)) : decode c p = .ok (.dup, 1) := de_f ((run_b (u1_ok h)).trans rfl)
theorem de_5c {c : ByteArray} {p : Nat} {l : List UInt8} (h : Bt c p (0x5c :: l)) : decode c p = .ok (.dup2, 1) := de_f ((run_b (u1_ok h)).trans rfl)
theorem de_60 {c : ByteArray} {p : Nat} {l : List UInt8} (h : Bt c p (0x60 :: l)) : decode c p = .ok (.iadd, 1) := de_f ((run_b (u1_ok h)).trans rfl)
theorem de_61 {c : ByteArray} {p : Nat} {l : List UInt8} (h : Bt c p (0x61 :: l)) : decode c p = .ok (.ladd, 1) := de_f ((run_b (u1_ok h)).trans rfl)
theorem de_64 {c : ByteArray} {p : Nat} {l : List UInt8} (h : Bt c p (0x64 :: l)) : decode c p = .ok (.isub, 1) := de_f ((run_b (u1_ok h)).trans rfl)
theorem de_65 {c : ByteArray} {p : Nat} {l : List UInt8} (h : Bt c p (0x65 :: l)) : decode c p = .ok (.lsub, 1) := de_f ((run_b (u1_ok h)).trans rfl)
theorem de_68 {c : ByteArray} {p : Nat} {l : List UInt8} (h : Bt c p (0x68 :: l)) : decode c p = .ok (.imul, 1) := de_f ((run_b (u1_ok h)).trans rfl)
theorem de_69 {c : ByteArray} {p : Nat} {l : List UInt8} (h : Bt c p (0x69 :: l)) : decode c p = .ok (.lmul, 1) := de_f ((run_b (u1_ok h)).trans rfl)
theorem de_6c {c : ByteArray} {p : Nat} {l : List UInt8} (h : Bt c p (0x6c :: l)) : decode c p = .ok (.idiv, 1) := de_f ((run_b (u1_ok h)).trans rfl)
theorem de_6d {c : ByteArray} {p : Nat} {l : List UInt8} (h : Bt c p (0x6d :: l)) : decode c p = .ok (.ldiv, 1) := de_f ((run_b (u1_ok h)).trans rfl)
theorem de_70 {c : ByteArray} {p : Nat} {l : List UInt8} (h : Bt c p (0x70 :: l)) : decode c p = .ok (.irem, 1) := de_f ((run_b (u1_ok h)).trans rfl)
theorem de_71 {c : ByteArray} {p : Nat} {l : List UInt8} (h : Bt c p (0x71 :: l)) : decode c p = .ok (.lrem, 1) := de_f ((run_b (u1_ok h)).trans rfl)
theorem de_74 {c : ByteArray} {p : Nat} {l : List UInt8} (h : Bt c p (0x74 :: l)) : decode c p = .ok (.ineg, 1) := de_f ((run_b (u1_ok h)).trans rfl)
theorem de_75 {c : ByteArray} {p : Nat} {l : List UInt8} (h : Bt c p (0x75 :: l)) : decode c p = .ok (.lneg, 1) := de_f ((run_b (u1_ok h)).trans rfl)
theorem de_78 {c : ByteArray} {p : Nat} {l : List UInt8} (h : Bt c p (0x78 :: l)) : decode c p = .ok (.ishl, 1) := de_f ((run_b (u1_ok h)).trans rfl)
theorem de_79 {c : ByteArray} {p : Nat} {l : List UInt8} (h : Bt c p (0x79 :: l)) : decode c p = .ok (.lshl, 1) := de_f ((run_b (u1_ok h)).trans rfl)
theorem de_7a {c : ByteArray} {p : Nat} {l : List UInt8} (h : Bt c p (0x7a :: l)) : decode c p = .ok (.ishr, 1) := de_f ((run_b (u1_ok h)).trans rfl)
theorem de_7b {c : ByteArray} {p : Nat} {l : List UInt8} (h : Bt c p (0x7b :: l)) : decode c p = .ok (.lshr, 1) := de_f ((run_b (u1_ok h)).trans rfl)
theorem de_7c {c : ByteArray} {p : Nat} {l : List UInt8} (h : Bt c p (0x7c :: l)) : decode c p = .ok (.iushr, 1) := de_f ((run_b (u1_ok h)).trans rfl)
theorem de_7d {c : ByteArray} {p : Nat} {l : List UInt8} (h : Bt c p (0x7d :: l)) : decode c p = .ok (.lushr, 1) := de_f ((run_b (u1_ok h)).trans rfl)
theorem de_7e {c : ByteArray} {p : Nat} {l : List UInt8} (h : Bt c p (0x7e :: l)) : decode c p = .ok (.iand, 1) := de_f ((run_b (u1_ok h)).trans rfl)
theorem de_7f {c : ByteArray} {p : Nat} {l : List UInt8} (h : Bt c p (0x7f :: l)) : decode c p = .ok (.land, 1) := de_f ((run_b (u1_ok h)).trans rfl)
theorem de_80 {c : ByteArray} {p : Nat} {l : List UInt8} (h : Bt c p (0x80 :: l)) : decode c p = .ok (.ior, 1) := de_f ((run_b (u1_ok h)).trans rfl)
theorem de_81 {c : ByteArray} {p : Nat} {l : List UInt8} (h : Bt c p (0x81 :: l)) : decode c p = .ok (.lor, 1) := de_f ((run_b (u1_ok h)).trans rfl)
theorem de_82 {c : ByteArray} {p : Nat} {l : List UInt8} (h : Bt c p (0x82 :: l)) : decode c p = .ok (.ixor, 1) := de_f ((run_b (u1_ok h)).trans rfl)
theorem de_84 {c : ByteArray} {p : Nat} {l : List UInt8} {a b : UInt8} {i : Nat} {j : Int} (h : Bt c p (0x84 :: a :: b :: l)) (e : a.toNat = i) (e2 : Reader.signed 8 b.toNat = j) : decode c p = .ok (.iinc i j, 3) := e ▸ e2 ▸ de_f ((run_b (u1_ok h)).trans ((run_b (u1_ok (Bt_1 h rfl))).trans ((run_b (s1_ok (Bt_2 h rfl))).trans rfl)))
theorem de_85 {c : ByteArray} {p : Nat} {l : List UInt8} (h : Bt c p (0x85 :: l)) : decode c p = .ok (.i2l, 1) := de_f ((run_b (u1_ok h)).trans rfl)
theorem de_88 {c : ByteArray} {p : Nat} {l : List UInt8} (h : Bt c p (0x88 :: l)) : decode c p = .ok (.l2i, 1) := de_f ((run_b (u1_ok h)).trans rfl)
theorem de_94 {c : ByteArray} {p : Nat} {l : List UInt8} (h : Bt c p (0x94 :: l)) : decode c p = .ok (.lcmp, 1) := de_f ((run_b (u1_ok h)).trans rfl)
theorem de_99 {c : ByteArray} {p : Nat} {l : List UInt8} {a b : UInt8} {i : Int} (h : Bt c p (0x99 :: a :: b :: l)) (e : Reader.signed 16 (a.toNat * 256 + b.toNat) = i) : decode c p = .ok (.ifCond .eq i, 3) := e ▸ de_f ((run_b (u1_ok h)).trans ((run_b (s2_ok (Bt_1 h rfl))).trans rfl))
theorem de_9a {c : ByteArray} {p : Nat} {l : List UInt8} {a b : UInt8} {i : Int} (h : Bt c p (0x9a :: a :: b :: l)) (e : Reader.signed 16 (a.toNat * 256 + b.toNat) = i) : decode c p = .ok (.ifCond .ne i, 3) := e ▸ de_f ((run_b (u1_ok h)).trans ((run_b (s2_ok (Bt_1 h rfl))).trans rfl))
theorem de_9b {c : ByteArray} {p : Nat} {l : List UInt8} {a b : UInt8} {i : Int} (h : Bt c p (0x9b :: a :: b :: l)) (e : Reader.signed 16 (a.toNat * 256 + b.toNat) = i) : decode c p = .ok (.ifCond .lt i, 3) := e ▸ de_f ((run_b (u1_ok h)).trans ((run_b (s2_ok (Bt_1 h rfl))).trans rfl))
theorem de_9c {c : ByteArray} {p : Nat} {l : List UInt8} {a b : UInt8} {i : Int} (h : Bt c p (0x9c :: a :: b :: l)) (e : Reader.signed 16 (a.toNat * 256 + b.toNat) = i) : decode c p = .ok (.ifCond .ge i, 3) := e ▸ de_f ((run_b (u1_ok h)).trans ((run_b (s2_ok (Bt_1 h rfl))).trans rfl))
theorem de_9d {c : ByteArray} {p : Nat} {l : List UInt8} {a b : UInt8} {i : Int} (h : Bt c p (0x9d :: a :: b :: l)) (e : Reader.signed 16 (a.toNat * 256 + b.toNat) = i) : decode c p = .ok (.ifCond .gt i, 3) := e ▸ de_f ((run_b (u1_ok h)).trans ((run_b (s2_ok (Bt_1 h rfl))).trans rfl))
theorem de_9e {c : ByteArray} {p : Nat} {l : List UInt8} {a b : UInt8} {i : Int} (h : Bt c p (0x9e :: a :: b :: l)) (e : Reader.signed 16 (a.toNat * 256 + b.toNat) = i) : decode c p = .ok (.ifCond .le i, 3) := e ▸ de_f ((run_b (u1_ok h)).trans ((run_b (s2_ok (Bt_1 h rfl))).trans rfl))
theorem de_9f {c : ByteArray} {p : Nat} {l : List UInt8} {a b : UInt8} {i : Int} (h : Bt c p (0x9f :: a :: b :: l)) (e : Reader.signed 16 (a.toNat * 256 + b.toNat) = i) : decode c p = .ok (.if_icmp .eq i, 3) := e ▸ de_f ((run_b (u1_ok h)).trans ((run_b (s2_ok (Bt_1 h rfl))).trans rfl))
theorem de_a0 {c : ByteArray} {p : Nat} {l : List UInt8} {a b : UInt8} {i : Int} (h : Bt c p (0xa0 :: a :: b :: l)) (e : Reader.signed 16 (a.toNat * 256 + b.toNat) = i) : decode c p = .ok (.if_icmp .ne i, 3) := e ▸ de_f ((run_b (u1_ok h)).trans ((run_b (s2_ok (Bt_1 h rfl))).trans rfl))
theorem de_a1 {c : ByteArray} {p : Nat} {l : List UInt8} {a b : UInt8} {i : Int} (h : Bt c p (0xa1 :: a :: b :: l)) (e : Reader.signed 16 (a.toNat * 256 + b.toNat) = i) : decode c p = .ok (.if_icmp .lt i, 3) := e ▸ de_f ((run_b (u1_ok h)).trans ((run_b (s2_ok (Bt_1 h rfl))).trans rfl))
theorem de_a2 {c : ByteArray} {p : Nat} {l : List UInt8} {a b : UInt8} {i : Int} (h : Bt c p (0xa2 :: a :: b :: l)) (e : Reader.signed 16 (a.toNat * 256 + b.toNat) = i) : decode c p = .ok (.if_icmp .ge i, 3) := e ▸ de_f ((run_b (u1_ok h)).trans ((run_b (s2_ok (Bt_1 h rfl))).trans rfl))
theorem de_a3 {c : ByteArray} {p : Nat} {l : List UInt8} {a b : UInt8} {i : Int} (h : Bt c p (0xa3 :: a :: b :: l)) (e : Reader.signed 16 (a.toNat * 256 + b.toNat) = i) : decode c p = .ok (.if_icmp .gt i, 3) := e ▸ de_f ((run_b (u1_ok h)).trans ((run_b (s2_ok (Bt_1 h rfl))).trans rfl))
theorem de_a4 {c : ByteArray} {p : Nat} {l : List UInt8} {a b : UInt8} {i : Int} (h : Bt c p (0xa4 :: a :: b :: l)) (e : Reader.signed 16 (a.toNat * 256 + b.toNat) = i) : decode c p = .ok (.if_icmp .le i, 3) := e ▸ de_f ((run_b (u1_ok h)).trans ((run_b (s2_ok (Bt_1 h rfl))).trans rfl))
theorem de_a7 {c : ByteArray} {p : Nat} {l : List UInt8} {a b : UInt8} {i : Int} (h : Bt c p (0xa7 :: a :: b :: l)) (e : Reader.signed 16 (a.toNat * 256 + b.toNat) = i) : decode c p = .ok (.goto i, 3) := e ▸ de_f ((run_b (u1_ok h)).trans ((run_b (s2_ok (Bt_1 h rfl))).trans rfl))
theorem de_ac {c : ByteArray} {p : Nat} {l : List UInt8} (h : Bt c p (0xac :: l)) : decode c p = .ok (.ireturn, 1) := de_f ((run_b (u1_ok h)).trans rfl)
theorem de_ad {c : ByteArray} {p : Nat} {l : List UInt8} (h : Bt c p (0xad :: l)) : decode c p = .ok (.lreturn, 1) := de_f ((run_b (u1_ok h)).trans rfl)
theorem de_b1 {c : ByteArray} {p : Nat} {l : List UInt8} (h : Bt c p (0xb1 :: l)) : decode c p = .ok (.return_, 1) := de_f ((run_b (u1_ok h)).trans rfl)
theorem de_b2 {c : ByteArray} {p : Nat} {l : List UInt8} {a b : UInt8} {i : Nat} (h : Bt c p (0xb2 :: a :: b :: l)) (e : a.toNat * 256 + b.toNat = i) : decode c p = .ok (.getstatic i, 3) := e ▸ de_f ((run_b (u1_ok h)).trans ((run_b (u2_ok (Bt_1 h rfl))).trans rfl))
theorem de_b4 {c : ByteArray} {p : Nat} {l : List UInt8} {a b : UInt8} {i : Nat} (h : Bt c p (0xb4 :: a :: b :: l)) (e : a.toNat * 256 + b.toNat = i) : decode c p = .ok (.getfield i, 3) := e ▸ de_f ((run_b (u1_ok h)).trans ((run_b (u2_ok (Bt_1 h rfl))).trans rfl))
theorem de_b5 {c : ByteArray} {p : Nat} {l : List UInt8} {a b : UInt8} {i : Nat} (h : Bt c p (0xb5 :: a :: b :: l)) (e : a.toNat * 256 + b.toNat = i) : decode c p = .ok (.putfield i, 3) := e ▸ de_f ((run_b (u1_ok h)).trans ((run_b (u2_ok (Bt_1 h rfl))).trans rfl))
theorem de_b6 {c : ByteArray} {p : Nat} {l : List UInt8} {a b : UInt8} {i : Nat} (h : Bt c p (0xb6 :: a :: b :: l)) (e : a.toNat * 256 + b.toNat = i) : decode c p = .ok (.invokevirtual i, 3) := e ▸ de_f ((run_b (u1_ok h)).trans ((run_b (u2_ok (Bt_1 h rfl))).trans rfl))
theorem de_b7 {c : ByteArray} {p : Nat} {l : List UInt8} {a b : UInt8} {i : Nat} (h : Bt c p (0xb7 :: a :: b :: l)) (e : a.toNat * 256 + b.toNat = i) : decode c p = .ok (.invokespecial i, 3) := e ▸ de_f ((run_b (u1_ok h)).trans ((run_b (u2_ok (Bt_1 h rfl))).trans rfl))
theorem de_b8 {c : ByteArray} {p : Nat} {l : List UInt8} {a b : UInt8} {i : Nat} (h : Bt c p (0xb8 :: a :: b :: l)) (e : a.toNat * 256 + b.toNat = i) : decode c p = .ok (.invokestatic i, 3) := e ▸ de_f ((run_b (u1_ok h)).trans ((run_b (u2_ok (Bt_1 h rfl))).trans rfl))
theorem de_bb {c : ByteArray} {p : Nat} {l : List UInt8} {a b : UInt8} {i : Nat} (h : Bt c p (0xbb :: a :: b :: l)) (e : a.toNat * 256 + b.toNat = i) : decode c p = .ok (.new i, 3) := e ▸ de_f ((run_b (u1_ok h)).trans ((run_b (u2_ok (Bt_1 h rfl))).trans rfl))
theorem de_bc_04 {c : ByteArray} {p : Nat} {l : List UInt8} (h : Bt c p (0xbc :: 0x04 :: l)) : decode c p = .ok (.newarray .boolean, 2) := de_f ((run_b (u1_ok h)).trans ((run_b (u1_ok (Bt_1 h rfl))).trans rfl))
theorem de_bc_0a {c : ByteArray} {p : Nat} {l : List UInt8} (h : Bt c p (0xbc :: 0x0a :: l)) : decode c p = .ok (.newarray .int, 2) := de_f ((run_b (u1_ok h)).trans ((run_b (u1_ok (Bt_1 h rfl))).trans rfl))
theorem de_bc_0b {c : ByteArray} {p : Nat} {l : List UInt8} (h : Bt c p (0xbc :: 0x0b :: l)) : decode c p = .ok (.newarray .long, 2) := de_f ((run_b (u1_ok h)).trans ((run_b (u1_ok (Bt_1 h rfl))).trans rfl))
theorem de_be {c : ByteArray} {p : Nat} {l : List UInt8} (h : Bt c p (0xbe :: l)) : decode c p = .ok (.arraylength, 1) := de_f ((run_b (u1_ok h)).trans rfl)
