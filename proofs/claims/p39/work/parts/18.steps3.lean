section ST3
variable {FE : (Nat → Int32) → Nat → (Nat → Int32) → Nat → Prop} {AW : (Nat → Int32) → (Nat → Int32) → (Nat → Int64) → (Nat → Int32) → (Nat → Int32) → (Nat → Int32) → Prop} {FD : SS → SS → Prop} {k : Nat} {u v : SS}
theorem mn_lt {x y c : Int32} : (if y < x then y else x) < c ↔ (x < c ∨ y < c) := by
  simp only [Int32.lt_iff_toInt_lt]
  split <;> omega
theorem mx_lt {x y c : Int32} : c < (if x < y then y else x) ↔ (c < x ∨ c < y) := by
  simp only [Int32.lt_iff_toInt_lt]
  split <;> omega
theorem mn4 {a b c d : Int32} : (if (if d < c then d else c) < (if b < a then b else a) then (if d < c then d else c) else (if b < a then b else a)) < 0 ↔ ((a < 0 ∨ b < 0) ∨ (c < 0 ∨ d < 0)) := by
  rw [mn_lt, mn_lt, mn_lt]
theorem mx4 {a b c d : Int32} : (99999 : Int32) < (if (if a < b then b else a) < (if c < d then d else c) then (if c < d then d else c) else (if a < b then b else a)) ↔ (((99999 : Int32) < a ∨ (99999 : Int32) < b) ∨ ((99999 : Int32) < c ∨ (99999 : Int32) < d)) := by
  rw [mx_lt, mx_lt, mx_lt]
theorem wb {m a b c d s o : Int32} (hm : rg 4 m) (u : SS) : f_X10_wrongBid m a b c d s o u = some ((if (a < 0 ∨ b < 0) ∨ (c < 0 ∨ d < 0) then -4 else if s < 0 then -4 else if 0 ≤ o then (if ((99999 : Int32) < a ∨ (99999 : Int32) < b) ∨ ((99999 : Int32) < c ∨ (99999 : Int32) < d) then -6 else if (999999 : Int32) < s then -6 else if o ≤ (99999 : Int32) then 0 else -6) else -4), u) := by
  unfold f_X10_wrongBid
  rw [in_t (n := 3) (by decide) (by decide) hm, ob_s, if_neg nz_1]
  by_cases h0 : a < 0
  · simp [h0]
  by_cases h1 : b < 0
  · simp [h0, h1]
  by_cases h2 : c < 0
  · simp [h0, h1, h2]
  by_cases h3 : d < 0
  · simp [h0, h1, h2, h3]
  by_cases h4 : s < 0
  · simp [h0, h1, h2, h3, h4]
  by_cases h5 : 0 ≤ o
  rotate_left
  · simp [h0, h1, h2, h3, h4, h5]
  by_cases h6 : (99999 : Int32) < a
  · simp [h0, h1, h2, h3, h4, h5, h6]
  by_cases h7 : (99999 : Int32) < b
  · simp [h0, h1, h2, h3, h4, h5, h6, h7]
  by_cases h8 : (99999 : Int32) < c
  · simp [h0, h1, h2, h3, h4, h5, h6, h7, h8]
  by_cases h9 : (99999 : Int32) < d
  · simp [h0, h1, h2, h3, h4, h5, h6, h7, h8, h9]
  by_cases h10 : (999999 : Int32) < s
  · simp [h0, h1, h2, h3, h4, h5, h6, h7, h8, h9, h10]
  by_cases h11 : o ≤ (99999 : Int32)
  · simp [h0, h1, h2, h3, h4, h5, h6, h7, h8, h9, h10, h11]
  simp [h0, h1, h2, h3, h4, h5, h6, h7, h8, h9, h10, h11]
theorem wb_f {m a b c d s o : Int32} (hm : ¬ rg 4 m) (u : SS) : f_X10_wrongBid m a b c d s o u = some (-1, u) := by
  unfold f_X10_wrongBid
  rw [in_f (n := 3) (by decide) (by decide) hm, ob_s, if_pos rfl]
theorem nI_x4 (c : Nat) : nI c * (4 : Int32) = nI (c * 4) := pk_mul c 4
theorem nI_4x (c : Nat) : (4 : Int32) * nI c = nI (4 * c) := pk_mul 4 c
theorem nI_p1 (c : Nat) : nI c + (1 : Int32) = nI (c + 1) := nI_add c 1
theorem nI_p2 (c : Nat) : nI c + (2 : Int32) = nI (c + 2) := nI_add c 2
theorem nI_p3 (c : Nat) : nI c + (3 : Int32) = nI (c + 3) := nI_add c 3
def up4 (f : Nat → Int32) (c : Nat) (a b d e : Int32) : Nat → Int32 := upd (upd (upd (upd f c a) (c + 1) b) (c + 2) d) (c + 3) e
theorem up4_n {f : Nat → Int32} {c x : Nat} {a b d e : Int32} (h : x < c ∨ c + 4 ≤ x) : up4 f c a b d e x = f x := by
  unfold up4
  rw [upd_n _ _ (show x ≠ c + 3 by omega), upd_n _ _ (show x ≠ c + 2 by omega), upd_n _ _ (show x ≠ c + 1 by omega), upd_n _ _ (show x ≠ c by omega)]
theorem up4_0 {f : Nat → Int32} {c : Nat} {a b d e : Int32} : up4 f c a b d e (c + 0) = a := by
  unfold up4
  rw [upd_n _ _ (show c + 0 ≠ c + 3 by omega), upd_n _ _ (show c + 0 ≠ c + 2 by omega), upd_n _ _ (show c + 0 ≠ c + 1 by omega), Nat.add_zero, upd_s]
theorem up4_1 {f : Nat → Int32} {c : Nat} {a b d e : Int32} : up4 f c a b d e (c + 1) = b := by
  unfold up4
  rw [upd_n _ _ (show c + 1 ≠ c + 3 by omega), upd_n _ _ (show c + 1 ≠ c + 2 by omega), upd_s]
theorem up4_2 {f : Nat → Int32} {c : Nat} {a b d e : Int32} : up4 f c a b d e (c + 2) = d := by
  unfold up4
  rw [upd_n _ _ (show c + 2 ≠ c + 3 by omega), upd_s]
theorem up4_3 {f : Nat → Int32} {c : Nat} {a b d e : Int32} : up4 f c a b d e (c + 3) = e := by
  unfold up4
  rw [upd_s]
def bidU (u : SS) (c : Nat) (m a b d e s o : Int32) : SS := tA (tA (tA (tA (tA (tA (tA (tZ (tA (tZ u 3 (nI c) 0) 5 (nI c) 0) 3 (nI c) 1) 7 (nI c) m) 8 (nI c) s) 9 (nI c) o) 6 (nI (c * 4)) a) 6 (nI (c * 4 + 1)) b) 6 (nI (c * 4 + 2)) d) 6 (nI (c * 4 + 3)) e
def bidV (v : SS) (c : Nat) (m a b d e s o : Int32) : SS := tA (tA (tA (tA (tA (tA (tA (tA (tZ v 1 (nI c) 1) 7 (nI c) (-1)) 2 (nI c) m) 3 (nI (4 * c)) a) 3 (nI (4 * c + 1)) b) 3 (nI (4 * c + 2)) d) 3 (nI (4 * c + 3)) e) 4 (nI c) s) 5 (nI c) o
theorem bidU_A (u : SS) (c : Nat) (m a b d e s o : Int32) (x : Nat) (h3 : x ≠ 3) (h5 : x ≠ 5) (h6 : x ≠ 6) (h7 : x ≠ 7) (h8 : x ≠ 8) (h9 : x ≠ 9) : gA (bidU u c m a b d e s o) x = gA u x := by
  unfold bidU
  rw [gA_tA, if_neg h6, gA_tA, if_neg h6, gA_tA, if_neg h6, gA_tA, if_neg h6, gA_tA, if_neg h9, gA_tA, if_neg h8, gA_tA, if_neg h7, gA_tZ, if_neg h3, gA_tA, if_neg h5, gA_tZ, if_neg h3]
theorem bidV_A (v : SS) (c : Nat) (m a b d e s o : Int32) (x : Nat) (h1 : x ≠ 1) (h2 : x ≠ 2) (h3 : x ≠ 3) (h4 : x ≠ 4) (h5 : x ≠ 5) (h7 : x ≠ 7) : gA (bidV v c m a b d e s o) x = gA v x := by
  unfold bidV
  rw [gA_tA, if_neg h5, gA_tA, if_neg h4, gA_tA, if_neg h3, gA_tA, if_neg h3, gA_tA, if_neg h3, gA_tA, if_neg h3, gA_tA, if_neg h2, gA_tA, if_neg h7, gA_tZ, if_neg h1]
theorem bidU_I (u : SS) (c : Nat) (m a b d e s o : Int32) (x : Nat) : gI (bidU u c m a b d e s o) x = gI u x := by
  unfold bidU
  rw [gI_tA, gI_tA, gI_tA, gI_tA, gI_tA, gI_tA, gI_tA, gI_tZ, gI_tA, gI_tZ]
theorem bidV_I (v : SS) (c : Nat) (m a b d e s o : Int32) (x : Nat) : gI (bidV v c m a b d e s o) x = gI v x := by
  unfold bidV
  rw [gI_tA, gI_tA, gI_tA, gI_tA, gI_tA, gI_tA, gI_tA, gI_tA, gI_tZ]
theorem gL_tA (u : SS) (a b : Nat) (i x : Int32) : gL (tA u a i x) b = gL u b := rfl
theorem gL_tZ (u : SS) (a b : Nat) (i x : Int32) : gL (tZ u a i x) b = gL u b := rfl
theorem bidU_L (u : SS) (c : Nat) (m a b d e s o : Int32) (x : Nat) : gL (bidU u c m a b d e s o) x = gL u x := by
  unfold bidU
  rw [gL_tA, gL_tA, gL_tA, gL_tA, gL_tA, gL_tA, gL_tA, gL_tZ, gL_tA, gL_tZ]
theorem bid_R {i j : Nat} {m a b d e s o : Int32} (hi : i < 8) (hj : j < 6) (h4 : Rbd u v) (h5 : Rou u v) (h6 : Ras u v) (ho : Opn u) (hm : eN 3 m) (ha : eN 99999 a) (hb : eN 99999 b) (hd : eN 99999 d) (he : eN 99999 e) (hs : eN 999999 s) (hq : eN 99999 o) : Rbd (bidU u (i * 6 + j) m a b d e s o) (bidV v (8 * j + i) m a b d e s o) ∧ Rou (bidU u (i * 6 + j) m a b d e s o) (bidV v (8 * j + i) m a b d e s o) ∧ Ras (bidU u (i * 6 + j) m a b d e s o) (bidV v (8 * j + i) m a b d e s o) := by
  have e1 : (nI (i * 6 + j)).toNatClampNeg = i * 6 + j := nI_clamp (by omega)
  have e2 : (nI (8 * j + i)).toNatClampNeg = 8 * j + i := nI_clamp (by omega)
  have a3 : gA (bidU u (i * 6 + j) m a b d e s o) 3 = upd (upd (gA u 3) (i * 6 + j) 0) (i * 6 + j) 1 := by
    show upd (upd (gA u 3) (nI (i * 6 + j)).toNatClampNeg (vp_nar .boolean 0)) (nI (i * 6 + j)).toNatClampNeg (vp_nar .boolean 1) = _
    rw [e1, vn0, vn1]
  have b1 : gA (bidV v (8 * j + i) m a b d e s o) 1 = upd (gA v 1) (8 * j + i) 1 := by
    show upd (gA v 1) (nI (8 * j + i)).toNatClampNeg (vp_nar .boolean 1) = _
    rw [e2, vn1]
  have a5 : gA (bidU u (i * 6 + j) m a b d e s o) 5 = upd (gA u 5) (i * 6 + j) 0 := by
    show upd (gA u 5) (nI (i * 6 + j)).toNatClampNeg 0 = _
    rw [e1]
  have b7 : gA (bidV v (8 * j + i) m a b d e s o) 7 = upd (gA v 7) (8 * j + i) (-1) := by
    show upd (gA v 7) (nI (8 * j + i)).toNatClampNeg (-1) = _
    rw [e2]
  have a7 : gA (bidU u (i * 6 + j) m a b d e s o) 7 = upd (gA u 7) (i * 6 + j) m := by
    show upd (gA u 7) (nI (i * 6 + j)).toNatClampNeg m = _
    rw [e1]
  have b2 : gA (bidV v (8 * j + i) m a b d e s o) 2 = upd (gA v 2) (8 * j + i) m := by
    show upd (gA v 2) (nI (8 * j + i)).toNatClampNeg m = _
    rw [e2]
  have a8 : gA (bidU u (i * 6 + j) m a b d e s o) 8 = upd (gA u 8) (i * 6 + j) s := by
    show upd (gA u 8) (nI (i * 6 + j)).toNatClampNeg s = _
    rw [e1]
  have b4 : gA (bidV v (8 * j + i) m a b d e s o) 4 = upd (gA v 4) (8 * j + i) s := by
    show upd (gA v 4) (nI (8 * j + i)).toNatClampNeg s = _
    rw [e2]
  have a9 : gA (bidU u (i * 6 + j) m a b d e s o) 9 = upd (gA u 9) (i * 6 + j) o := by
    show upd (gA u 9) (nI (i * 6 + j)).toNatClampNeg o = _
    rw [e1]
  have b5 : gA (bidV v (8 * j + i) m a b d e s o) 5 = upd (gA v 5) (8 * j + i) o := by
    show upd (gA v 5) (nI (8 * j + i)).toNatClampNeg o = _
    rw [e2]
  have a6 : gA (bidU u (i * 6 + j) m a b d e s o) 6 = up4 (gA u 6) ((i * 6 + j) * 4) a b d e := by
    show upd (upd (upd (upd (gA u 6) (nI ((i * 6 + j) * 4)).toNatClampNeg a) (nI ((i * 6 + j) * 4 + 1)).toNatClampNeg b) (nI ((i * 6 + j) * 4 + 2)).toNatClampNeg d) (nI ((i * 6 + j) * 4 + 3)).toNatClampNeg e = _
    rw [nI_clamp (by omega), nI_clamp (by omega), nI_clamp (by omega), nI_clamp (by omega)]
    rfl
  have b3 : gA (bidV v (8 * j + i) m a b d e s o) 3 = up4 (gA v 3) (4 * (8 * j + i)) a b d e := by
    show upd (upd (upd (upd (gA v 3) (nI (4 * (8 * j + i))).toNatClampNeg a) (nI (4 * (8 * j + i) + 1)).toNatClampNeg b) (nI (4 * (8 * j + i) + 2)).toNatClampNeg d) (nI (4 * (8 * j + i) + 3)).toNatClampNeg e = _
    rw [nI_clamp (by omega), nI_clamp (by omega), nI_clamp (by omega), nI_clamp (by omega)]
    rfl
  have a4' := bidU_A u (i * 6 + j) m a b d e s o 4 (by decide) (by decide) (by decide) (by decide) (by decide) (by decide)
  have b6' := bidV_A v (8 * j + i) m a b d e s o 6 (by decide) (by decide) (by decide) (by decide) (by decide) (by decide)
  refine ⟨fun b' l hb' hl => ?_, fun b' l hb' hl => ?_, fun b' l hb' hl => ?_⟩
  · rw [a3, b1, a7, b2, a8, b4, a9, b5, a6, b3]
    by_cases c : b' = i ∧ l = j
    · obtain ⟨rfl, rfl⟩ := c
      rw [upd_s, upd_s, upd_s, upd_s, upd_s, upd_s, upd_s, upd_s]
      refine ⟨⟨rfl, Or.inr rfl⟩, ⟨rfl, hm⟩, ⟨rfl, hs⟩, ⟨rfl, hq⟩, fun x hx => ?_⟩
      match x, hx with
      | 0, _ => rw [up4_0, up4_0]; exact ⟨rfl, ha⟩
      | 1, _ => rw [up4_1, up4_1]; exact ⟨rfl, hb⟩
      | 2, _ => rw [up4_2, up4_2]; exact ⟨rfl, hd⟩
      | 3, _ => rw [up4_3, up4_3]; exact ⟨rfl, he⟩
    · obtain ⟨n1, n2⟩ := ce_ne hb' hl hi hj c
      rw [upd_n _ _ n1, upd_n _ _ n1, upd_n _ _ n2, upd_n _ _ n1, upd_n _ _ n2, upd_n _ _ n1, upd_n _ _ n2, upd_n _ _ n1, upd_n _ _ n2]
      refine ⟨(h4 b' l hb' hl).1, (h4 b' l hb' hl).2.1, (h4 b' l hb' hl).2.2.1, (h4 b' l hb' hl).2.2.2.1, fun x hx => ?_⟩
      rw [up4_n (by omega), up4_n (by omega)]
      exact (h4 b' l hb' hl).2.2.2.2 x hx
  · rw [a4', b6']; exact ⟨(h5 b' l hb' hl).1, (h5 b' l hb' hl).2.1, fun _ => (h5 b' l hb' hl).2.2 (Or.inl ho)⟩
  · rw [a3, a5, b7]
    by_cases c : b' = i ∧ l = j
    · obtain ⟨rfl, rfl⟩ := c
      rw [upd_s, upd_s]; exact Or.inl ⟨rfl, rfl⟩
    · obtain ⟨n1, n2⟩ := ce_ne hb' hl hi hj c
      rw [upd_n _ _ n1, upd_n _ _ n2, upd_n _ _ n1, upd_n _ _ n1]; exact h6 b' l hb' hl
theorem RR_bd {u2 v2 : SS} (h : RR FE AW FD k u v) (hI : ∀ i, gI u2 i = gI u i) (hV : ∀ i, gI v2 i = gI v i) (hL : gL u2 8 = gL u 8) (hu : ∀ a, a ≠ 3 → a ≠ 5 → a ≠ 6 → a ≠ 7 → a ≠ 8 → a ≠ 9 → gA u2 a = gA u a) (hv : ∀ a, a ≠ 1 → a ≠ 2 → a ≠ 3 → a ≠ 4 → a ≠ 5 → a ≠ 7 → gA v2 a = gA v a) (r4 : Rbd u2 v2) (r5 : Rou u2 v2) (r6 : Ras u2 v2) (hf : gI v 16 = 0) : RR FE AW FD (k + 1) u2 v2 := by
  obtain ⟨h1, h2, h3, h4, h5, h6, h7, h8, h9, h10, h11, h12, h13, h14, h15, h16, h17, h18, h19⟩ := h
  have A : ∀ a, a = 1 ∨ a = 2 ∨ 10 ≤ a → gA u2 a = gA u a := fun a ha => hu a (by omega) (by omega) (by omega) (by omega) (by omega) (by omega)
  have B : ∀ a, a = 0 ∨ a = 6 ∨ 8 ≤ a → gA v2 a = gA v a := fun a ha => hv a (by omega) (by omega) (by omega) (by omega) (by omega) (by omega)
  refine ⟨?_, ?_, ?_, r4, r5, r6, ?_, ?_, ?_, ?_, ?_, ?_, ?_, ?_, ?_, ?_, ?_, ?_, ?_⟩
  · unfold Rtm; simp only [hI, hV]; exact h1
  · unfold Rst; rw [A 1 (by omega), B 8 (by omega)]; exact h2
  · unfold Rrt; rw [A 2 (by omega), B 0 (by omega)]; exact h3
  · unfold Rno; rw [A 10 (by omega), B 9 (by omega)]; exact h7
  · unfold Rba; rw [A 11 (by omega), B 10 (by omega)]; exact h8
  · unfold Rtp; rw [hI, hV]; exact h9
  · unfold Rfo; rw [hI, hV, A 13 (by omega), B 13 (by omega)]; exact h10
  · unfold Rmo; rw [A 20 (by omega), A 22 (by omega), B 16 (by omega), B 17 (by omega)]; exact h11
  · unfold Raw; simp only [hI, hV]; rw [A 26 (by omega), A 27 (by omega), A 28 (by omega), A 29 (by omega), B 27 (by omega), B 28 (by omega), B 29 (by omega)]; exact Raw_k h12
  · unfold Rfw; simp only [hI, hV]; rw [A 31 (by omega), A 32 (by omega), B 32 (by omega), B 33 (by omega)]; exact h13
  · rw [B 18 (by omega)]; exact h14
  · rw [B 24 (by omega)]; exact h15
  · rw [hV]; exact h16
  · intro _; rw [hV]; exact hf
  · rw [A 25 (by omega), A 30 (by omega), hL, B 24 (by omega), B 25 (by omega), B 26 (by omega)]; exact h18
  · intro z; rw [hV, hf] at z; exact absurd z n01
theorem eN_n {m : Nat} {x c : Int32} (hm : m + 1 < 2 ^ 31) (hc : c = nI m) (h0 : ¬ x < 0) (h1 : ¬ c < x) : eN m x := eN_mk hm hc (Int32.not_lt.mp h0) (Int32.not_lt.mp h1)
theorem st_bid (hA : FDok FD) (h : RR FE AW FD k u v) (b : Int32) (l : Int32) (m : Int32) (a4 : Int32) (a5 : Int32) (a6 : Int32) (a7 : Int32) (a8 : Int32) (a9 : Int32) (hA2 : FDlate FD) : QQ (RR FE AW FD (k + 1)) (f_X9_bid b l m a4 a5 a6 a7 a8 a9 u) (f_X10_bid b l m a4 a5 a6 a7 a8 a9 v) := by
  obtain ⟨⟨t, L, ht, hL1, hL6, e0, e0m, e2, e2m, e1, e1c⟩, h2, h3, h4, h5, h6, h7, h8, h9, h10, h11, h12, h13, h14, h15, h16, h17, h18, h19⟩ := id h
  rcases bl_c b l L hL6 with ⟨i, j, hi, hj, hj6, rfl, rfl⟩ | hbl
  rotate_left
  · by_cases hb : rg 8 b
    · simp only [f_X9_bid, f_X10_bid, f_X9_bid_L18, f_X9_bid_L58, f_X9_bid_L105, f_X10_bid_L15, f_X10_bid_L36, noBid_f e2 hL6 hbl, isBidder_t hb, isLot_f e2m hL1 hL6 (fun hl => hbl ⟨hb, hl⟩), ob_s, ov_s, lt_e, ↓reduceIte, eq_self, not_true_eq_false, not_false_eq_true, nz_1, nz_m1, nz_m2, nz_m3, nz_m4, nz_m5, nz_m6, nz_m7, nz_m8, nz_m9, nl_m1, nl_m2, nl_m3, nl_m4, nl_m5, nl_m6, nl_m7, nl_m8, nl_m9, ceB, rfB rwd1, rfM rwd1, rlB rwd1, rlM rwd1]
      exact qq_rf hA h _
    · simp only [f_X9_bid, f_X10_bid, f_X9_bid_L18, f_X9_bid_L58, f_X9_bid_L105, f_X10_bid_L15, f_X10_bid_L36, noBid_f e2 hL6 hbl, isBidder_f hb, ob_s, ov_s, lt_e, ↓reduceIte, eq_self, not_true_eq_false, not_false_eq_true, nz_1, nz_m1, nz_m2, nz_m3, nz_m4, nz_m5, nz_m6, nz_m7, nz_m8, nz_m9, nl_m1, nl_m2, nl_m3, nl_m4, nl_m5, nl_m6, nl_m7, nl_m8, nl_m9, ceB, rfB rwd1, rfM rwd1, rlB rwd1, rlM rwd1]
      exact qq_rf hA h _
  · by_cases hm : rg 4 m
    · have c4 : m < (4 : Int32) := rg_hi (n := 4) (by decide) hm
      have hlo : ¬ m < 0 := rg_lo (by decide) hm
      by_cases n1 : (a4 < 0 ∨ a5 < 0) ∨ (a6 < 0 ∨ a7 < 0)
      · simp only [f_X9_bid, f_X10_bid, f_X9_bid_L18, f_X9_bid_L58, f_X9_bid_L105, f_X10_bid_L15, f_X10_bid_L36, noBid_t e2 hL6 ⟨⟨i, hi, rfl⟩, ⟨j, hj, rfl⟩⟩, isBidder_t (show rg 8 (nI i) from ⟨i, hi, rfl⟩), isLot_t e2m hL1 hL6 (show rg L (nI j) from ⟨j, hj, rfl⟩), hlo, c4, mn4, mx4, wb hm, n1, ob_s, ov_s, lt_e, ↓reduceIte, eq_self, not_true_eq_false, not_false_eq_true, nz_1, nz_m1, nz_m2, nz_m3, nz_m4, nz_m5, nz_m6, nz_m7, nz_m8, nz_m9, nl_m1, nl_m2, nl_m3, nl_m4, nl_m5, nl_m6, nl_m7, nl_m8, nl_m9, ceB, rfB rwd4, rfM rwd4, rlB rwd4, rlM rwd4]
        exact qq_rf hA h _
      by_cases n2 : a8 < 0
      · simp only [f_X9_bid, f_X10_bid, f_X9_bid_L18, f_X9_bid_L58, f_X9_bid_L105, f_X10_bid_L15, f_X10_bid_L36, noBid_t e2 hL6 ⟨⟨i, hi, rfl⟩, ⟨j, hj, rfl⟩⟩, isBidder_t (show rg 8 (nI i) from ⟨i, hi, rfl⟩), isLot_t e2m hL1 hL6 (show rg L (nI j) from ⟨j, hj, rfl⟩), hlo, c4, mn4, mx4, wb hm, n1, n2, ob_s, ov_s, lt_e, ↓reduceIte, eq_self, not_true_eq_false, not_false_eq_true, nz_1, nz_m1, nz_m2, nz_m3, nz_m4, nz_m5, nz_m6, nz_m7, nz_m8, nz_m9, nl_m1, nl_m2, nl_m3, nl_m4, nl_m5, nl_m6, nl_m7, nl_m8, nl_m9, ceB, rfB rwd4, rfM rwd4, rlB rwd4, rlM rwd4]
        exact qq_rf hA h _
      by_cases n3 : 0 ≤ a9
      · by_cases x1 : ((99999 : Int32) < a4 ∨ (99999 : Int32) < a5) ∨ ((99999 : Int32) < a6 ∨ (99999 : Int32) < a7)
        · simp only [f_X9_bid, f_X10_bid, f_X9_bid_L18, f_X9_bid_L58, f_X9_bid_L105, f_X10_bid_L15, f_X10_bid_L36, noBid_t e2 hL6 ⟨⟨i, hi, rfl⟩, ⟨j, hj, rfl⟩⟩, isBidder_t (show rg 8 (nI i) from ⟨i, hi, rfl⟩), isLot_t e2m hL1 hL6 (show rg L (nI j) from ⟨j, hj, rfl⟩), hlo, c4, mn4, mx4, wb hm, n1, n2, n3, x1, ob_s, ov_s, lt_e, ↓reduceIte, eq_self, not_true_eq_false, not_false_eq_true, nz_1, nz_m1, nz_m2, nz_m3, nz_m4, nz_m5, nz_m6, nz_m7, nz_m8, nz_m9, nl_m1, nl_m2, nl_m3, nl_m4, nl_m5, nl_m6, nl_m7, nl_m8, nl_m9, ceB, rfB rwd6, rfM rwd6, rlB rwd6, rlM rwd6]
          exact qq_rf hA h _
        by_cases x2 : (999999 : Int32) < a8
        · simp only [f_X9_bid, f_X10_bid, f_X9_bid_L18, f_X9_bid_L58, f_X9_bid_L105, f_X10_bid_L15, f_X10_bid_L36, noBid_t e2 hL6 ⟨⟨i, hi, rfl⟩, ⟨j, hj, rfl⟩⟩, isBidder_t (show rg 8 (nI i) from ⟨i, hi, rfl⟩), isLot_t e2m hL1 hL6 (show rg L (nI j) from ⟨j, hj, rfl⟩), hlo, c4, mn4, mx4, wb hm, n1, n2, n3, x1, x2, ob_s, ov_s, lt_e, ↓reduceIte, eq_self, not_true_eq_false, not_false_eq_true, nz_1, nz_m1, nz_m2, nz_m3, nz_m4, nz_m5, nz_m6, nz_m7, nz_m8, nz_m9, nl_m1, nl_m2, nl_m3, nl_m4, nl_m5, nl_m6, nl_m7, nl_m8, nl_m9, ceB, rfB rwd6, rfM rwd6, rlB rwd6, rlM rwd6]
          exact qq_rf hA h _
        by_cases x3 : a9 ≤ (99999 : Int32)
        · rcases Opn_dec u with ho | ho
          · have hm3 : eN 3 m := by
              obtain ⟨q, hq, e⟩ := hm
              exact ⟨q, by omega, e⟩
            obtain ⟨r4, r5, r6⟩ := bid_R (u := u) (v := v) (m := m) (a := a4) (b := a5) (d := a6) (e := a7) (s := a8) (o := a9) hi hj6 h4 h5 h6 ho hm3 (eN_n (by decide) (by decide) (fun z => n1 (Or.inl (Or.inl z))) (fun z => x1 (Or.inl (Or.inl z)))) (eN_n (by decide) (by decide) (fun z => n1 (Or.inl (Or.inr z))) (fun z => x1 (Or.inl (Or.inr z)))) (eN_n (by decide) (by decide) (fun z => n1 (Or.inr (Or.inl z))) (fun z => x1 (Or.inr (Or.inl z)))) (eN_n (by decide) (by decide) (fun z => n1 (Or.inr (Or.inr z))) (fun z => x1 (Or.inr (Or.inr z)))) (eN_n (by decide) (by decide) n2 x2) (eN_mk (by decide) (by decide) n3 x3)
            have hR : RR FE AW FD (k + 1) (bidU u (i * 6 + j) m a4 a5 a6 a7 a8 a9) (bidV v (8 * j + i) m a4 a5 a6 a7 a8 a9) := RR_bd h (bidU_I u _ _ _ _ _ _ _ _) (bidV_I v _ _ _ _ _ _ _ _) (bidU_L u _ _ _ _ _ _ _ _ 8) (bidU_A u _ _ _ _ _ _ _ _) (bidV_A v _ _ _ _ _ _ _ _) r4 r5 r6 (h17 ho)
            have g := ((h4 i j hi hj6).1).1
            rcases ((h4 i j hi hj6).1).2 with hz | hz
            · simp only [f_X9_bid, f_X10_bid, f_X9_bid_L18, f_X9_bid_L58, f_X9_bid_L105, f_X10_bid_L15, f_X10_bid_L36, f_X1_drop, f_X1_putTerms, f_X1_putItems, noBid_t e2 hL6 ⟨⟨i, hi, rfl⟩, ⟨j, hj, rfl⟩⟩, isBidder_t (show rg 8 (nI i) from ⟨i, hi, rfl⟩), isLot_t e2m hL1 hL6 (show rg L (nI j) from ⟨j, hj, rfl⟩), hlo, c4, mn4, mx4, wb hm, n1, n2, n3, x1, x2, x3, le_00, opB_t ho, opM_t h.1 ho, oi_nI (show 48 < 2 ^ 31 by decide) (show i * 6 + j < 48 by omega), oi_nI (show 48 < 2 ^ 31 by decide) (show 8 * j + i < 48 by omega), nI_x4, nI_4x, nI_p1, nI_p2, nI_p3, nI_clamp (show i * 6 + j < 2 ^ 31 by omega), nI_clamp (show 8 * j + i < 2 ^ 31 by omega), cellB, cellM, oi_nI (show 192 < 2 ^ 31 by decide) (show (i * 6 + j) * 4 < 192 by omega), oi_nI (show 192 < 2 ^ 31 by decide) (show (i * 6 + j) * 4 + 1 < 192 by omega), oi_nI (show 192 < 2 ^ 31 by decide) (show (i * 6 + j) * 4 + 2 < 192 by omega), oi_nI (show 192 < 2 ^ 31 by decide) (show (i * 6 + j) * 4 + 3 < 192 by omega), oi_nI (show 192 < 2 ^ 31 by decide) (show 4 * (8 * j + i) < 192 by omega), oi_nI (show 192 < 2 ^ 31 by decide) (show 4 * (8 * j + i) + 1 < 192 by omega), oi_nI (show 192 < 2 ^ 31 by decide) (show 4 * (8 * j + i) + 2 < 192 by omega), oi_nI (show 192 < 2 ^ 31 by decide) (show 4 * (8 * j + i) + 3 < 192 by omega), g, hz, ob_s, ov_s, lt_e, ↓reduceIte, eq_self, not_true_eq_false, not_false_eq_true, nz_1, nz_m1, nz_m2, nz_m3, nz_m4, nz_m5, nz_m6, nz_m7, nz_m8, nz_m9, nl_m1, nl_m2, nl_m3, nl_m4, nl_m5, nl_m6, nl_m7, nl_m8, nl_m9, ceB]
              exact ⟨_, bidU u (i * 6 + j) m a4 a5 a6 a7 a8 a9, _, bidV v (8 * j + i) m a4 a5 a6 a7 a8 a9, rfl, rfl, hR, rfl⟩
            · simp only [f_X9_bid, f_X10_bid, f_X9_bid_L18, f_X9_bid_L58, f_X9_bid_L105, f_X10_bid_L15, f_X10_bid_L36, f_X1_drop, f_X1_putTerms, f_X1_putItems, noBid_t e2 hL6 ⟨⟨i, hi, rfl⟩, ⟨j, hj, rfl⟩⟩, isBidder_t (show rg 8 (nI i) from ⟨i, hi, rfl⟩), isLot_t e2m hL1 hL6 (show rg L (nI j) from ⟨j, hj, rfl⟩), hlo, c4, mn4, mx4, wb hm, n1, n2, n3, x1, x2, x3, le_00, opB_t ho, opM_t h.1 ho, oi_nI (show 48 < 2 ^ 31 by decide) (show i * 6 + j < 48 by omega), oi_nI (show 48 < 2 ^ 31 by decide) (show 8 * j + i < 48 by omega), nI_x4, nI_4x, nI_p1, nI_p2, nI_p3, nI_clamp (show i * 6 + j < 2 ^ 31 by omega), nI_clamp (show 8 * j + i < 2 ^ 31 by omega), cellB, cellM, oi_nI (show 192 < 2 ^ 31 by decide) (show (i * 6 + j) * 4 < 192 by omega), oi_nI (show 192 < 2 ^ 31 by decide) (show (i * 6 + j) * 4 + 1 < 192 by omega), oi_nI (show 192 < 2 ^ 31 by decide) (show (i * 6 + j) * 4 + 2 < 192 by omega), oi_nI (show 192 < 2 ^ 31 by decide) (show (i * 6 + j) * 4 + 3 < 192 by omega), oi_nI (show 192 < 2 ^ 31 by decide) (show 4 * (8 * j + i) < 192 by omega), oi_nI (show 192 < 2 ^ 31 by decide) (show 4 * (8 * j + i) + 1 < 192 by omega), oi_nI (show 192 < 2 ^ 31 by decide) (show 4 * (8 * j + i) + 2 < 192 by omega), oi_nI (show 192 < 2 ^ 31 by decide) (show 4 * (8 * j + i) + 3 < 192 by omega), g, hz, ob_s, ov_s, lt_e, ↓reduceIte, eq_self, not_true_eq_false, not_false_eq_true, nz_1, nz_m1, nz_m2, nz_m3, nz_m4, nz_m5, nz_m6, nz_m7, nz_m8, nz_m9, nl_m1, nl_m2, nl_m3, nl_m4, nl_m5, nl_m6, nl_m7, nl_m8, nl_m9, ceB]
              exact ⟨_, bidU u (i * 6 + j) m a4 a5 a6 a7 a8 a9, _, bidV v (8 * j + i) m a4 a5 a6 a7 a8 a9, rfl, rfl, hR, rfl⟩
          · simp only [f_X9_bid, f_X10_bid, f_X9_bid_L18, f_X9_bid_L58, f_X9_bid_L105, f_X10_bid_L15, f_X10_bid_L36, noBid_t e2 hL6 ⟨⟨i, hi, rfl⟩, ⟨j, hj, rfl⟩⟩, isBidder_t (show rg 8 (nI i) from ⟨i, hi, rfl⟩), isLot_t e2m hL1 hL6 (show rg L (nI j) from ⟨j, hj, rfl⟩), hlo, c4, mn4, mx4, wb hm, n1, n2, n3, x1, x2, x3, le_00, opB_f ho, opM_f h.1 ho, ob_s, ov_s, lt_e, ↓reduceIte, eq_self, not_true_eq_false, not_false_eq_true, nz_1, nz_m1, nz_m2, nz_m3, nz_m4, nz_m5, nz_m6, nz_m7, nz_m8, nz_m9, nl_m1, nl_m2, nl_m3, nl_m4, nl_m5, nl_m6, nl_m7, nl_m8, nl_m9, ceB]
            exact ⟨_, _, _, _, rfl, rfl, ⟨⟨t, L, ht, hL1, hL6, e0, e0m, e2, e2m, e1, e1c⟩, h2, h3, h4, h5, h6, h7, h8, h9, h10, h11, Raw_k h12, h13, h14, h15, h16, h17, h18, fun z => hA2 _ _ _ _ (h19 z)⟩, rfl⟩
        · simp only [f_X9_bid, f_X10_bid, f_X9_bid_L18, f_X9_bid_L58, f_X9_bid_L105, f_X10_bid_L15, f_X10_bid_L36, noBid_t e2 hL6 ⟨⟨i, hi, rfl⟩, ⟨j, hj, rfl⟩⟩, isBidder_t (show rg 8 (nI i) from ⟨i, hi, rfl⟩), isLot_t e2m hL1 hL6 (show rg L (nI j) from ⟨j, hj, rfl⟩), hlo, c4, mn4, mx4, wb hm, n1, n2, n3, x1, x2, x3, ob_s, ov_s, lt_e, ↓reduceIte, eq_self, not_true_eq_false, not_false_eq_true, nz_1, nz_m1, nz_m2, nz_m3, nz_m4, nz_m5, nz_m6, nz_m7, nz_m8, nz_m9, nl_m1, nl_m2, nl_m3, nl_m4, nl_m5, nl_m6, nl_m7, nl_m8, nl_m9, ceB, rfB rwd6, rfM rwd6, rlB rwd6, rlM rwd6]
          exact qq_rf hA h _
      · simp only [f_X9_bid, f_X10_bid, f_X9_bid_L18, f_X9_bid_L58, f_X9_bid_L105, f_X10_bid_L15, f_X10_bid_L36, noBid_t e2 hL6 ⟨⟨i, hi, rfl⟩, ⟨j, hj, rfl⟩⟩, isBidder_t (show rg 8 (nI i) from ⟨i, hi, rfl⟩), isLot_t e2m hL1 hL6 (show rg L (nI j) from ⟨j, hj, rfl⟩), hlo, c4, mn4, mx4, wb hm, n1, n2, n3, ob_s, ov_s, lt_e, ↓reduceIte, eq_self, not_true_eq_false, not_false_eq_true, nz_1, nz_m1, nz_m2, nz_m3, nz_m4, nz_m5, nz_m6, nz_m7, nz_m8, nz_m9, nl_m1, nl_m2, nl_m3, nl_m4, nl_m5, nl_m6, nl_m7, nl_m8, nl_m9, ceB, rfB rwd4, rfM rwd4, rlB rwd4, rlM rwd4]
        exact qq_rf hA h _
    · by_cases c1 : m < 0
      · simp only [f_X9_bid, f_X10_bid, f_X9_bid_L18, f_X9_bid_L58, f_X9_bid_L105, f_X10_bid_L15, f_X10_bid_L36, noBid_t e2 hL6 ⟨⟨i, hi, rfl⟩, ⟨j, hj, rfl⟩⟩, isBidder_t (show rg 8 (nI i) from ⟨i, hi, rfl⟩), isLot_t e2m hL1 hL6 (show rg L (nI j) from ⟨j, hj, rfl⟩), wb_f hm, c1, ob_s, ov_s, lt_e, ↓reduceIte, eq_self, not_true_eq_false, not_false_eq_true, nz_1, nz_m1, nz_m2, nz_m3, nz_m4, nz_m5, nz_m6, nz_m7, nz_m8, nz_m9, nl_m1, nl_m2, nl_m3, nl_m4, nl_m5, nl_m6, nl_m7, nl_m8, nl_m9, ceB, rfB rwd1, rfM rwd1, rlB rwd1, rlM rwd1]
        exact qq_rf hA h _
      · have c4 : ¬ m < (4 : Int32) := fun z => hm (rg_mk (n := 4) (by decide) c1 z)
        simp only [f_X9_bid, f_X10_bid, f_X9_bid_L18, f_X9_bid_L58, f_X9_bid_L105, f_X10_bid_L15, f_X10_bid_L36, noBid_t e2 hL6 ⟨⟨i, hi, rfl⟩, ⟨j, hj, rfl⟩⟩, isBidder_t (show rg 8 (nI i) from ⟨i, hi, rfl⟩), isLot_t e2m hL1 hL6 (show rg L (nI j) from ⟨j, hj, rfl⟩), wb_f hm, c1, c4, ob_s, ov_s, lt_e, ↓reduceIte, eq_self, not_true_eq_false, not_false_eq_true, nz_1, nz_m1, nz_m2, nz_m3, nz_m4, nz_m5, nz_m6, nz_m7, nz_m8, nz_m9, nl_m1, nl_m2, nl_m3, nl_m4, nl_m5, nl_m6, nl_m7, nl_m8, nl_m9, ceB, rfB rwd1, rfM rwd1, rlB rwd1, rlM rwd1]
        exact qq_rf hA h _
end ST3
