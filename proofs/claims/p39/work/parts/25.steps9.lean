section ST9
variable {FE : (Nat → Int32) → Nat → (Nat → Int32) → Nat → Prop} {AW : (Nat → Int32) → (Nat → Int32) → (Nat → Int64) → (Nat → Int32) → (Nat → Int32) → (Nat → Int32) → Prop} {FD : SS → SS → Prop} {k : Nat} {u v : SS}
def nn (x : Int32) : Nat := x.toNatClampNeg
theorem nn_nI {n : Nat} (h : n < 2 ^ 31) : nn (nI n) = n := nI_clamp h
theorem eN_nn {m : Nat} {x : Int32} (hm : m < 2 ^ 31) (h : eN m x) : x = nI (nn x) ∧ nn x ≤ m := by
  obtain ⟨n, hn, rfl⟩ := h
  rw [nn_nI (by omega)]
  exact ⟨rfl, hn⟩
/-- the sum of the items; the sum that counts; the price -/
def isN (u : SS) (c : Nat) : Nat := 0 + nn (gA u 6 (c * 4 + 0)) + nn (gA u 6 (c * 4 + 1)) + nn (gA u 6 (c * 4 + 2)) + nn (gA u 6 (c * 4 + 3))
def ctN (u : SS) (c : Nat) : Nat := if nn (gA u 1 0) = 1 then nn (gA u 8 c) else if nn (gA u 1 0) = 2 then (if isN u c < nn (gA u 8 c) then nn (gA u 8 c) else isN u c) else isN u c
def p0N (u : SS) (c : Nat) : Nat := (ctN u c + nn (gA u 9 c) * nn (gA u 1 1) / 100) * nn (gA u 2 (nn (gA u 7 c))) / 1000
def prN (u : SS) (c : Nat) : Nat := if p0N u c < 1 then 1 else p0N u c
/-- what the price looks at keeps to its bounds -/
def BD (u : SS) (c : Nat) : Prop := (∀ j, j < 4 → eN 99999 (gA u 6 (c * 4 + j))) ∧ eN 999999 (gA u 8 c) ∧ eN 99999 (gA u 9 c) ∧ eN 3 (gA u 7 c) ∧ eN 2 (gA u 1 0) ∧ eN 100 (gA u 1 1) ∧ ∀ i, i < 4 → eN 100000 (gA u 2 i)
theorem BD_of (h : RR FE AW FD k u v) {b l : Nat} (hb : b < 8) (hl : l < 6) : BD u (b * 6 + l) := by
  obtain ⟨h1, h2, h3, h4, -⟩ := h
  obtain ⟨a, b, c, d, e⟩ := h4 b l hb hl
  exact ⟨fun j hj => (e j hj).2, c.2, d.2, b.2, h2.2, (h2.1 1 (by omega)).2, fun i hi => (h3 i hi).2⟩
theorem isN_le {c : Nat} (h : BD u c) : isN u c ≤ 399996 := by
  have a0 := (eN_nn (by decide) (h.1 0 (by omega))).2
  have a1 := (eN_nn (by decide) (h.1 1 (by omega))).2
  have a2 := (eN_nn (by decide) (h.1 2 (by omega))).2
  have a3 := (eN_nn (by decide) (h.1 3 (by omega))).2
  unfold isN
  omega
theorem ctN_le {c : Nat} (h : BD u c) : ctN u c ≤ 999999 := by
  have a0 := isN_le h
  have a1 := (eN_nn (by decide) h.2.1).2
  unfold ctN
  split
  · exact a1
  · split
    · split
      · exact a1
      · omega
    · omega
theorem op_le {c : Nat} (h : BD u c) : nn (gA u 9 c) * nn (gA u 1 1) ≤ 99999 * 100 := Nat.mul_le_mul (eN_nn (by decide) h.2.2.1).2 (eN_nn (by decide) h.2.2.2.2.2.1).2
theorem rt_le {c : Nat} (h : BD u c) : nn (gA u 2 (nn (gA u 7 c))) ≤ 100000 := (eN_nn (by decide) (h.2.2.2.2.2.2 _ (by have := (eN_nn (m := 3) (by decide) h.2.2.2.1).2; omega))).2
theorem b0_le {c : Nat} (h : BD u c) : ctN u c + nn (gA u 9 c) * nn (gA u 1 1) / 100 ≤ 1099998 := by
  have a := ctN_le h
  have b := op_le h
  omega
theorem b1_le {c : Nat} (h : BD u c) : (ctN u c + nn (gA u 9 c) * nn (gA u 1 1) / 100) * nn (gA u 2 (nn (gA u 7 c))) ≤ 1099998 * 100000 := Nat.mul_le_mul (b0_le h) (rt_le h)
theorem p0_le {c : Nat} (h : BD u c) : p0N u c ≤ 109999800 := by
  have a := b1_le h
  unfold p0N
  omega
theorem pr_le {c : Nat} (h : BD u c) : prN u c ≤ 109999800 := by
  have a := p0_le h
  unfold prN
  split <;> omega
theorem pr_ge (c : Nat) : 1 ≤ prN u c := by
  unfold prN
  split <;> omega
theorem isB {c : Nat} (hc : c < 48) (h : BD u c) : f_X1_itemSum (nI c) u = some (nI (isN u c), u) := by
  have st : ∀ (F j s : Nat), j < 4 → f_X1_itemSum_L4 (F + 1) (nI c) (nI s) (nI j) u = f_X1_itemSum_L4 F (nI c) (nI (s + nn (gA u 6 (c * 4 + j)))) (nI (j + 1)) u := by
    intro F j s hj
    show b_X1_itemSum_L4 (f_X1_itemSum_L4 F) (nI c) (nI s) (nI j) u = _
    unfold b_X1_itemSum_L4
    rw [if_neg (show ¬ (4 : Int32) ≤ nI j from nI_ge (b := 4) hj (by decide)), nI_x4, nI_add, oi_nI (by decide) (by omega), nI_clamp (by omega), lt_e, lt_e, nI_1]
    have e := (eN_nn (by decide) (h.1 j hj)).1
    rw [← nI_add s (nn (gA u 6 (c * 4 + j))), ← e]
  have en : ∀ (F s : Nat), f_X1_itemSum_L4 (F + 1) (nI c) (nI s) (nI 4) u = some (nI s, u) := by
    intro F s
    show b_X1_itemSum_L4 (f_X1_itemSum_L4 F) (nI c) (nI s) (nI 4) u = _
    unfold b_X1_itemSum_L4
    rw [if_pos (show (4 : Int32) ≤ nI 4 by decide)]
  obtain ⟨n, hn⟩ : ∃ n, FU = n + 1 + 1 + 1 + 1 + 1 := ⟨FU - 5, by have := FU_ge; omega⟩
  show f_X1_itemSum_L4 FU (nI c) (nI 0) (nI 0) u = _
  rw [hn, st _ 0 0 (by omega), st _ 1 _ (by omega), st _ 2 _ (by omega), st _ 3 _ (by omega), en]
  rfl
theorem ctB {c : Nat} (hc : c < 48) (h : BD u c) : f_X1_countedSum (nI c) u = some (nI (ctN u c), u) := by
  have hi := isN_le h
  have hs := eN_nn (by decide) h.2.1
  unfold f_X1_countedSum
  rw [isB hc h, ob_s, oi4_0, clm0, oi4_0, oi_nI (by decide) hc, oi_nI (by decide) hc, nI_clamp (by omega)]
  unfold ctN
  obtain ⟨n, hn, e⟩ := h.2.2.2.2.1
  rw [e, nn_nI (by omega)]
  by_cases c1 : n = 1
  · subst c1
    rw [if_pos (show nI 1 = (1 : Int32) by decide), if_pos rfl, ← hs.1]
  · rw [if_neg (show ¬ nI n = (1 : Int32) from fun z => c1 ((nI_eq (by omega) (by decide)).mp (z.trans (by decide : (1 : Int32) = nI 1)))), if_neg c1]
    by_cases c2 : n = 2
    · subst c2
      rw [if_pos (show nI 2 = (2 : Int32) by decide), if_pos rfl]
      by_cases c3 : isN u c < nn (gA u 8 c)
      · rw [if_pos c3, if_pos (by rw [hs.1]; exact nI_lt c3 (by omega)), ← hs.1]
      · rw [if_neg c3, if_neg (by rw [hs.1]; exact nI_nlt (by omega) (by omega))]
    · rw [if_neg (show ¬ nI n = (2 : Int32) from fun z => c2 ((nI_eq (by omega) (by decide)).mp (z.trans (by decide : (2 : Int32) = nI 2)))), if_neg c2]
theorem prB {c : Nat} (hc : c < 48) (h : BD u c) : f_X1_priceAt (nI c) u = some (nI (prN u c), u) := by
  have h9 := eN_nn (by decide) h.2.2.1
  have h11 := eN_nn (by decide) h.2.2.2.2.2.1
  have h7 := eN_nn (by decide) h.2.2.2.1
  have h2 := eN_nn (by decide) (h.2.2.2.2.2.2 (nn (gA u 7 c)) (by omega))
  have b0 := b0_le h
  have b1 := b1_le h
  have bo := op_le h
  unfold f_X1_priceAt
  rw [ctB hc h, ob_s, oi_nI (by decide) hc, oi4_1, clm1, nI_clamp (by omega)]
  have e1 : gA u 9 c * gA u 1 1 / (100 : Int32) = nI (nn (gA u 9 c) * nn (gA u 1 1) / 100) := by
    rw [h9.1, h11.1, nn_nI (by omega), nn_nI (by omega), pk_mul]
    exact pk_div (d := 100) (by omega) (by decide) (by decide)
  have e2 : (gA u 7 c).toNatClampNeg = nn (gA u 7 c) := rfl
  rw [e1, nI_add, nI_l (by omega), lt_e, oi_nI (by decide) hc, e2, oi_in (by decide) ⟨nn (gA u 7 c), by omega, h7.1⟩, h2.1, nI_l (by omega), lN_mul, lt_e]
  have e3 : lN ((ctN u c + nn (gA u 9 c) * nn (gA u 1 1) / 100) * nn (gA u 2 (nn (gA u 7 c)))) / (1000 : Int64) = lN (p0N u c) := pk_lDiv (b := 1000) (by omega) (by decide) (by decide)
  have hp := p0_le h
  rw [e3]
  unfold prN
  by_cases c1 : p0N u c < 1
  · rw [if_pos c1, if_pos (show lN (p0N u c) < (1 : Int64) from (lN_lt (b := 1) (by omega) (by decide)).mpr c1)]; rfl
  · rw [if_neg c1, if_neg (show ¬ lN (p0N u c) < (1 : Int64) from fun z => c1 ((lN_lt (b := 1) (by omega) (by decide)).mp z)), lN_i]
theorem m4 (i j : Nat) : 4 * (8 * j + i) = 4 * (8 * j + i) + 0 := rfl
theorem isM (h : RR FE AW FD k u v) {b l : Nat} (hb : b < 8) (hl : l < 6) : f_X10_itemsOf (nI (8 * l + b)) v = some (nI (isN u (b * 6 + l)), v) := by
  obtain ⟨-, -, -, -, e⟩ := h.2.2.2.1 b l hb hl
  have q0 := e 0 (by omega)
  have q1 := e 1 (by omega)
  have q2 := e 2 (by omega)
  have q3 := e 3 (by omega)
  unfold f_X10_itemsOf
  rw [nI_4x, nI_p1, nI_p2, nI_p3, oi_nI (by decide) (by omega), oi_nI (by decide) (by omega), oi_nI (by decide) (by omega), oi_nI (by decide) (by omega), nI_clamp (by omega), nI_clamp (by omega), nI_clamp (by omega), nI_clamp (by omega)]
  rw [m4, q0.1, q1.1, q2.1, q3.1, (eN_nn (by decide) q0.2).1, (eN_nn (by decide) q1.2).1, (eN_nn (by decide) q2.2).1, (eN_nn (by decide) q3.2).1, nI_add, nI_add, nI_add]
  have w0 := (eN_nn (by decide) q0.2).2
  have w1 := (eN_nn (by decide) q1.2).2
  have w2 := (eN_nn (by decide) q2.2).2
  have w3 := (eN_nn (by decide) q3.2).2
  unfold isN
  rw [Nat.zero_add]
theorem prM (h : RR FE AW FD k u v) {b l : Nat} (hb : b < 8) (hl : l < 6) : f_X10_priceOf (nI (8 * l + b)) v = some (nI (prN u (b * 6 + l)), v) := by
  have hB := BD_of h hb hl
  obtain ⟨-, g2, g4, g5, -⟩ := h.2.2.2.1 b l hb hl
  have gs := h.2.1.1
  have gr := h.2.2.1
  have h9 := eN_nn (by decide) hB.2.2.1
  have h11 := eN_nn (by decide) hB.2.2.2.2.2.1
  have h7 := eN_nn (by decide) hB.2.2.2.1
  have h8 := eN_nn (by decide) hB.2.1
  have h2 := eN_nn (by decide) (hB.2.2.2.2.2.2 (nn (gA u 7 (b * 6 + l))) (by omega))
  have b0 := b0_le hB
  have b1 := b1_le hB
  have bo := op_le hB
  have hi := isN_le hB
  have ct := ctN_le hB
  have hp := p0_le hB
  have L58 : f_X10_priceOf_L58 (nI (8 * l + b)) (nI (ctN u (b * 6 + l))) v = some (nI (prN u (b * 6 + l)), v) := by
    unfold f_X10_priceOf_L58
    rw [oi_nI (by decide) (show 8 * l + b < 48 by omega), oi4_1, clm1, nI_clamp (by omega), g5.1, (gs 1 (by omega)).1, g2.1]
    have e1 : ((gA u 9 (b * 6 + l)).toInt64 * (gA u 1 1).toInt64 / (100 : Int64)).toInt32 = nI (nn (gA u 9 (b * 6 + l)) * nn (gA u 1 1) / 100) := by
      rw [h9.1, h11.1, nn_nI (by omega), nn_nI (by omega), nI_l (by omega), nI_l (by omega), lN_mul]
      have e : lN (nn (gA u 9 (b * 6 + l)) * nn (gA u 1 1)) / (100 : Int64) = lN (nn (gA u 9 (b * 6 + l)) * nn (gA u 1 1) / 100) := pk_lDiv (b := 100) (by omega) (by decide) (by decide)
      rw [e, lN_i]
    have e2 : (gA u 7 (b * 6 + l)).toNatClampNeg = nn (gA u 7 (b * 6 + l)) := rfl
    rw [e1, nI_add, nI_l (by omega), lt_e, oi_nI (by decide) (show 8 * l + b < 48 by omega), e2, oi_in (by decide) ⟨nn (gA u 7 (b * 6 + l)), by omega, h7.1⟩, (gr _ (by omega)).1, h2.1, nI_l (by omega), lN_mul]
    have e3 : lN ((ctN u (b * 6 + l) + nn (gA u 9 (b * 6 + l)) * nn (gA u 1 1) / 100) * nn (gA u 2 (nn (gA u 7 (b * 6 + l))))) / (1000 : Int64) = lN (p0N u (b * 6 + l)) := pk_lDiv (b := 1000) (by omega) (by decide) (by decide)
    rw [e3, lN_i, lt_e]
    unfold prN
    by_cases c1 : p0N u (b * 6 + l) < 1
    · rw [if_pos c1, if_neg (show ¬ (1 : Int32) ≤ nI (p0N u (b * 6 + l)) from nI_ge (b := 1) c1 (by decide))]; rfl
    · rw [if_neg c1, if_pos (show (1 : Int32) ≤ nI (p0N u (b * 6 + l)) from nI_le (a := 1) (by omega) (by omega))]
  unfold f_X10_priceOf
  rw [isM h hb hl, ob_s, oi4_0, clm0, oi4_0, oi_nI (by decide) (show 8 * l + b < 48 by omega), oi_nI (by decide) (show 8 * l + b < 48 by omega), nI_clamp (by omega), g4.1, (gs 0 (by omega)).1]
  obtain ⟨n, hn, e⟩ := hB.2.2.2.2.1
  have en : nn (gA u 1 0) = n := by rw [e, nn_nI (by omega)]
  rw [e]
  have hct : ctN u (b * 6 + l) = if n = 1 then nn (gA u 8 (b * 6 + l)) else if n = 2 then (if isN u (b * 6 + l) < nn (gA u 8 (b * 6 + l)) then nn (gA u 8 (b * 6 + l)) else isN u (b * 6 + l)) else isN u (b * 6 + l) := by
    unfold ctN
    rw [en]
  by_cases c0 : n = 0
  · subst c0
    rw [if_neg (by decide), if_neg (by decide)] at hct
    rw [if_pos (show nI 0 = (0 : Int32) by decide), ← hct, L58]
  · rw [if_neg (nI_ne0 (by omega) (by omega))]
    by_cases c1 : n = 1
    · subst c1
      rw [if_pos rfl] at hct
      rw [if_pos (show nI 1 = (1 : Int32) by decide), h8.1, ← hct, L58]
    · have c2 : n = 2 := by omega
      subst c2
      rw [if_neg (by decide), if_pos rfl] at hct
      rw [if_neg (show ¬ nI 2 = (1 : Int32) by decide)]
      by_cases c3 : isN u (b * 6 + l) < nn (gA u 8 (b * 6 + l))
      · rw [if_pos c3] at hct
        rw [h8.1, if_pos (nI_le (by omega) (by omega)), ← hct, L58]
      · rw [if_neg c3] at hct
        by_cases c4 : isN u (b * 6 + l) = nn (gA u 8 (b * 6 + l))
        · rw [h8.1, if_pos (nI_le (by omega) (by omega)), ← c4, ← hct, L58]
        · rw [h8.1, if_neg (nI_ge (by omega) (by omega)), ← hct, L58]
theorem lk_t {i j L : Nat} (h : RR FE AW FD k u v) (hL : gI v 2 = nI L) (h1 : 1 ≤ L) (h2 : L ≤ 6) (hi : i < 8) (hj : j < L) : f_X10_lacks (nI i) (nI j) v = some ((if gA u 3 (i * 6 + j) = 0 then -5 else 0), v) := by
  unfold f_X10_lacks
  rw [isBidder_t ⟨i, hi, rfl⟩, ob_s, if_neg nz_1, isLot_t hL h1 h2 ⟨j, hj, rfl⟩, ob_s, if_neg nz_1, cellM, oi_nI (by decide) (show 8 * j + i < 48 by omega), nI_clamp (by omega), ((h.2.2.2.1 i j hi (by omega)).1).1]
  by_cases c : gA u 3 (i * 6 + j) = 0
  · rw [if_pos c, if_pos c]
  · rw [if_neg c, if_neg c]
theorem st_price (hA : FDok FD) (h : RR FE AW FD k u v) (b : Int32) (l : Int32) : QQ (RR FE AW FD (k + 1)) (f_X9_price b l u) (f_X10_price b l v) := by
  obtain ⟨⟨t, L, ht, hL1, hL6, e0, e0m, e2, e2m, e1, e1c⟩, h2, h3, h4, h5, h6, h7⟩ := id h
  rcases bl_c b l L hL6 with ⟨i, j, hi, hj, hj6, rfl, rfl⟩ | hbl
  rotate_left
  · simp only [f_X9_price, f_X10_price, noBid_f e2 hL6 hbl, lk_f e2m hL1 hL6 hbl, ob_s, ov_s, lt_e, ↓reduceIte, eq_self, not_true_eq_false, not_false_eq_true, nz_1, nz_m1, nz_m2, nz_m3, nz_m4, nz_m5, nz_m6, nz_m7, nz_m8, nz_m9, nl_m1, nl_m2, nl_m3, nl_m4, nl_m5, nl_m6, nl_m7, nl_m8, nl_m9, ceB, rfB rwd1, rfM rwd1, rlB rwd1, rlM rwd1]
    exact qq_rf hA h _
  · have hB := BD_of h hi hj6
    rcases ((h4 i j hi hj6).1).2 with c | c
    · simp only [f_X9_price, f_X10_price, noBid_t e2 hL6 ⟨⟨i, hi, rfl⟩, ⟨j, hj, rfl⟩⟩, lk_t h e2m hL1 hL6 hi hj, cellB, oi_nI (show 48 < 2 ^ 31 by decide) (show i * 6 + j < 48 by omega), nI_clamp (show i * 6 + j < 2 ^ 31 by omega), c, ob_s, ov_s, lt_e, ↓reduceIte, eq_self, not_true_eq_false, not_false_eq_true, nz_1, nz_m1, nz_m2, nz_m3, nz_m4, nz_m5, nz_m6, nz_m7, nz_m8, nz_m9, nl_m1, nl_m2, nl_m3, nl_m4, nl_m5, nl_m6, nl_m7, nl_m8, nl_m9, ceB, rfB rwd5, rfM rwd5, rlB rwd5, rlM rwd5]
      exact qq_rf hA h _
    · simp only [f_X9_price, f_X10_price, noBid_t e2 hL6 ⟨⟨i, hi, rfl⟩, ⟨j, hj, rfl⟩⟩, lk_t h e2m hL1 hL6 hi hj, cellB, cellM, oi_nI (show 48 < 2 ^ 31 by decide) (show i * 6 + j < 48 by omega), nI_clamp (show i * 6 + j < 2 ^ 31 by omega), c, le_00, prB (show i * 6 + j < 48 by omega) hB, prM h hi hj6, ob_s, ov_s, lt_e, ↓reduceIte, eq_self, not_true_eq_false, not_false_eq_true, nz_1, nz_m1, nz_m2, nz_m3, nz_m4, nz_m5, nz_m6, nz_m7, nz_m8, nz_m9, nl_m1, nl_m2, nl_m3, nl_m4, nl_m5, nl_m6, nl_m7, nl_m8, nl_m9, ceB]
      exact ⟨_, _, _, _, rfl, rfl, RR_k h, rfl⟩
/-- who else stands in the lot: how many, and their prices together, up to bidder i -/
noncomputable def otN (u : SS) (b l : Nat) : Nat → Nat × Nat
  | 0 => (0, 0)
  | i + 1 => by
      classical
      exact if i ≠ b ∧ Std u (i * 6 + l) then ((otN u b l i).1 + 1, (otN u b l i).2 + prN u (i * 6 + l)) else otN u b l i
theorem otN_t {b l i : Nat} (h : i ≠ b ∧ Std u (i * 6 + l)) : otN u b l (i + 1) = ((otN u b l i).1 + 1, (otN u b l i).2 + prN u (i * 6 + l)) := if_pos h
theorem otN_f {b l i : Nat} (h : ¬ (i ≠ b ∧ Std u (i * 6 + l))) : otN u b l (i + 1) = otN u b l i := if_neg h
theorem otN_le (h : RR FE AW FD k u v) {b l : Nat} (hl : l < 6) : ∀ i, i ≤ 8 → (otN u b l i).1 ≤ i ∧ (otN u b l i).2 ≤ i * 109999800 := by
  intro i
  induction i with
  | zero => intro _; exact ⟨Nat.le_refl _, Nat.zero_le _⟩
  | succ i ih =>
    intro hi
    have a := ih (by omega)
    have p := pr_le (BD_of h (b := i) (l := l) (by omega) hl)
    by_cases c : i ≠ b ∧ Std u (i * 6 + l)
    · rw [otN_t c]
      show (otN u b l i).1 + 1 ≤ i + 1 ∧ (otN u b l i).2 + prN u (i * 6 + l) ≤ _
      omega
    · rw [otN_f c]; omega
def lowN (u : SS) (b l : Nat) : Prop := prN u (b * 6 + l) * 100 * (otN u b l 8).1 < nn (gA u 1 2) * (otN u b l 8).2
theorem low_b (h : RR FE AW FD k u v) {b l : Nat} (hb : b < 8) (hl : l < 6) : prN u (b * 6 + l) * 100 * (otN u b l 8).1 < 2 ^ 63 ∧ nn (gA u 1 2) * (otN u b l 8).2 < 2 ^ 63 := by
  have p := pr_le (BD_of h hb hl)
  have o := otN_le h (b := b) hl 8 (by omega)
  have s := (eN_nn (by decide) (h.2.1.1 2 (by omega)).2).2
  have a : prN u (b * 6 + l) * 100 * (otN u b l 8).1 ≤ 109999800 * 100 * 8 := Nat.mul_le_mul (Nat.mul_le_mul p (Nat.le_refl _)) o.1
  have c : nn (gA u 1 2) * (otN u b l 8).2 ≤ 100 * (8 * 109999800) := Nat.mul_le_mul s o.2
  omega
theorem tlB (h : RR FE AW FD k u v) {b l : Nat} (hb : b < 8) (hl : l < 6) : ∃ r, f_X1_isTooLow (nI b) (nI l) u = some (r, u) ∧ (r = 0 ∨ r = 1) ∧ (r = 1 ↔ lowN u b l) := by
  have Q : TO (fun p : Int32 × SS => p.2 = u ∧ (p.1 = 0 ∨ p.1 = 1) ∧ (p.1 = 1 ↔ lowN u b l)) (f_X1_isTooLow_L8 FU (nI b) (nI l) (0 : Int64) (0 : Int64) (0 : Int32) u) := by
    refine loopR (fun F (x : Int64 × Int64 × Int32 × SS) => f_X1_isTooLow_L8 F (nI b) (nI l) x.1 x.2.1 x.2.2.1 x.2.2.2) (fun i x => x = (lN (otN u b l i).1, lN (otN u b l i).2, nI i, u)) _ 8 ?_ (F := FU) (x := ((0 : Int64), (0 : Int64), (0 : Int32), u)) (Nat.lt_trans (by decide) FU_ge) rfl
    intro F x i hi hI hc
    subst hI
    show TO _ (b_X1_isTooLow_L8 (f_X1_isTooLow_L8 F) (nI b) (nI l) (lN (otN u b l i).1) (lN (otN u b l i).2) (nI i) u)
    unfold b_X1_isTooLow_L8
    by_cases c : i = 8
    · subst c
      have p := pr_le (BD_of h hb hl)
      have o := otN_le h (b := b) hl 8 (by omega)
      have s := eN_nn (by decide) (h.2.1.1 2 (by omega)).2
      have bb := low_b h hb hl
      rw [if_pos (show (8 : Int32) ≤ nI 8 by decide), ceB, ob_s, cellB, prB (by omega) (BD_of h hb hl), ob_s, oi4_2, clm2, nI_l (by omega), s.1, nI_l (by omega)]
      have e1 : lN (prN u (b * 6 + l)) * (100 : Int64) * lN (otN u b l 8).1 = lN (prN u (b * 6 + l) * 100 * (otN u b l 8).1) := by
        rw [show (100 : Int64) = lN 100 from rfl, lN_mul, lN_mul]
      rw [e1, lN_mul]
      by_cases d : lowN u b l
      · rw [if_neg (fun z => absurd ((pk_lLE (by omega) (by omega)).mp ((lg_cmp_ge _ _).mp z)) (Nat.not_le.mpr d))]
        exact to_s ⟨rfl, Or.inr rfl, fun _ => d, fun _ => rfl⟩
      · rw [if_pos ((lg_cmp_ge _ _).mpr ((pk_lLE (by omega) (by omega)).mpr (Nat.not_lt.mp d)))]
        exact to_s ⟨rfl, Or.inl rfl, fun z => (n01 z).elim, fun z => (d z).elim⟩
    · rw [if_neg (show ¬ (8 : Int32) ≤ nI i from nI_ge (b := 8) (by omega) (by decide)), ceB, ob_s, cellB]
      unfold f_X1_isTooLow_L54
      by_cases d : i = b
      · subst d
        rw [if_pos rfl, lt_e, nI_1]
        exact hc _ (by omega) (by rw [otN_f (fun z => z.1 rfl)])
      · rw [if_neg (fun z => d ((nI_eq (by omega) (by omega)).mp z))]
        rcases Std_c u (i * 6 + l) with hs | hs
        · rw [stdB_t (by omega) hs, ob_s, if_neg nz_1, lt_e, prB (by omega) (BD_of h (by omega) hl), ob_s, lt_e, lt_e, nI_1]
          have p := pr_le (BD_of h (b := i) (l := l) (by omega) hl)
          rw [lN_1, nI_l (by omega), lN_add]
          exact hc (lN ((otN u b l i).1 + 1), lN ((otN u b l i).2 + prN u (i * 6 + l)), nI (i + 1), u) (by omega) (by rw [otN_t ⟨d, hs⟩])
        · rw [stdB_f (by omega) ((h.2.2.2.1 i l (by omega) hl).1).2 (h.2.2.2.2.1 i l (by omega) hl).1 hs, ob_s, if_pos rfl, lt_e, nI_1]
          exact hc _ (by omega) (by rw [otN_f (fun z => hs z.2)])
  obtain ⟨⟨r, w⟩, e, e2, e3, e4⟩ := Q
  have e2 : w = u := e2
  subst e2
  exact ⟨r, e, e3, e4⟩
theorem ot0 {b l : Nat} : ∀ {i : Nat}, (otN u b l i).1 = 0 → (otN u b l i).2 = 0 := by
  intro i
  induction i with
  | zero => intro _; rfl
  | succ i ih =>
    by_cases c : i ≠ b ∧ Std u (i * 6 + l)
    · rw [otN_t c]; intro z; exact absurd z (Nat.succ_ne_zero _)
    · rw [otN_f c]; exact ih
theorem tlM (h : RR FE AW FD k u v) {b l : Nat} (hb : b < 8) (hl : l < 6) : ∃ r, f_X10_isLow (nI (8 * l + b)) v = some (r, v) ∧ (r = 0 ∨ r = 1) ∧ (r = 1 ↔ lowN u b l) := by
  have Q : TO (fun p : Int32 × SS => p.2 = v ∧ (p.1 = 0 ∨ p.1 = 1) ∧ (p.1 = 1 ↔ lowN u b l)) (f_X10_isLow_L8 FU (nI (8 * l + b)) (0 : Int64) (0 : Int32) (0 : Int32) v) := by
    refine loopR (fun F (x : Int64 × Int32 × Int32 × SS) => f_X10_isLow_L8 F (nI (8 * l + b)) x.1 x.2.1 x.2.2.1 x.2.2.2) (fun i x => x = (lN (otN u b l i).2, nI (otN u b l i).1, nI i, v)) _ 8 ?_ (F := FU) (x := ((0 : Int64), (0 : Int32), (0 : Int32), v)) (Nat.lt_trans (by decide) FU_ge) rfl
    intro F x i hi hI hc
    subst hI
    show TO _ (b_X10_isLow_L8 (f_X10_isLow_L8 F) (nI (8 * l + b)) (lN (otN u b l i).2) (nI (otN u b l i).1) (nI i) v)
    unfold b_X10_isLow_L8
    have o := otN_le h (b := b) hl i (by omega)
    by_cases c : i = 8
    · subst c
      have p := pr_le (BD_of h hb hl)
      have s := eN_nn (by decide) (h.2.1.1 2 (by omega)).2
      have bb := low_b h hb hl
      rw [if_pos (show (8 : Int32) ≤ nI 8 by decide)]
      by_cases z0 : (otN u b l 8).1 = 0
      · have hn : ¬ lowN u b l := by
          have z2 : (otN u b l 8).2 = 0 := ot0 z0
          intro z
          unfold lowN at z
          rw [z0, z2, Nat.mul_zero, Nat.mul_zero] at z
          exact absurd z (by omega)
        rw [z0, if_pos (show nI 0 ≤ 0 by decide)]
        exact to_s ⟨rfl, Or.inl rfl, fun z => (n01 z).elim, fun z => (hn z).elim⟩
      · rw [if_neg (nI_nle (by omega) (by omega)), prM h hb hl, ob_s, oi4_2, clm2, (h.2.1.1 2 (by omega)).1, nI_l (by omega), nI_l (by omega), s.1, nI_l (by omega)]
        have e1 : (100 : Int64) * lN (prN u (b * 6 + l)) * lN (otN u b l 8).1 = lN (prN u (b * 6 + l) * 100 * (otN u b l 8).1) := by
          rw [show (100 : Int64) = lN 100 from rfl, lN_mul, lN_mul, Nat.mul_comm 100]
        rw [e1, lN_mul]
        by_cases d : lowN u b l
        · rw [if_neg (fun z => absurd ((pk_lLE (by omega) (by omega)).mp ((lg_cmp_ge _ _).mp z)) (Nat.not_le.mpr d))]
          exact to_s ⟨rfl, Or.inr rfl, fun _ => d, fun _ => rfl⟩
        · rw [if_pos ((lg_cmp_ge _ _).mpr ((pk_lLE (by omega) (by omega)).mpr (Nat.not_lt.mp d)))]
          exact to_s ⟨rfl, Or.inl rfl, fun z => (n01 z).elim, fun z => (d z).elim⟩
    · have e8 : (8 : Int32) * (nI (8 * l + b) / (8 : Int32)) + nI i = nI (8 * l + i) := by
        rw [show nI (8 * l + b) / (8 : Int32) = nI ((8 * l + b) / 8) from pk_div (d := 8) (by omega) (by decide) (by decide), show (8 * l + b) / 8 = l by omega, cellM]
      rw [if_neg (show ¬ (8 : Int32) ≤ nI i from nI_ge (b := 8) (by omega) (by decide)), e8, lt_e]
      unfold f_X10_isLow_L55
      by_cases d : i = b
      · subst d
        rw [if_pos rfl, lt_e, nI_1]
        exact hc _ (by omega) (by rw [otN_f (fun z => z.1 rfl)])
      · rw [if_neg (fun z => d (by have := (nI_eq (by omega) (by omega)).mp z; omega))]
        rcases Std_c u (i * 6 + l) with hs | hs
        · rw [dsM_t h (by omega) hl hs, ob_s, if_neg nz_1, prM h (by omega) hl, ob_s, lt_e, lt_e, lt_e, nI_1, nI_1]
          have p := pr_le (BD_of h (b := i) (l := l) (by omega) hl)
          rw [nI_l (by omega), lN_add]
          exact hc (lN ((otN u b l i).2 + prN u (i * 6 + l)), nI ((otN u b l i).1 + 1), nI (i + 1), v) (by omega) (by rw [otN_t ⟨d, hs⟩])
        · rw [dsM_f h (by omega) hl hs, ob_s, if_pos rfl, lt_e, nI_1]
          exact hc _ (by omega) (by rw [otN_f (fun z => hs z.2)])
  obtain ⟨⟨r, w⟩, e, e2, e3, e4⟩ := Q
  have e2 : w = v := e2
  subst e2
  exact ⟨r, e, e3, e4⟩
theorem st_low (hA : FDok FD) (h : RR FE AW FD k u v) (b : Int32) (l : Int32) : QQ (RR FE AW FD (k + 1)) (f_X9_low b l u) (f_X10_low b l v) := by
  obtain ⟨⟨t, L, ht, hL1, hL6, e0, e0m, e2, e2m, e1, e1c⟩, h2, h3, h4, h5, h6, h7⟩ := id h
  rcases bl_c b l L hL6 with ⟨i, j, hi, hj, hj6, rfl, rfl⟩ | hbl
  rotate_left
  · simp only [f_X9_low, f_X10_low, f_X9_ask, f_X10_ask, f_X9_ask_L66, f_X10_ask_L47, f_X9_inRange, noBid_f e2 hL6 hbl, fl_f e2m hL1 hL6 hbl, ob_s, ov_s, lt_e, ↓reduceIte, eq_self, not_true_eq_false, not_false_eq_true, nz_1, nz_m1, nz_m2, nz_m3, nz_m4, nz_m5, nz_m6, nz_m7, nz_m8, nz_m9, nl_m1, nl_m2, nl_m3, nl_m4, nl_m5, nl_m6, nl_m7, nl_m8, nl_m9, ceB, rfB rwd1, rfM rwd1, rlB rwd1, rlM rwd1]
    exact qq_rf hA h _
  · rcases Std_c u (i * 6 + j) with hst | hst
    · obtain ⟨r, r1, r2, r3⟩ := tlB h hi hj6
      obtain ⟨s, s1, s2, s3⟩ := tlM h hi hj6
      have e : s = r := by
        rcases r2 with z | z <;> rcases s2 with y | y
        · rw [z, y]
        · exact absurd (r3.mpr (s3.mp y)) (by rw [z]; exact n01)
        · exact absurd (s3.mpr (r3.mp z)) (by rw [y]; exact n01)
        · rw [z, y]
      subst e
      simp only [f_X9_low, f_X10_low, f_X9_ask, f_X10_ask, f_X9_ask_L66, f_X10_ask_L47, f_X9_inRange, noBid_t e2 hL6 ⟨⟨i, hi, rfl⟩, ⟨j, hj, rfl⟩⟩, cellB, cellM, stdB_t (show i * 6 + j < 48 by omega) hst, fl_1 h e2m hL1 hL6 hi hj hst, le_00, r1, s1, ifs, ob_s, ov_s, lt_e, ↓reduceIte, eq_self, not_true_eq_false, not_false_eq_true, nz_1, nz_m1, nz_m2, nz_m3, nz_m4, nz_m5, nz_m6, nz_m7, nz_m8, nz_m9, nl_m1, nl_m2, nl_m3, nl_m4, nl_m5, nl_m6, nl_m7, nl_m8, nl_m9, ceB]
      exact ⟨_, _, _, _, rfl, rfl, RR_k h, rfl⟩
    · simp only [f_X9_low, f_X10_low, f_X9_ask, f_X10_ask, f_X9_ask_L66, f_X10_ask_L47, f_X9_inRange, noBid_t e2 hL6 ⟨⟨i, hi, rfl⟩, ⟨j, hj, rfl⟩⟩, cellB, cellM, stdB_f (show i * 6 + j < 48 by omega) ((h4 i j hi hj6).1).2 (h5 i j hi hj6).1 hst, fl_0 h e2m hL1 hL6 hi hj hst, ob_s, ov_s, lt_e, ↓reduceIte, eq_self, not_true_eq_false, not_false_eq_true, nz_1, nz_m1, nz_m2, nz_m3, nz_m4, nz_m5, nz_m6, nz_m7, nz_m8, nz_m9, nl_m1, nl_m2, nl_m3, nl_m4, nl_m5, nl_m6, nl_m7, nl_m8, nl_m9, ceB, rfB rwd5, rfM rwd5, rlB rwd5, rlM rwd5]
      exact qq_rf hA h _
theorem RR_ask {u2 v2 : SS} (h : RR FE AW FD k u v) (hI : ∀ i : Nat, gI u2 i = gI u i) (hu : ∀ a : Nat, a ≠ 5 → gA u2 a = gA u a) (hL : gL u2 8 = gL u 8) (hV : ∀ i : Nat, i ≠ 16 → gI v2 i = gI v i) (hv : ∀ a : Nat, a ≠ 7 → gA v2 a = gA v a) (r6 : Ras u2 v2) (r16 : bo (gI v2 16)) (r17 : (Opn u2 → gI v2 16 = 0)) (r19 : gI v2 16 = 1 → FD u2 v2) : RR FE AW FD (k + 1) u2 v2 := by
  obtain ⟨h1, h2, h3, h4, h5, h6, h7, h8, h9, h10, h11, h12, h13, h14, h15, h16, h17, h18, h19⟩ := h
  refine ⟨?_, ?_, ?_, ?_, ?_, r6, ?_, ?_, ?_, ?_, ?_, ?_, ?_, ?_, ?_, r16, r17, ?_, r19⟩
  · unfold Rtm; rw [hI 0 , hI 1 , hI 2 , hV 0 (by decide), hV 1 (by decide), hV 2 (by decide)]; exact h1
  · unfold Rst; rw [hu 1 (by decide), hv 8 (by decide)]; exact h2
  · unfold Rrt; rw [hu 2 (by decide), hv 0 (by decide)]; exact h3
  · unfold Rbd; rw [hu 3 (by decide), hu 6 (by decide), hu 7 (by decide), hu 8 (by decide), hu 9 (by decide), hv 1 (by decide), hv 2 (by decide), hv 3 (by decide), hv 4 (by decide), hv 5 (by decide)]; exact h4
  · have hop : Opn u2 ↔ Opn u := by unfold Opn; rw [hI 0 , hI 1 ]
    unfold Rou; rw [hu 3 (by decide), hu 4 (by decide), hv 6 (by decide)]; exact fun b l hb hl => ⟨(h5 b l hb hl).1, (h5 b l hb hl).2.1, fun z => (h5 b l hb hl).2.2 (z.elim (fun z => Or.inl (hop.mp z)) Or.inr)⟩
  · unfold Rno; rw [hu 10 (by decide), hv 9 (by decide)]; exact h7
  · unfold Rba; rw [hu 11 (by decide), hv 10 (by decide)]; exact h8
  · unfold Rtp; rw [hI 5 , hV 6 (by decide)]; exact h9
  · unfold Rfo; rw [hI 4 , hu 13 (by decide), hV 7 (by decide), hv 13 (by decide)]; exact h10
  · unfold Rmo; rw [hu 20 (by decide), hu 22 (by decide), hv 16 (by decide), hv 17 (by decide)]; exact h11
  · unfold Raw; rw [hI 0 , hI 1 , hI 15 , hI 16 , hI 17 , hI 18 , hI 19 , hu 26 (by decide), hu 27 (by decide), hu 28 (by decide), hu 29 (by decide), hV 22 (by decide), hV 23 (by decide), hV 24 (by decide), hV 25 (by decide), hv 27 (by decide), hv 28 (by decide), hv 29 (by decide)]; exact Raw_k h12
  · unfold Rfw; rw [hI 20 , hI 21 , hI 22 , hI 23 , hI 24 , hu 31 (by decide), hu 32 (by decide), hV 26 (by decide), hV 27 (by decide), hV 28 (by decide), hV 29 (by decide), hV 30 (by decide), hv 32 (by decide), hv 33 (by decide)]; exact h13
  · rw [hv 18 (by decide)]; exact h14
  · rw [hv 24 (by decide)]; exact h15
  · rw [hu 25 (by decide), hu 30 (by decide), hv 24 (by decide), hv 25 (by decide), hv 26 (by decide), hL]; exact h18
theorem st_ask (hA : FDok FD) (h : RR FE AW FD k u v) (b : Int32) (l : Int32) (w : Int32) : QQ (RR FE AW FD (k + 1)) (f_X9_ask b l w u) (f_X10_ask b l w v) := by
  obtain ⟨⟨t, L, ht, hL1, hL6, e0, e0m, e2, e2m, e1, e1c⟩, h2, h3, h4, h5, h6, h7⟩ := id h
  rcases bl_c b l L hL6 with ⟨i, j, hi, hj, hj6, rfl, rfl⟩ | hbl
  rotate_left
  · simp only [f_X9_low, f_X10_low, f_X9_ask, f_X10_ask, f_X9_ask_L66, f_X10_ask_L47, f_X9_inRange, noBid_f e2 hL6 hbl, fl_f e2m hL1 hL6 hbl, ob_s, ov_s, lt_e, ↓reduceIte, eq_self, not_true_eq_false, not_false_eq_true, nz_1, nz_m1, nz_m2, nz_m3, nz_m4, nz_m5, nz_m6, nz_m7, nz_m8, nz_m9, nl_m1, nl_m2, nl_m3, nl_m4, nl_m5, nl_m6, nl_m7, nl_m8, nl_m9, ceB, rfB rwd1, rfM rwd1, rlB rwd1, rlM rwd1]
    exact qq_rf hA h _
  · rcases Std_c u (i * 6 + j) with hst | hst
    · obtain ⟨r, r1, r2, r3⟩ := tlB h hi hj6
      obtain ⟨s, s1, s2, s3⟩ := tlM h hi hj6
      have e : s = r := by
        rcases r2 with z | z <;> rcases s2 with y | y
        · rw [z, y]
        · exact absurd (r3.mpr (s3.mp y)) (by rw [z]; exact n01)
        · exact absurd (s3.mpr (r3.mp z)) (by rw [y]; exact n01)
        · rw [z, y]
      subst e
      have c0 : gI u 0 + (1 : Int32) = nI (t + 1) := by rw [e0, nI_1]
      rcases h6 i j hi hj6 with ⟨d1, d2⟩ | ⟨n, n1, n2, d1, d2, d3⟩
      · rcases r2 with rfl | rfl
        · simp only [f_X9_low, f_X10_low, f_X9_ask, f_X10_ask, f_X9_ask_L66, f_X10_ask_L47, f_X9_inRange, noBid_t e2 hL6 ⟨⟨i, hi, rfl⟩, ⟨j, hj, rfl⟩⟩, cellB, cellM, oi_nI (show 48 < 2 ^ 31 by decide) (show i * 6 + j < 48 by omega), oi_nI (show 48 < 2 ^ 31 by decide) (show 8 * j + i < 48 by omega), nI_clamp (show i * 6 + j < 2 ^ 31 by omega), nI_clamp (show 8 * j + i < 2 ^ 31 by omega), stdB_t (show i * 6 + j < 48 by omega) hst, fl_1 h e2m hL1 hL6 hi hj hst, le_00, r1, s1, d1, d2, lt_m1, ob_s, ov_s, lt_e, ↓reduceIte, eq_self, not_true_eq_false, not_false_eq_true, nz_1, nz_m1, nz_m2, nz_m3, nz_m4, nz_m5, nz_m6, nz_m7, nz_m8, nz_m9, nl_m1, nl_m2, nl_m3, nl_m4, nl_m5, nl_m6, nl_m7, nl_m8, nl_m9, ceB, rfB rwd3, rfM rwd3, rlB rwd3, rlM rwd3]
          exact qq_rf hA h _
        · by_cases c1 : nI (t + 1) ≤ w
          · have c1m : nI t < w := by
              have a := Int32.le_iff_toInt_le.mp c1
              rw [nI_toInt (by omega)] at a
              refine Int32.lt_iff_toInt_lt.mpr ?_
              rw [nI_toInt (by omega)]
              omega
            by_cases c2 : w ≤ (999999 : Int32)
            · obtain ⟨n, hn, rfl⟩ := nI_of2 (M := (999999 : Int32)) (n := 999999) (by decide) (fun z => absurd (Int32.lt_trans c1m z) (nI_pos (by omega))) c2
              have tn : t + 1 ≤ n := (nI_leI (by omega) (by omega)).mp c1
              simp only [f_X9_low, f_X10_low, f_X9_ask, f_X10_ask, f_X9_ask_L66, f_X10_ask_L47, f_X9_inRange, noBid_t e2 hL6 ⟨⟨i, hi, rfl⟩, ⟨j, hj, rfl⟩⟩, cellB, cellM, oi_nI (show 48 < 2 ^ 31 by decide) (show i * 6 + j < 48 by omega), oi_nI (show 48 < 2 ^ 31 by decide) (show 8 * j + i < 48 by omega), nI_clamp (show i * 6 + j < 2 ^ 31 by omega), nI_clamp (show 8 * j + i < 2 ^ 31 by omega), stdB_t (show i * 6 + j < 48 by omega) hst, fl_1 h e2m hL1 hL6 hi hj hst, le_00, r1, s1, d1, d2, lt_m1, c0, e0m, c1, c1m, c2, ob_s, ov_s, lt_e, ↓reduceIte, eq_self, not_true_eq_false, not_false_eq_true, nz_1, nz_m1, nz_m2, nz_m3, nz_m4, nz_m5, nz_m6, nz_m7, nz_m8, nz_m9, nl_m1, nl_m2, nl_m3, nl_m4, nl_m5, nl_m6, nl_m7, nl_m8, nl_m9, ceB]
              refine ⟨_, _, _, _, rfl, rfl, RR_ask h (fun i => rfl) (fun a a1 => by rw [tAn a1]) rfl (fun i q => by rw [sIn q]; rfl) (fun a a1 => by rw [gA_sI, tAn a1]) ?_ (Or.inl rfl) (fun _ => rfl) (fun q => (n01 q).elim), rfl⟩
              intro b2 l2 hb2 hl2
              show (upd (gA u 5) (nI (i * 6 + j)).toNatClampNeg (nI n) (b2 * 6 + l2) = 0 ∧ upd (gA v 7) (nI (8 * j + i)).toNatClampNeg (nI n) (8 * l2 + b2) = -1) ∨ ∃ m : Nat, 1 ≤ m ∧ m ≤ 999999 ∧ upd (gA u 5) (nI (i * 6 + j)).toNatClampNeg (nI n) (b2 * 6 + l2) = nI m ∧ upd (gA v 7) (nI (8 * j + i)).toNatClampNeg (nI n) (8 * l2 + b2) = nI m ∧ gA u 3 (b2 * 6 + l2) = 1
              rw [nI_clamp (by omega), nI_clamp (by omega)]
              by_cases c : b2 = i ∧ l2 = j
              · obtain ⟨rfl, rfl⟩ := c
                rw [upd_s, upd_s]; exact Or.inr ⟨n, by omega, hn, rfl, rfl, hst.1⟩
              · rw [upd_n _ _ (by omega), upd_n _ _ (by omega)]; exact h6 b2 l2 hb2 hl2
            · simp only [f_X9_low, f_X10_low, f_X9_ask, f_X10_ask, f_X9_ask_L66, f_X10_ask_L47, f_X9_inRange, noBid_t e2 hL6 ⟨⟨i, hi, rfl⟩, ⟨j, hj, rfl⟩⟩, cellB, cellM, oi_nI (show 48 < 2 ^ 31 by decide) (show i * 6 + j < 48 by omega), oi_nI (show 48 < 2 ^ 31 by decide) (show 8 * j + i < 48 by omega), nI_clamp (show i * 6 + j < 2 ^ 31 by omega), nI_clamp (show 8 * j + i < 2 ^ 31 by omega), stdB_t (show i * 6 + j < 48 by omega) hst, fl_1 h e2m hL1 hL6 hi hj hst, le_00, r1, s1, d1, d2, lt_m1, c0, e0m, c1, c1m, c2, ob_s, ov_s, lt_e, ↓reduceIte, eq_self, not_true_eq_false, not_false_eq_true, nz_1, nz_m1, nz_m2, nz_m3, nz_m4, nz_m5, nz_m6, nz_m7, nz_m8, nz_m9, nl_m1, nl_m2, nl_m3, nl_m4, nl_m5, nl_m6, nl_m7, nl_m8, nl_m9, ceB, rfB rwd6, rfM rwd6, rlB rwd6, rlM rwd6]
              exact qq_rf hA h _
          · have c1m : ¬ nI t < w := fun z => c1 (by
              have a := Int32.lt_iff_toInt_lt.mp z
              rw [nI_toInt (by omega)] at a
              refine Int32.le_iff_toInt_le.mpr ?_
              rw [nI_toInt (by omega)]
              omega)
            simp only [f_X9_low, f_X10_low, f_X9_ask, f_X10_ask, f_X9_ask_L66, f_X10_ask_L47, f_X9_inRange, noBid_t e2 hL6 ⟨⟨i, hi, rfl⟩, ⟨j, hj, rfl⟩⟩, cellB, cellM, oi_nI (show 48 < 2 ^ 31 by decide) (show i * 6 + j < 48 by omega), oi_nI (show 48 < 2 ^ 31 by decide) (show 8 * j + i < 48 by omega), nI_clamp (show i * 6 + j < 2 ^ 31 by omega), nI_clamp (show 8 * j + i < 2 ^ 31 by omega), stdB_t (show i * 6 + j < 48 by omega) hst, fl_1 h e2m hL1 hL6 hi hj hst, le_00, r1, s1, d1, d2, lt_m1, c0, e0m, c1, c1m, ob_s, ov_s, lt_e, ↓reduceIte, eq_self, not_true_eq_false, not_false_eq_true, nz_1, nz_m1, nz_m2, nz_m3, nz_m4, nz_m5, nz_m6, nz_m7, nz_m8, nz_m9, nl_m1, nl_m2, nl_m3, nl_m4, nl_m5, nl_m6, nl_m7, nl_m8, nl_m9, ceB, rfB rwd4, rfM rwd4, rlB rwd4, rlM rwd4]
            exact qq_rf hA h _
      · have n0 : ¬ nI n = (0 : Int32) := nI_ne0 (by omega) (by omega)
        have n3 : ¬ nI n < (0 : Int32) := nI_pos (by omega)
        rcases r2 with rfl | rfl
        · simp only [f_X9_low, f_X10_low, f_X9_ask, f_X10_ask, f_X9_ask_L66, f_X10_ask_L47, f_X9_inRange, noBid_t e2 hL6 ⟨⟨i, hi, rfl⟩, ⟨j, hj, rfl⟩⟩, cellB, cellM, oi_nI (show 48 < 2 ^ 31 by decide) (show i * 6 + j < 48 by omega), oi_nI (show 48 < 2 ^ 31 by decide) (show 8 * j + i < 48 by omega), nI_clamp (show i * 6 + j < 2 ^ 31 by omega), nI_clamp (show 8 * j + i < 2 ^ 31 by omega), stdB_t (show i * 6 + j < 48 by omega) hst, fl_1 h e2m hL1 hL6 hi hj hst, le_00, r1, s1, d1, d2, n0, n3, ob_s, ov_s, lt_e, ↓reduceIte, eq_self, not_true_eq_false, not_false_eq_true, nz_1, nz_m1, nz_m2, nz_m3, nz_m4, nz_m5, nz_m6, nz_m7, nz_m8, nz_m9, nl_m1, nl_m2, nl_m3, nl_m4, nl_m5, nl_m6, nl_m7, nl_m8, nl_m9, ceB, rfB rwd3, rfM rwd3, rlB rwd3, rlM rwd3]
          exact qq_rf hA h _
        · simp only [f_X9_low, f_X10_low, f_X9_ask, f_X10_ask, f_X9_ask_L66, f_X10_ask_L47, f_X9_inRange, noBid_t e2 hL6 ⟨⟨i, hi, rfl⟩, ⟨j, hj, rfl⟩⟩, cellB, cellM, oi_nI (show 48 < 2 ^ 31 by decide) (show i * 6 + j < 48 by omega), oi_nI (show 48 < 2 ^ 31 by decide) (show 8 * j + i < 48 by omega), nI_clamp (show i * 6 + j < 2 ^ 31 by omega), nI_clamp (show 8 * j + i < 2 ^ 31 by omega), stdB_t (show i * 6 + j < 48 by omega) hst, fl_1 h e2m hL1 hL6 hi hj hst, le_00, r1, s1, d1, d2, n0, n3, ob_s, ov_s, lt_e, ↓reduceIte, eq_self, not_true_eq_false, not_false_eq_true, nz_1, nz_m1, nz_m2, nz_m3, nz_m4, nz_m5, nz_m6, nz_m7, nz_m8, nz_m9, nl_m1, nl_m2, nl_m3, nl_m4, nl_m5, nl_m6, nl_m7, nl_m8, nl_m9, ceB, rfB rwd3, rfM rwd3, rlB rwd3, rlM rwd3]
          exact qq_rf hA h _
    · simp only [f_X9_low, f_X10_low, f_X9_ask, f_X10_ask, f_X9_ask_L66, f_X10_ask_L47, f_X9_inRange, noBid_t e2 hL6 ⟨⟨i, hi, rfl⟩, ⟨j, hj, rfl⟩⟩, cellB, cellM, oi_nI (show 48 < 2 ^ 31 by decide) (show i * 6 + j < 48 by omega), oi_nI (show 48 < 2 ^ 31 by decide) (show 8 * j + i < 48 by omega), nI_clamp (show i * 6 + j < 2 ^ 31 by omega), nI_clamp (show 8 * j + i < 2 ^ 31 by omega), stdB_f (show i * 6 + j < 48 by omega) ((h4 i j hi hj6).1).2 (h5 i j hi hj6).1 hst, fl_0 h e2m hL1 hL6 hi hj hst, ob_s, ov_s, lt_e, ↓reduceIte, eq_self, not_true_eq_false, not_false_eq_true, nz_1, nz_m1, nz_m2, nz_m3, nz_m4, nz_m5, nz_m6, nz_m7, nz_m8, nz_m9, nl_m1, nl_m2, nl_m3, nl_m4, nl_m5, nl_m6, nl_m7, nl_m8, nl_m9, ceB, rfB rwd5, rfM rwd5, rlB rwd5, rlM rwd5]
      exact qq_rf hA h _
end ST9
