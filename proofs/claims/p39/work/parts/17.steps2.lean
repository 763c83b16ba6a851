section ST2
variable {FE : (Nat → Int32) → Nat → (Nat → Int32) → Nat → Prop} {AW : (Nat → Int32) → (Nat → Int32) → (Nat → Int64) → (Nat → Int32) → (Nat → Int32) → (Nat → Int32) → Prop} {FD : SS → SS → Prop} {k : Nat} {u v : SS}
/-- a request has lapsed; a BID stands (class's side) -/
def Lps (u : SS) (c : Nat) : Prop := ¬ gA u 5 c = 0 ∧ ¬ gI u 0 ≤ gA u 5 c
def Std (u : SS) (c : Nat) : Prop := gA u 3 c = 1 ∧ gA u 4 c = 0 ∧ ¬ Lps u c
theorem oi_nI {β : Type} {n c : Nat} {x : Option β} (hn : n < 2 ^ 31) (h : c < n) : oi (nI c) n x = x := oi_in hn ⟨c, h, rfl⟩
theorem lapB_t {c : Nat} (hc : c < 48) (h : Lps u c) : f_X1_isLapsed (nI c) u = some (1, u) := by
  unfold f_X1_isLapsed
  rw [oi_nI (by decide) hc, nI_clamp (by omega), if_neg h.1, oi_nI (by decide) hc, if_neg h.2]
theorem lapB_f {c : Nat} (hc : c < 48) (h : ¬ Lps u c) : f_X1_isLapsed (nI c) u = some (0, u) := by
  unfold f_X1_isLapsed
  rw [oi_nI (by decide) hc, nI_clamp (by omega)]
  by_cases h1 : gA u 5 c = 0
  · rw [if_pos h1]
  · rw [if_neg h1, oi_nI (by decide) hc, if_pos (Classical.byContradiction (fun z => h ⟨h1, z⟩))]
theorem outB_f {c : Nat} (hc : c < 48) (h : gA u 4 c = 0) (h2 : ¬ Lps u c) : f_X1_isOutAt (nI c) u = some (0, u) := by
  unfold f_X1_isOutAt
  rw [oi_nI (by decide) hc, nI_clamp (by omega), if_pos h, lapB_f hc h2, ob_s, if_pos rfl]
theorem outB_l {c : Nat} (hc : c < 48) (h : gA u 4 c = 0) (h2 : Lps u c) : f_X1_isOutAt (nI c) u = some (1, u) := by
  unfold f_X1_isOutAt
  rw [oi_nI (by decide) hc, nI_clamp (by omega), if_pos h, lapB_t hc h2, ob_s, if_neg nz_1]
theorem outB_o {c : Nat} (hc : c < 48) (h : gA u 4 c = 1) : f_X1_isOutAt (nI c) u = some (1, u) := by
  unfold f_X1_isOutAt
  rw [oi_nI (by decide) hc, nI_clamp (by omega), if_neg (by rw [h]; exact nz_1)]
theorem stdB_t {c : Nat} (hc : c < 48) (h : Std u c) : f_X1_standsAt (nI c) u = some (1, u) := by
  unfold f_X1_standsAt
  rw [oi_nI (by decide) hc, nI_clamp (by omega), if_neg (by rw [h.1]; exact nz_1), outB_f hc h.2.1 h.2.2, ob_s, if_pos rfl]
theorem stdB_f {c : Nat} (hc : c < 48) (h3 : bo (gA u 3 c)) (h4 : bo (gA u 4 c)) (h : ¬ Std u c) : f_X1_standsAt (nI c) u = some (0, u) := by
  unfold f_X1_standsAt
  rw [oi_nI (by decide) hc, nI_clamp (by omega)]
  rcases h3 with h3 | h3
  · rw [if_pos h3]
  · rw [if_neg (by rw [h3]; exact nz_1)]
    rcases h4 with h4 | h4
    · have hl : Lps u c := Classical.byContradiction (fun z => h ⟨h3, h4, z⟩)
      rw [outB_l hc h4 hl, ob_s, if_neg nz_1]
    · rw [outB_o hc h4, ob_s, if_neg nz_1]
/-- the reference's side, at the same cell -/
theorem silM_t {b l : Nat} (h : RR FE AW FD k u v) (hb : b < 8) (hl : l < 6) (h2 : Lps u (b * 6 + l)) : f_X10_isSilent (nI (8 * l + b)) v = some (1, v) := by
  obtain ⟨⟨t, L, ht, hL1, hL6, e0, e0m, -⟩, -, -, -, -, ha, -⟩ := h
  unfold f_X10_isSilent
  rw [oi_nI (by decide) (by omega), nI_clamp (by omega)]
  rcases ha b l hb hl with ⟨a1, a2⟩ | ⟨n, n1, n2, a1, a2, a3⟩
  · exact absurd a1 h2.1
  · have h3 := h2.2
    rw [a1, e0] at h3
    rw [a2, if_neg (nI_pos (by omega)), oi_nI (by decide) (by omega), e0m, if_neg h3]
theorem silM_f {b l : Nat} (h : RR FE AW FD k u v) (hb : b < 8) (hl : l < 6) (h2 : ¬ Lps u (b * 6 + l)) : f_X10_isSilent (nI (8 * l + b)) v = some (0, v) := by
  obtain ⟨⟨t, L, ht, hL1, hL6, e0, e0m, -⟩, -, -, -, -, ha, -⟩ := h
  unfold f_X10_isSilent
  rw [oi_nI (by decide) (by omega), nI_clamp (by omega)]
  rcases ha b l hb hl with ⟨a1, a2⟩ | ⟨n, n1, n2, a1, a2, a3⟩
  · rw [a2, if_pos lt_m1]
  · have h3 : nI t ≤ nI n := Classical.byContradiction (fun z => h2 ⟨by rw [a1]; exact nI_ne0 (by omega) (by omega), by rw [a1, e0]; exact z⟩)
    rw [a2, if_neg (nI_pos (by omega)), oi_nI (by decide) (by omega), e0m, if_pos h3]
theorem dsM_t {b l : Nat} (h : RR FE AW FD k u v) (hb : b < 8) (hl : l < 6) (h2 : Std u (b * 6 + l)) : f_X10_doesStand (nI (8 * l + b)) v = some (1, v) := by
  have hs := silM_f h hb hl h2.2.2
  obtain ⟨-, -, -, hd, ho, -⟩ := h
  unfold f_X10_doesStand
  rw [oi_nI (by decide) (by omega), nI_clamp (by omega), ((hd b l hb hl).1).1, if_neg (by rw [h2.1]; exact nz_1), oi_nI (by decide) (by omega), (ho b l hb hl).2.2 (Or.inr h2.1), if_pos h2.2.1, hs, ob_s, if_pos rfl]
theorem dsM_f {b l : Nat} (h : RR FE AW FD k u v) (hb : b < 8) (hl : l < 6) (h2 : ¬ Std u (b * 6 + l)) : f_X10_doesStand (nI (8 * l + b)) v = some (0, v) := by
  have hh := h
  obtain ⟨-, -, -, hd, ho, -⟩ := h
  unfold f_X10_doesStand
  rw [oi_nI (by decide) (by omega), nI_clamp (by omega), ((hd b l hb hl).1).1]
  rcases ((hd b l hb hl).1).2 with h3 | h3
  · rw [if_pos h3]
  · rw [if_neg (by rw [h3]; exact nz_1), oi_nI (by decide) (by omega), (ho b l hb hl).2.2 (Or.inr h3)]
    rcases (ho b l hb hl).1 with h4 | h4
    · have hlp : Lps u (b * 6 + l) := Classical.byContradiction (fun z => h2 ⟨h3, h4, z⟩)
      rw [if_pos h4, silM_t hh hb hl hlp, ob_s, if_neg nz_1]
    · rw [if_neg (by rw [h4]; exact nz_1)]
/-- a BIDDER and a LOT that are there, as numbers; or not -/
theorem bl_c (b l : Int32) (L : Nat) (hL6 : L ≤ 6) : (∃ i j : Nat, i < 8 ∧ j < L ∧ j < 6 ∧ b = nI i ∧ l = nI j) ∨ ¬ (rg 8 b ∧ rg L l) := by
  by_cases h : rg 8 b ∧ rg L l
  · obtain ⟨⟨i, hi, e1⟩, ⟨j, hj, e2⟩⟩ := h
    exact Or.inl ⟨i, j, hi, hj, by omega, e1, e2⟩
  · exact Or.inr h
theorem lk_f {b l : Int32} {L : Nat} (hL : gI v 2 = nI L) (h1 : 1 ≤ L) (h2 : L ≤ 6) (h : ¬ (rg 8 b ∧ rg L l)) : f_X10_lacks b l v = some (-1, v) := by
  unfold f_X10_lacks
  by_cases hb : rg 8 b
  · rw [isBidder_t hb, ob_s, if_neg nz_1, isLot_f hL h1 h2 (fun hl => h ⟨hb, hl⟩), ob_s, if_pos rfl]
  · rw [isBidder_f hb, ob_s, if_pos rfl]
theorem lk_0 {i j L : Nat} (hL : gI v 2 = nI L) (h1 : 1 ≤ L) (h2 : L ≤ 6) (hi : i < 8) (hj : j < L) (h : gA v 1 (8 * j + i) = 0) : f_X10_lacks (nI i) (nI j) v = some (-5, v) := by
  unfold f_X10_lacks
  rw [isBidder_t ⟨i, hi, rfl⟩, ob_s, if_neg nz_1, isLot_t hL h1 h2 ⟨j, hj, rfl⟩, ob_s, if_neg nz_1, cellM, oi_nI (by decide) (by omega), nI_clamp (by omega), if_pos h]
theorem lk_1 {i j L : Nat} (hL : gI v 2 = nI L) (h1 : 1 ≤ L) (h2 : L ≤ 6) (hi : i < 8) (hj : j < L) (h : gA v 1 (8 * j + i) = 1) : f_X10_lacks (nI i) (nI j) v = some (0, v) := by
  unfold f_X10_lacks
  rw [isBidder_t ⟨i, hi, rfl⟩, ob_s, if_neg nz_1, isLot_t hL h1 h2 ⟨j, hj, rfl⟩, ob_s, if_neg nz_1, cellM, oi_nI (by decide) (by omega), nI_clamp (by omega), if_neg (by rw [h]; exact nz_1)]
theorem fl_f {b l : Int32} {L : Nat} (hL : gI v 2 = nI L) (h1 : 1 ≤ L) (h2 : L ≤ 6) (h : ¬ (rg 8 b ∧ rg L l)) : f_X10_fails b l v = some (-1, v) := by
  unfold f_X10_fails
  rw [lk_f hL h1 h2 h, ob_s, if_neg nl_m1]
theorem fl_0 {i j L : Nat} (h : RR FE AW FD k u v) (hL : gI v 2 = nI L) (h1 : 1 ≤ L) (h2 : L ≤ 6) (hi : i < 8) (hj : j < L) (hs : ¬ Std u (i * 6 + j)) : f_X10_fails (nI i) (nI j) v = some (-5, v) := by
  have hd := h.2.2.2.1 i j hi (by omega)
  unfold f_X10_fails
  rcases hd.1.2 with h3 | h3
  · rw [lk_0 hL h1 h2 hi hj (hd.1.1.trans h3), ob_s, if_neg nl_m5]
  · rw [lk_1 hL h1 h2 hi hj (hd.1.1.trans h3), ob_s, if_pos le_00, cellM, dsM_f h hi (by omega) hs, ob_s, if_pos rfl]
theorem fl_1 {i j L : Nat} (h : RR FE AW FD k u v) (hL : gI v 2 = nI L) (h1 : 1 ≤ L) (h2 : L ≤ 6) (hi : i < 8) (hj : j < L) (hs : Std u (i * 6 + j)) : f_X10_fails (nI i) (nI j) v = some (0, v) := by
  have hd := h.2.2.2.1 i j hi (by omega)
  unfold f_X10_fails
  rw [lk_1 hL h1 h2 hi hj (hd.1.1.trans hs.1), ob_s, if_pos le_00, cellM, dsM_t h hi (by omega) hs, ob_s, if_neg nz_1]
theorem Std_c (u : SS) (c : Nat) : Std u c ∨ ¬ Std u c := Classical.em _
theorem Lps_c (u : SS) (c : Nat) : Lps u c ∨ ¬ Lps u c := Classical.em _
theorem ce_ne {i j b l : Nat} (hb : b < 8) (hl : l < 6) (hi : i < 8) (hj : j < 6) (h : ¬ (b = i ∧ l = j)) : b * 6 + l ≠ i * 6 + j ∧ 8 * l + b ≠ 8 * j + i := by omega
theorem vn0 : vp_nar .boolean 0 = 0 := by decide
theorem vn1 : vp_nar .boolean 1 = 1 := by decide
/-- a BID goes: on both sides -/
theorem drop_R {i j : Nat} (hi : i < 8) (hj : j < 6) (h4 : Rbd u v) (h5 : Rou u v) (h6 : Ras u v) : Rbd (tA (tZ u 3 (nI (i * 6 + j)) 0) 5 (nI (i * 6 + j)) 0) (tA (tZ v 1 (nI (8 * j + i)) 0) 7 (nI (8 * j + i)) (-1)) ∧ Rou (tA (tZ u 3 (nI (i * 6 + j)) 0) 5 (nI (i * 6 + j)) 0) (tA (tZ v 1 (nI (8 * j + i)) 0) 7 (nI (8 * j + i)) (-1)) ∧ Ras (tA (tZ u 3 (nI (i * 6 + j)) 0) 5 (nI (i * 6 + j)) 0) (tA (tZ v 1 (nI (8 * j + i)) 0) 7 (nI (8 * j + i)) (-1)) := by
  have e1 : (nI (i * 6 + j)).toNatClampNeg = i * 6 + j := nI_clamp (by omega)
  have e2 : (nI (8 * j + i)).toNatClampNeg = 8 * j + i := nI_clamp (by omega)
  refine ⟨fun b l hb hl => ?_, fun b l hb hl => ?_, fun b l hb hl => ?_⟩
  · refine ⟨?_, (h4 b l hb hl).2⟩
    show upd (gA v 1) _ _ (8 * l + b) = upd (gA u 3) _ _ (b * 6 + l) ∧ bo (upd (gA u 3) _ _ (b * 6 + l))
    rw [e1, e2, vn0]
    by_cases c : b = i ∧ l = j
    · obtain ⟨rfl, rfl⟩ := c
      rw [upd_s, upd_s]; exact ⟨rfl, Or.inl rfl⟩
    · obtain ⟨n1, n2⟩ := ce_ne hb hl hi hj c
      rw [upd_n _ _ n1, upd_n _ _ n2]; exact (h4 b l hb hl).1
  · refine ⟨(h5 b l hb hl).1, (h5 b l hb hl).2.1, fun z => (h5 b l hb hl).2.2 (z.elim Or.inl (fun z => Or.inr ?_))⟩
    have z : upd (gA u 3) (nI (i * 6 + j)).toNatClampNeg (vp_nar .boolean 0) (b * 6 + l) = 1 := z
    rw [e1, vn0] at z
    by_cases c : b = i ∧ l = j
    · obtain ⟨rfl, rfl⟩ := c
      rw [upd_s] at z; exact absurd z n01
    · rw [upd_n _ _ (ce_ne hb hl hi hj c).1] at z; exact z
  · show (upd (gA u 5) _ _ (b * 6 + l) = 0 ∧ upd (gA v 7) _ _ (8 * l + b) = -1) ∨ ∃ n : Nat, 1 ≤ n ∧ n ≤ 999999 ∧ upd (gA u 5) _ _ (b * 6 + l) = nI n ∧ upd (gA v 7) _ _ (8 * l + b) = nI n ∧ upd (gA u 3) _ _ (b * 6 + l) = 1
    rw [e1, e2]
    by_cases c : b = i ∧ l = j
    · obtain ⟨rfl, rfl⟩ := c
      rw [upd_s, upd_s]; exact Or.inl ⟨rfl, rfl⟩
    · obtain ⟨n1, n2⟩ := ce_ne hb hl hi hj c
      rw [upd_n _ _ n1, upd_n _ _ n2, upd_n _ _ n1]; exact h6 b l hb hl
/-- FD does not look at how many were LATE -/
def FDlate (FD : SS → SS → Prop) : Prop := ∀ u v x y, FD u v → FD (sI u 3 x) (sI v 3 y)
theorem st_withdraw (hA : FDok FD) (h : RR FE AW FD k u v) (b : Int32) (l : Int32) (hA2 : FDlate FD) : QQ (RR FE AW FD (k + 1)) (f_X9_withdraw b l u) (f_X10_withdraw b l v) := by
  obtain ⟨⟨t, L, ht, hL1, hL6, e0, e0m, e2, e2m, e1, e1c⟩, h2, h3, h4, h5, h6, h7, h8, h9, h10, h11, h12, h13, h14, h15, h16, h17, h18, h19⟩ := id h
  rcases bl_c b l L hL6 with ⟨i, j, hi, hj, hj6, rfl, rfl⟩ | hbl
  rotate_left
  · simp only [f_X9_withdraw, f_X10_withdraw, f_X1_drop, noBid_f e2 hL6 hbl, lk_f e2m hL1 hL6 hbl, ob_s, ov_s, lt_e, ↓reduceIte, eq_self, not_true_eq_false, not_false_eq_true, nz_1, nz_m1, nz_m2, nz_m3, nz_m4, nz_m5, nz_m6, nz_m7, nz_m8, nz_m9, nl_m1, nl_m2, nl_m3, nl_m4, nl_m5, nl_m6, nl_m7, nl_m8, nl_m9, ceB, rfB rwd1, rfM rwd1, rlB rwd1, rlM rwd1]
    exact qq_rf hA h _
  · have hd := (h4 i j hi hj6).1
    rcases hd.2 with ht0 | ht1
    · simp only [f_X9_withdraw, f_X10_withdraw, f_X1_drop, noBid_t e2 hL6 ⟨⟨i, hi, rfl⟩, ⟨j, hj, rfl⟩⟩, lk_0 e2m hL1 hL6 hi hj (hd.1.trans ht0), oi_nI (show 48 < 2 ^ 31 by decide) (show i * 6 + j < 48 by omega), ht0, nI_clamp (show i * 6 + j < 2 ^ 31 by omega), nI_clamp (show 8 * j + i < 2 ^ 31 by omega), cellB, cellM, ob_s, ov_s, lt_e, ↓reduceIte, eq_self, not_true_eq_false, not_false_eq_true, nz_1, nz_m1, nz_m2, nz_m3, nz_m4, nz_m5, nz_m6, nz_m7, nz_m8, nz_m9, nl_m1, nl_m2, nl_m3, nl_m4, nl_m5, nl_m6, nl_m7, nl_m8, nl_m9, ceB, rfB rwd5, rfM rwd5, rlB rwd5, rlM rwd5]
      exact qq_rf hA h _
    · have ht2 : ¬ gA u 3 (i * 6 + j) = 0 := by rw [ht1]; exact nz_1
      rcases Opn_dec u with ho | ho
      · simp only [f_X9_withdraw, f_X10_withdraw, f_X1_drop, noBid_t e2 hL6 ⟨⟨i, hi, rfl⟩, ⟨j, hj, rfl⟩⟩, lk_1 e2m hL1 hL6 hi hj (hd.1.trans ht1), oi_nI (show 48 < 2 ^ 31 by decide) (show i * 6 + j < 48 by omega), oi_nI (show 48 < 2 ^ 31 by decide) (show 8 * j + i < 48 by omega), ht2, opB_t ho, opM_t h.1 ho, le_00, nI_clamp (show i * 6 + j < 2 ^ 31 by omega), nI_clamp (show 8 * j + i < 2 ^ 31 by omega), cellB, cellM, ob_s, ov_s, lt_e, ↓reduceIte, eq_self, not_true_eq_false, not_false_eq_true, nz_1, nz_m1, nz_m2, nz_m3, nz_m4, nz_m5, nz_m6, nz_m7, nz_m8, nz_m9, nl_m1, nl_m2, nl_m3, nl_m4, nl_m5, nl_m6, nl_m7, nl_m8, nl_m9, ceB]
        obtain ⟨r4, r5, r6⟩ := drop_R hi hj6 h4 h5 h6
        exact ⟨_, _, _, _, rfl, rfl, ⟨⟨t, L, ht, hL1, hL6, e0, e0m, e2, e2m, e1, e1c⟩, h2, h3, r4, r5, r6, h7, h8, h9, h10, h11, Raw_k h12, h13, h14, h15, h16, h17, h18, fun z => absurd ((h17 ho).symm.trans z) n01⟩, rfl⟩
      · simp only [f_X9_withdraw, f_X10_withdraw, f_X1_drop, noBid_t e2 hL6 ⟨⟨i, hi, rfl⟩, ⟨j, hj, rfl⟩⟩, lk_1 e2m hL1 hL6 hi hj (hd.1.trans ht1), oi_nI (show 48 < 2 ^ 31 by decide) (show i * 6 + j < 48 by omega), oi_nI (show 48 < 2 ^ 31 by decide) (show 8 * j + i < 48 by omega), ht2, opB_f ho, opM_f h.1 ho, le_00, nI_clamp (show i * 6 + j < 2 ^ 31 by omega), nI_clamp (show 8 * j + i < 2 ^ 31 by omega), cellB, cellM, ob_s, ov_s, lt_e, ↓reduceIte, eq_self, not_true_eq_false, not_false_eq_true, nz_1, nz_m1, nz_m2, nz_m3, nz_m4, nz_m5, nz_m6, nz_m7, nz_m8, nz_m9, nl_m1, nl_m2, nl_m3, nl_m4, nl_m5, nl_m6, nl_m7, nl_m8, nl_m9, ceB]
        exact ⟨_, _, _, _, rfl, rfl, ⟨⟨t, L, ht, hL1, hL6, e0, e0m, e2, e2m, e1, e1c⟩, h2, h3, h4, h5, h6, h7, h8, h9, h10, h11, Raw_k h12, h13, h14, h15, h16, h17, h18, fun z => hA2 _ _ _ _ (h19 z)⟩, rfl⟩
end ST2
