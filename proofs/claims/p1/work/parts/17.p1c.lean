theorem mn_lt {x y c : Int32} : (if y < x then y else x) < c ↔ (x < c ∨ y < c) := by
  simp only [Int32.lt_iff_toInt_lt]
  split <;> omega
theorem mx_lt {x y c : Int32} : c < (if x < y then y else x) ↔ (c < x ∨ c < y) := by
  simp only [Int32.lt_iff_toInt_lt]
  split <;> omega
theorem mn4 {a b c d : Int32} : (if (if d < c then d else c) < (if b < a then b else a) then (if d < c then d else c) else (if b < a then b else a)) < 0 ↔ ((a < 0 ∨ b < 0) ∨ (c < 0 ∨ d < 0)) := by
  rw [mn_lt, mn_lt, mn_lt]
theorem mx4 {a b c d : Int32} : (99999 : Int32) < (if (if a < b then b else a) < (if c < d then d else c) then (if c < d then d else c) else (if a < b then b else a)) ↔ (((99999 : Int32) < a ∨ (99999 : Int32) < b) ∨ ((99999 : Int32) < c ∨ (99999 : Int32) < d)) := by
  rw [mx_lt, mx_lt, mx_lt]
theorem wb {m a b c d s o : Int32} (hm : rg 4 m) (u : SS) : f_X10_wrongBid m a b c d s o u = some ((if (a < 0 ∨ b < 0) ∨ (c < 0 ∨ d < 0) then -4 else if s < 0 then -4 else if 0 ≤ o then (if ((99999 : Int32) < a ∨ (99999 : Int32) < b) ∨ ((99999 : Int32) < c ∨ (99999 : Int32) < d) then -6 else if (999999 : Int32) < s then -6 else if o ≤ (99999 : Int32) then 0 else -6) else -4), u) := by
  unfold f_X10_wrongBid
  rw [in_t (n := 3) (by decide) (by decide) hm, ob_s, if_neg nz_1]
  by_cases h0 : a < 0
  · simp [h0]
  by_cases h1 : b < 0
  · simp [h0, h1]
  by_cases h2 : c < 0
  · simp [h0, h1, h2]
  by_cases h3 : d < 0
  · simp [h0, h1, h2, h3]
  by_cases h4 : s < 0
  · simp [h0, h1, h2, h3, h4]
  by_cases h5 : 0 ≤ o
  rotate_left
  · simp [h0, h1, h2, h3, h4, h5]
  by_cases h6 : (99999 : Int32) < a
  · simp [h0, h1, h2, h3, h4, h5, h6]
  by_cases h7 : (99999 : Int32) < b
  · simp [h0, h1, h2, h3, h4, h5, h6, h7]
  by_cases h8 : (99999 : Int32) < c
  · simp [h0, h1, h2, h3, h4, h5, h6, h7, h8]
  by_cases h9 : (99999 : Int32) < d
  · simp [h0, h1, h2, h3, h4, h5, h6, h7, h8, h9]
  by_cases h10 : (999999 : Int32) < s
  · simp [h0, h1, h2, h3, h4, h5, h6, h7, h8, h9, h10]
  by_cases h11 : o ≤ (99999 : Int32)
  · simp [h0, h1, h2, h3, h4, h5, h6, h7, h8, h9, h10, h11]
  simp [h0, h1, h2, h3, h4, h5, h6, h7, h8, h9, h10, h11]
theorem wb_f {m a b c d s o : Int32} (hm : ¬ rg 4 m) (u : SS) : f_X10_wrongBid m a b c d s o u = some (-1, u) := by
  unfold f_X10_wrongBid
  rw [in_f (n := 3) (by decide) (by decide) hm, ob_s, if_pos rfl]
theorem it0 {c : Int32} (h : rg 48 c) : rg 192 (c * (4 : Int32)) ∧ rg 192 (c * (4 : Int32) + (1 : Int32)) ∧ rg 192 (c * (4 : Int32) + (2 : Int32)) ∧ rg 192 (c * (4 : Int32) + (3 : Int32)) := by
  obtain ⟨i, hi, rfl⟩ := h
  have e : nI i * (4 : Int32) = nI (i * 4) := pk_mul i 4
  rw [e]
  exact ⟨⟨i * 4, by omega, rfl⟩, ⟨i * 4 + 1, by omega, nI_add (i * 4) 1⟩, ⟨i * 4 + 2, by omega, nI_add (i * 4) 2⟩, ⟨i * 4 + 3, by omega, nI_add (i * 4) 3⟩⟩
theorem im0 {c : Int32} (h : rg 48 c) : rg 192 ((4 : Int32) * c) ∧ rg 192 ((4 : Int32) * c + (1 : Int32)) ∧ rg 192 ((4 : Int32) * c + (2 : Int32)) ∧ rg 192 ((4 : Int32) * c + (3 : Int32)) := by
  obtain ⟨i, hi, rfl⟩ := h
  have e : (4 : Int32) * nI i = nI (4 * i) := pk_mul 4 i
  rw [e]
  exact ⟨⟨4 * i, by omega, rfl⟩, ⟨4 * i + 1, by omega, nI_add (4 * i) 1⟩, ⟨4 * i + 2, by omega, nI_add (4 * i) 2⟩, ⟨4 * i + 3, by omega, nI_add (4 * i) 3⟩⟩
theorem q_bid (b l m a4 a5 a6 a7 a8 a9 : Int32) : P1 (f_X9_bid b l m a4 a5 a6 a7 a8 a9 uB0) (f_X10_bid b l m a4 a5 a6 a7 a8 a9 uM0) := by
  by_cases h : rg 8 b ∧ rg 1 l
  · by_cases hm : rg 4 m
    · have h4 : m < (4 : Int32) := rg_hi (n := 4) (by decide) hm
      have hlo : ¬ m < 0 := rg_lo (by decide) hm
      by_cases n1 : (a4 < 0 ∨ a5 < 0) ∨ (a6 < 0 ∨ a7 < 0)
      · simp only [f_X9_bid, f_X10_bid, f_X9_bid_L18, f_X9_bid_L58, f_X9_bid_L105, f_X10_bid_L15, f_X10_bid_L36, noBid_t LB i1le h, isBidder_t h.1, isLot_t LM (by decide) (by decide) h.2, hlo, h4, mn4, mx4, wb hm, n1, ob_s, ov_s, lt_e, ↓reduceIte, eq_self, not_true_eq_false, not_false_eq_true, nz_1, nz_m1, nz_m2, nz_m3, nz_m4, nz_m5, nz_m6, nz_m7, nz_m8, nz_m9, nl_m1, nl_m2, nl_m3, nl_m4, nl_m5, nl_m6, nl_m7, nl_m8, nl_m9, opB, opM, ceB, thB, thM, rfB rwd4, rfM rwd4, rlB rwd4, rlM rwd4]
        exact ⟨_, _, _, _, rfl, rfl, trivial, rfl⟩
      by_cases n2 : a8 < 0
      · simp only [f_X9_bid, f_X10_bid, f_X9_bid_L18, f_X9_bid_L58, f_X9_bid_L105, f_X10_bid_L15, f_X10_bid_L36, noBid_t LB i1le h, isBidder_t h.1, isLot_t LM (by decide) (by decide) h.2, hlo, h4, mn4, mx4, wb hm, n1, n2, ob_s, ov_s, lt_e, ↓reduceIte, eq_self, not_true_eq_false, not_false_eq_true, nz_1, nz_m1, nz_m2, nz_m3, nz_m4, nz_m5, nz_m6, nz_m7, nz_m8, nz_m9, nl_m1, nl_m2, nl_m3, nl_m4, nl_m5, nl_m6, nl_m7, nl_m8, nl_m9, opB, opM, ceB, thB, thM, rfB rwd4, rfM rwd4, rlB rwd4, rlM rwd4]
        exact ⟨_, _, _, _, rfl, rfl, trivial, rfl⟩
      by_cases n3 : 0 ≤ a9
      · by_cases x1 : ((99999 : Int32) < a4 ∨ (99999 : Int32) < a5) ∨ ((99999 : Int32) < a6 ∨ (99999 : Int32) < a7)
        · simp only [f_X9_bid, f_X10_bid, f_X9_bid_L18, f_X9_bid_L58, f_X9_bid_L105, f_X10_bid_L15, f_X10_bid_L36, noBid_t LB i1le h, isBidder_t h.1, isLot_t LM (by decide) (by decide) h.2, hlo, h4, mn4, mx4, wb hm, n1, n2, n3, x1, ob_s, ov_s, lt_e, ↓reduceIte, eq_self, not_true_eq_false, not_false_eq_true, nz_1, nz_m1, nz_m2, nz_m3, nz_m4, nz_m5, nz_m6, nz_m7, nz_m8, nz_m9, nl_m1, nl_m2, nl_m3, nl_m4, nl_m5, nl_m6, nl_m7, nl_m8, nl_m9, opB, opM, ceB, thB, thM, rfB rwd6, rfM rwd6, rlB rwd6, rlM rwd6]
          exact ⟨_, _, _, _, rfl, rfl, trivial, rfl⟩
        by_cases x2 : (999999 : Int32) < a8
        · simp only [f_X9_bid, f_X10_bid, f_X9_bid_L18, f_X9_bid_L58, f_X9_bid_L105, f_X10_bid_L15, f_X10_bid_L36, noBid_t LB i1le h, isBidder_t h.1, isLot_t LM (by decide) (by decide) h.2, hlo, h4, mn4, mx4, wb hm, n1, n2, n3, x1, x2, ob_s, ov_s, lt_e, ↓reduceIte, eq_self, not_true_eq_false, not_false_eq_true, nz_1, nz_m1, nz_m2, nz_m3, nz_m4, nz_m5, nz_m6, nz_m7, nz_m8, nz_m9, nl_m1, nl_m2, nl_m3, nl_m4, nl_m5, nl_m6, nl_m7, nl_m8, nl_m9, opB, opM, ceB, thB, thM, rfB rwd6, rfM rwd6, rlB rwd6, rlM rwd6]
          exact ⟨_, _, _, _, rfl, rfl, trivial, rfl⟩
        by_cases x3 : a9 ≤ (99999 : Int32)
        · have g := rgB h.1 h.2
          have g2 := rgM h.1 h.2
          obtain ⟨i0, i1, i2, i3⟩ := it0 g
          obtain ⟨j0, j1, j2, j3⟩ := im0 g2
          simp only [f_X9_bid, f_X10_bid, f_X9_bid_L18, f_X9_bid_L58, f_X9_bid_L105, f_X10_bid_L15, f_X10_bid_L36, f_X1_drop, f_X1_putTerms, f_X1_putItems, noBid_t LB i1le h, isBidder_t h.1, isLot_t LM (by decide) (by decide) h.2, hlo, h4, mn4, mx4, wb hm, n1, n2, n3, x1, x2, x3, le_00, oi_in (show 48 < 2 ^ 31 by decide) g, oi_in (show 48 < 2 ^ 31 by decide) g2, oi_in (show 192 < 2 ^ 31 by decide) i0, oi_in (show 192 < 2 ^ 31 by decide) i1, oi_in (show 192 < 2 ^ 31 by decide) i2, oi_in (show 192 < 2 ^ 31 by decide) i3, oi_in (show 192 < 2 ^ 31 by decide) j0, oi_in (show 192 < 2 ^ 31 by decide) j1, oi_in (show 192 < 2 ^ 31 by decide) j2, oi_in (show 192 < 2 ^ 31 by decide) j3, ob_s, ov_s, lt_e, ↓reduceIte, eq_self, not_true_eq_false, not_false_eq_true, nz_1, nz_m1, nz_m2, nz_m3, nz_m4, nz_m5, nz_m6, nz_m7, nz_m8, nz_m9, nl_m1, nl_m2, nl_m3, nl_m4, nl_m5, nl_m6, nl_m7, nl_m8, nl_m9, opB, opM, ceB, thB, thM]
          exact ⟨_, _, _, _, rfl, rfl, trivial, rfl⟩
        · simp only [f_X9_bid, f_X10_bid, f_X9_bid_L18, f_X9_bid_L58, f_X9_bid_L105, f_X10_bid_L15, f_X10_bid_L36, noBid_t LB i1le h, isBidder_t h.1, isLot_t LM (by decide) (by decide) h.2, hlo, h4, mn4, mx4, wb hm, n1, n2, n3, x1, x2, x3, ob_s, ov_s, lt_e, ↓reduceIte, eq_self, not_true_eq_false, not_false_eq_true, nz_1, nz_m1, nz_m2, nz_m3, nz_m4, nz_m5, nz_m6, nz_m7, nz_m8, nz_m9, nl_m1, nl_m2, nl_m3, nl_m4, nl_m5, nl_m6, nl_m7, nl_m8, nl_m9, opB, opM, ceB, thB, thM, rfB rwd6, rfM rwd6, rlB rwd6, rlM rwd6]
          exact ⟨_, _, _, _, rfl, rfl, trivial, rfl⟩
      · simp only [f_X9_bid, f_X10_bid, f_X9_bid_L18, f_X9_bid_L58, f_X9_bid_L105, f_X10_bid_L15, f_X10_bid_L36, noBid_t LB i1le h, isBidder_t h.1, isLot_t LM (by decide) (by decide) h.2, hlo, h4, mn4, mx4, wb hm, n1, n2, n3, ob_s, ov_s, lt_e, ↓reduceIte, eq_self, not_true_eq_false, not_false_eq_true, nz_1, nz_m1, nz_m2, nz_m3, nz_m4, nz_m5, nz_m6, nz_m7, nz_m8, nz_m9, nl_m1, nl_m2, nl_m3, nl_m4, nl_m5, nl_m6, nl_m7, nl_m8, nl_m9, opB, opM, ceB, thB, thM, rfB rwd4, rfM rwd4, rlB rwd4, rlM rwd4]
        exact ⟨_, _, _, _, rfl, rfl, trivial, rfl⟩
    · by_cases h1 : m < 0
      · simp only [f_X9_bid, f_X10_bid, f_X9_bid_L18, f_X9_bid_L58, f_X9_bid_L105, f_X10_bid_L15, f_X10_bid_L36, noBid_t LB i1le h, isBidder_t h.1, isLot_t LM (by decide) (by decide) h.2, wb_f hm, h1, ob_s, ov_s, lt_e, ↓reduceIte, eq_self, not_true_eq_false, not_false_eq_true, nz_1, nz_m1, nz_m2, nz_m3, nz_m4, nz_m5, nz_m6, nz_m7, nz_m8, nz_m9, nl_m1, nl_m2, nl_m3, nl_m4, nl_m5, nl_m6, nl_m7, nl_m8, nl_m9, opB, opM, ceB, thB, thM, rfB rwd1, rfM rwd1, rlB rwd1, rlM rwd1]
        exact ⟨_, _, _, _, rfl, rfl, trivial, rfl⟩
      · have h4 : ¬ m < (4 : Int32) := fun z => hm (rg_mk (n := 4) (by decide) h1 z)
        simp only [f_X9_bid, f_X10_bid, f_X9_bid_L18, f_X9_bid_L58, f_X9_bid_L105, f_X10_bid_L15, f_X10_bid_L36, noBid_t LB i1le h, isBidder_t h.1, isLot_t LM (by decide) (by decide) h.2, wb_f hm, h1, h4, ob_s, ov_s, lt_e, ↓reduceIte, eq_self, not_true_eq_false, not_false_eq_true, nz_1, nz_m1, nz_m2, nz_m3, nz_m4, nz_m5, nz_m6, nz_m7, nz_m8, nz_m9, nl_m1, nl_m2, nl_m3, nl_m4, nl_m5, nl_m6, nl_m7, nl_m8, nl_m9, opB, opM, ceB, thB, thM, rfB rwd1, rfM rwd1, rlB rwd1, rlM rwd1]
        exact ⟨_, _, _, _, rfl, rfl, trivial, rfl⟩
  · by_cases hb : rg 8 b
    · simp only [f_X9_bid, f_X10_bid, f_X9_bid_L18, f_X9_bid_L58, f_X9_bid_L105, f_X10_bid_L15, f_X10_bid_L36, noBid_f LB i1le h, isBidder_t hb, isLot_f LM (by decide) (by decide) (fun hl => h ⟨hb, hl⟩), ob_s, ov_s, lt_e, ↓reduceIte, eq_self, not_true_eq_false, not_false_eq_true, nz_1, nz_m1, nz_m2, nz_m3, nz_m4, nz_m5, nz_m6, nz_m7, nz_m8, nz_m9, nl_m1, nl_m2, nl_m3, nl_m4, nl_m5, nl_m6, nl_m7, nl_m8, nl_m9, opB, opM, ceB, thB, thM, rfB rwd1, rfM rwd1, rlB rwd1, rlM rwd1]
      exact ⟨_, _, _, _, rfl, rfl, trivial, rfl⟩
    · simp only [f_X9_bid, f_X10_bid, f_X9_bid_L18, f_X9_bid_L58, f_X9_bid_L105, f_X10_bid_L15, f_X10_bid_L36, noBid_f LB i1le h, isBidder_f hb, ob_s, ov_s, lt_e, ↓reduceIte, eq_self, not_true_eq_false, not_false_eq_true, nz_1, nz_m1, nz_m2, nz_m3, nz_m4, nz_m5, nz_m6, nz_m7, nz_m8, nz_m9, nl_m1, nl_m2, nl_m3, nl_m4, nl_m5, nl_m6, nl_m7, nl_m8, nl_m9, opB, opM, ceB, thB, thM, rfB rwd1, rfM rwd1, rlB rwd1, rlM rwd1]
      exact ⟨_, _, _, _, rfl, rfl, trivial, rfl⟩
theorem br8 {s b : Int32} (hs : rg 6 s) (hb : rg 8 b) : rg 48 ((s * (8 : Int32)) + b) ∧ rg 48 (((8 : Int32) * s) + b) := by
  obtain ⟨i, hi, rfl⟩ := hs
  obtain ⟨j, hj, rfl⟩ := hb
  have e1 : nI i * (8 : Int32) = nI (i * 8) := pk_mul i 8
  have e2 : (8 : Int32) * nI i = nI (8 * i) := pk_mul 8 i
  rw [e1, e2, nI_add, nI_add]
  exact ⟨⟨_, by omega, rfl⟩, ⟨_, by omega, rfl⟩⟩
theorem br7 {b m : Int32} (hb : rg 8 b) (hm : rg 7 m) : rg 56 ((b * (7 : Int32)) + m) ∧ rg 56 (((7 : Int32) * b) + m) := by
  obtain ⟨i, hi, rfl⟩ := hb
  obtain ⟨j, hj, rfl⟩ := hm
  have e1 : nI i * (7 : Int32) = nI (i * 7) := pk_mul i 7
  have e2 : (7 : Int32) * nI i = nI (7 * i) := pk_mul 7 i
  rw [e1, e2, nI_add, nI_add]
  exact ⟨⟨_, by omega, rfl⟩, ⟨_, by omega, rfl⟩⟩
theorem baB (i : Nat) : gA uB0 11 i = 0 := rfl
theorem baM (i : Nat) : gA uM0 10 i = 0 := rfl
theorem q_bar (s b n : Int32) : P1 (f_X9_bar s b n uB0) (f_X10_bar s b n uM0) := by
  by_cases hs : rg 6 s
  · by_cases hb : rg 8 b
    · obtain ⟨g1, g2⟩ := br8 hs hb
      by_cases h0 : (0 : Int32) = n
      · subst h0
        simp only [f_X9_bar, f_X10_bar, f_X9_bar_L14, f_X10_bar_L14, f_X5_putBar, noScorer_t hs, isScorer_t hs, noBidder_t hb, isBidder_t hb, oi_in (show 48 < 2 ^ 31 by decide) g1, oi_in (show 48 < 2 ^ 31 by decide) g2, baB, baM, ob_s, ov_s, lt_e, ↓reduceIte, eq_self, not_true_eq_false, not_false_eq_true, nz_1, nz_m1, nz_m2, nz_m3, nz_m4, nz_m5, nz_m6, nz_m7, nz_m8, nz_m9, nl_m1, nl_m2, nl_m3, nl_m4, nl_m5, nl_m6, nl_m7, nl_m8, nl_m9, opB, opM, ceB, thB, thM]
        exact ⟨_, _, _, _, rfl, rfl, trivial, rfl⟩
      · simp only [f_X9_bar, f_X10_bar, f_X9_bar_L14, f_X10_bar_L14, f_X5_putBar, noScorer_t hs, isScorer_t hs, noBidder_t hb, isBidder_t hb, oi_in (show 48 < 2 ^ 31 by decide) g1, oi_in (show 48 < 2 ^ 31 by decide) g2, baB, baM, h0, ob_s, ov_s, lt_e, ↓reduceIte, eq_self, not_true_eq_false, not_false_eq_true, nz_1, nz_m1, nz_m2, nz_m3, nz_m4, nz_m5, nz_m6, nz_m7, nz_m8, nz_m9, nl_m1, nl_m2, nl_m3, nl_m4, nl_m5, nl_m6, nl_m7, nl_m8, nl_m9, opB, opM, ceB, thB, thM]
        exact ⟨_, _, _, _, rfl, rfl, trivial, rfl⟩
    · simp only [f_X9_bar, f_X10_bar, f_X9_bar_L14, f_X10_bar_L14, f_X5_putBar, noScorer_t hs, isScorer_t hs, noBidder_f hb, isBidder_f hb, ob_s, ov_s, lt_e, ↓reduceIte, eq_self, not_true_eq_false, not_false_eq_true, nz_1, nz_m1, nz_m2, nz_m3, nz_m4, nz_m5, nz_m6, nz_m7, nz_m8, nz_m9, nl_m1, nl_m2, nl_m3, nl_m4, nl_m5, nl_m6, nl_m7, nl_m8, nl_m9, opB, opM, ceB, thB, thM, rfB rwd1, rfM rwd1, rlB rwd1, rlM rwd1]
      exact ⟨_, _, _, _, rfl, rfl, trivial, rfl⟩
  · simp only [f_X9_bar, f_X10_bar, f_X9_bar_L14, f_X10_bar_L14, f_X5_putBar, noScorer_f hs, isScorer_f hs, ob_s, ov_s, lt_e, ↓reduceIte, eq_self, not_true_eq_false, not_false_eq_true, nz_1, nz_m1, nz_m2, nz_m3, nz_m4, nz_m5, nz_m6, nz_m7, nz_m8, nz_m9, nl_m1, nl_m2, nl_m3, nl_m4, nl_m5, nl_m6, nl_m7, nl_m8, nl_m9, opB, opM, ceB, thB, thM, rfB rwd1, rfM rwd1, rlB rwd1, rlM rwd1]
    exact ⟨_, _, _, _, rfl, rfl, trivial, rfl⟩
theorem q_quality (b l w : Int32) : P1 (f_X9_quality b l w uB0) (f_X10_quality b l w uM0) := by
  by_cases h : rg 8 b ∧ rg 1 l
  · by_cases hp : rg 2 w
    · simp only [f_X9_quality, f_X10_quality, f_X10_quality_L15, noBid_t LB i1le h, isBidder_t h.1, isLot_t LM (by decide) (by decide) h.2, noPart_t hp, in_t (n := 1) (by decide) (show (1 : Int32) = nI 1 by decide) hp, oi_in (show 48 < 2 ^ 31 by decide) (rgB h.1 h.2), oi_in (show 48 < 2 ^ 31 by decide) (rgM h.1 h.2), stB (rgB h.1 h.2), flM_t h.1 h.2, ob_s, ov_s, lt_e, ↓reduceIte, eq_self, not_true_eq_false, not_false_eq_true, nz_1, nz_m1, nz_m2, nz_m3, nz_m4, nz_m5, nz_m6, nz_m7, nz_m8, nz_m9, nl_m1, nl_m2, nl_m3, nl_m4, nl_m5, nl_m6, nl_m7, nl_m8, nl_m9, opB, opM, ceB, thB, thM, rfB rwd5, rfM rwd5, rlB rwd5, rlM rwd5]
      exact ⟨_, _, _, _, rfl, rfl, trivial, rfl⟩
    · simp only [f_X9_quality, f_X10_quality, f_X10_quality_L15, noBid_t LB i1le h, isBidder_t h.1, isLot_t LM (by decide) (by decide) h.2, noPart_f hp, in_f (n := 1) (by decide) (show (1 : Int32) = nI 1 by decide) hp, ob_s, ov_s, lt_e, ↓reduceIte, eq_self, not_true_eq_false, not_false_eq_true, nz_1, nz_m1, nz_m2, nz_m3, nz_m4, nz_m5, nz_m6, nz_m7, nz_m8, nz_m9, nl_m1, nl_m2, nl_m3, nl_m4, nl_m5, nl_m6, nl_m7, nl_m8, nl_m9, opB, opM, ceB, thB, thM, rfB rwd2, rfM rwd2, rlB rwd2, rlM rwd2]
      exact ⟨_, _, _, _, rfl, rfl, trivial, rfl⟩
  · by_cases hb : rg 8 b
    · simp only [f_X9_quality, f_X10_quality, f_X10_quality_L15, noBid_f LB i1le h, isBidder_t hb, isLot_f LM (by decide) (by decide) (fun hl => h ⟨hb, hl⟩), ob_s, ov_s, lt_e, ↓reduceIte, eq_self, not_true_eq_false, not_false_eq_true, nz_1, nz_m1, nz_m2, nz_m3, nz_m4, nz_m5, nz_m6, nz_m7, nz_m8, nz_m9, nl_m1, nl_m2, nl_m3, nl_m4, nl_m5, nl_m6, nl_m7, nl_m8, nl_m9, opB, opM, ceB, thB, thM, rfB rwd1, rfM rwd1, rlB rwd1, rlM rwd1]
      exact ⟨_, _, _, _, rfl, rfl, trivial, rfl⟩
    · simp only [f_X9_quality, f_X10_quality, f_X10_quality_L15, noBid_f LB i1le h, isBidder_f hb, ob_s, ov_s, lt_e, ↓reduceIte, eq_self, not_true_eq_false, not_false_eq_true, nz_1, nz_m1, nz_m2, nz_m3, nz_m4, nz_m5, nz_m6, nz_m7, nz_m8, nz_m9, nl_m1, nl_m2, nl_m3, nl_m4, nl_m5, nl_m6, nl_m7, nl_m8, nl_m9, opB, opM, ceB, thB, thM, rfB rwd1, rfM rwd1, rlB rwd1, rlM rwd1]
      exact ⟨_, _, _, _, rfl, rfl, trivial, rfl⟩
theorem q_points (b l w : Int32) : P1 (f_X9_points b l w uB0) (f_X10_points b l w uM0) := by
  by_cases h : rg 8 b ∧ rg 1 l
  · by_cases hp : rg 2 w
    · simp only [f_X9_points, f_X10_points, f_X10_points_L15, noBid_t LB i1le h, isBidder_t h.1, isLot_t LM (by decide) (by decide) h.2, noPart_t hp, in_t (n := 1) (by decide) (show (1 : Int32) = nI 1 by decide) hp, oi_in (show 48 < 2 ^ 31 by decide) (rgB h.1 h.2), oi_in (show 48 < 2 ^ 31 by decide) (rgM h.1 h.2), stB (rgB h.1 h.2), flM_t h.1 h.2, ob_s, ov_s, lt_e, ↓reduceIte, eq_self, not_true_eq_false, not_false_eq_true, nz_1, nz_m1, nz_m2, nz_m3, nz_m4, nz_m5, nz_m6, nz_m7, nz_m8, nz_m9, nl_m1, nl_m2, nl_m3, nl_m4, nl_m5, nl_m6, nl_m7, nl_m8, nl_m9, opB, opM, ceB, thB, thM, rfB rwd5, rfM rwd5, rlB rwd5, rlM rwd5]
      exact ⟨_, _, _, _, rfl, rfl, trivial, rfl⟩
    · simp only [f_X9_points, f_X10_points, f_X10_points_L15, noBid_t LB i1le h, isBidder_t h.1, isLot_t LM (by decide) (by decide) h.2, noPart_f hp, in_f (n := 1) (by decide) (show (1 : Int32) = nI 1 by decide) hp, ob_s, ov_s, lt_e, ↓reduceIte, eq_self, not_true_eq_false, not_false_eq_true, nz_1, nz_m1, nz_m2, nz_m3, nz_m4, nz_m5, nz_m6, nz_m7, nz_m8, nz_m9, nl_m1, nl_m2, nl_m3, nl_m4, nl_m5, nl_m6, nl_m7, nl_m8, nl_m9, opB, opM, ceB, thB, thM, rfB rwd2, rfM rwd2, rlB rwd2, rlM rwd2]
      exact ⟨_, _, _, _, rfl, rfl, trivial, rfl⟩
  · by_cases hb : rg 8 b
    · simp only [f_X9_points, f_X10_points, f_X10_points_L15, noBid_f LB i1le h, isBidder_t hb, isLot_f LM (by decide) (by decide) (fun hl => h ⟨hb, hl⟩), ob_s, ov_s, lt_e, ↓reduceIte, eq_self, not_true_eq_false, not_false_eq_true, nz_1, nz_m1, nz_m2, nz_m3, nz_m4, nz_m5, nz_m6, nz_m7, nz_m8, nz_m9, nl_m1, nl_m2, nl_m3, nl_m4, nl_m5, nl_m6, nl_m7, nl_m8, nl_m9, opB, opM, ceB, thB, thM, rfB rwd1, rfM rwd1, rlB rwd1, rlM rwd1]
      exact ⟨_, _, _, _, rfl, rfl, trivial, rfl⟩
    · simp only [f_X9_points, f_X10_points, f_X10_points_L15, noBid_f LB i1le h, isBidder_f hb, ob_s, ov_s, lt_e, ↓reduceIte, eq_self, not_true_eq_false, not_false_eq_true, nz_1, nz_m1, nz_m2, nz_m3, nz_m4, nz_m5, nz_m6, nz_m7, nz_m8, nz_m9, nl_m1, nl_m2, nl_m3, nl_m4, nl_m5, nl_m6, nl_m7, nl_m8, nl_m9, opB, opM, ceB, thB, thM, rfB rwd1, rfM rwd1, rlB rwd1, rlM rwd1]
      exact ⟨_, _, _, _, rfl, rfl, trivial, rfl⟩
theorem q_gain (b l d w : Int32) : P1 (f_X9_gain b l d w uB0) (f_X10_gain b l d w uM0) := by
  by_cases h : rg 8 b ∧ rg 1 l
  · by_cases hp : rg 2 w
    · simp only [f_X9_gain, f_X10_gain, f_X10_gain_L15, noBid_t LB i1le h, isBidder_t h.1, isLot_t LM (by decide) (by decide) h.2, noPart_t hp, in_t (n := 1) (by decide) (show (1 : Int32) = nI 1 by decide) hp, oi_in (show 48 < 2 ^ 31 by decide) (rgB h.1 h.2), oi_in (show 48 < 2 ^ 31 by decide) (rgM h.1 h.2), stB (rgB h.1 h.2), flM_t h.1 h.2, ob_s, ov_s, lt_e, ↓reduceIte, eq_self, not_true_eq_false, not_false_eq_true, nz_1, nz_m1, nz_m2, nz_m3, nz_m4, nz_m5, nz_m6, nz_m7, nz_m8, nz_m9, nl_m1, nl_m2, nl_m3, nl_m4, nl_m5, nl_m6, nl_m7, nl_m8, nl_m9, opB, opM, ceB, thB, thM, rfB rwd5, rfM rwd5, rlB rwd5, rlM rwd5]
      exact ⟨_, _, _, _, rfl, rfl, trivial, rfl⟩
    · simp only [f_X9_gain, f_X10_gain, f_X10_gain_L15, noBid_t LB i1le h, isBidder_t h.1, isLot_t LM (by decide) (by decide) h.2, noPart_f hp, in_f (n := 1) (by decide) (show (1 : Int32) = nI 1 by decide) hp, ob_s, ov_s, lt_e, ↓reduceIte, eq_self, not_true_eq_false, not_false_eq_true, nz_1, nz_m1, nz_m2, nz_m3, nz_m4, nz_m5, nz_m6, nz_m7, nz_m8, nz_m9, nl_m1, nl_m2, nl_m3, nl_m4, nl_m5, nl_m6, nl_m7, nl_m8, nl_m9, opB, opM, ceB, thB, thM, rfB rwd2, rfM rwd2, rlB rwd2, rlM rwd2]
      exact ⟨_, _, _, _, rfl, rfl, trivial, rfl⟩
  · by_cases hb : rg 8 b
    · simp only [f_X9_gain, f_X10_gain, f_X10_gain_L15, noBid_f LB i1le h, isBidder_t hb, isLot_f LM (by decide) (by decide) (fun hl => h ⟨hb, hl⟩), ob_s, ov_s, lt_e, ↓reduceIte, eq_self, not_true_eq_false, not_false_eq_true, nz_1, nz_m1, nz_m2, nz_m3, nz_m4, nz_m5, nz_m6, nz_m7, nz_m8, nz_m9, nl_m1, nl_m2, nl_m3, nl_m4, nl_m5, nl_m6, nl_m7, nl_m8, nl_m9, opB, opM, ceB, thB, thM, rfB rwd1, rfM rwd1, rlB rwd1, rlM rwd1]
      exact ⟨_, _, _, _, rfl, rfl, trivial, rfl⟩
    · simp only [f_X9_gain, f_X10_gain, f_X10_gain_L15, noBid_f LB i1le h, isBidder_f hb, ob_s, ov_s, lt_e, ↓reduceIte, eq_self, not_true_eq_false, not_false_eq_true, nz_1, nz_m1, nz_m2, nz_m3, nz_m4, nz_m5, nz_m6, nz_m7, nz_m8, nz_m9, nl_m1, nl_m2, nl_m3, nl_m4, nl_m5, nl_m6, nl_m7, nl_m8, nl_m9, opB, opM, ceB, thB, thM, rfB rwd1, rfM rwd1, rlB rwd1, rlM rwd1]
      exact ⟨_, _, _, _, rfl, rfl, trivial, rfl⟩
theorem q_formula : P1 (f_X9_formula uB0) (f_X10_formula uM0) := P1_ab db_formula dm_formula
theorem ord_B : ∃ u1 u2, f_X7_lay (0 : Int32) (-1 : Int32) uB0 = some u1 ∧ f_X7_rank u1 = some u2 ∧ gI u2 10 = 0 := by
  have h := db_order
  cases h1 : f_X7_lay (0 : Int32) (-1 : Int32) uB0 with
  | none => rw [h1] at h; cases h
  | some u1 =>
    rw [h1] at h
    have h : (f_X7_rank u1).map (fun u => gI u 10) = some 0 := h
    cases h2 : f_X7_rank u1 with
    | none => rw [h2] at h; cases h
    | some u2 =>
      rw [h2] at h
      exact ⟨u1, u2, rfl, h2, Option.some.inj h⟩
theorem ord_M : ∃ u1, f_X10_findOrder (0 : Int32) uM0 = some u1 ∧ gI u1 15 = 0 := by
  have h := dm_order
  cases h1 : f_X10_findOrder (0 : Int32) uM0 with
  | none => rw [h1] at h; cases h
  | some u1 => rw [h1] at h; exact ⟨u1, rfl, Option.some.inj h⟩
theorem rg1 {l : Int32} (h : rg 1 l) : l = 0 := by
  obtain ⟨i, hi, rfl⟩ := h
  have : i = 0 := by omega
  subst this
  rfl
theorem q_order (l i : Int32) : P1 (f_X9_order l i uB0) (f_X10_order l i uM0) := by
  by_cases hl : rg 1 l
  · have e0 := rg1 hl
    subst e0
    obtain ⟨u1, u2, e1, e2, e3⟩ := ord_B
    obtain ⟨v1, e4, e5⟩ := ord_M
    have e6 : (0 : Int32) - 1 = -1 := by decide
    by_cases h1 : i < 0
    · simp only [f_X9_order, f_X10_order, f_X10_in, noLot_t LB i1le hl, isLot_t LM (by decide) (by decide) hl, e1, e2, e3, e4, e5, h1, ob_s, ov_s, lt_e, ↓reduceIte, eq_self, not_true_eq_false, not_false_eq_true, nz_1, nz_m1, nz_m2, nz_m3, nz_m4, nz_m5, nz_m6, nz_m7, nz_m8, nz_m9, nl_m1, nl_m2, nl_m3, nl_m4, nl_m5, nl_m6, nl_m7, nl_m8, nl_m9, opB, opM, ceB, thB, thM]
      exact ⟨_, _, _, _, rfl, rfl, trivial, rfl⟩
    · have h2 : (-1 : Int32) < i := Int32.not_le.mp (fun z => h1 (Int32.lt_of_le_of_lt z (by decide)))
      simp only [f_X9_order, f_X10_order, f_X10_in, noLot_t LB i1le hl, isLot_t LM (by decide) (by decide) hl, e1, e2, e3, e4, e5, e6, h1, h2, ob_s, ov_s, lt_e, ↓reduceIte, eq_self, not_true_eq_false, not_false_eq_true, nz_1, nz_m1, nz_m2, nz_m3, nz_m4, nz_m5, nz_m6, nz_m7, nz_m8, nz_m9, nl_m1, nl_m2, nl_m3, nl_m4, nl_m5, nl_m6, nl_m7, nl_m8, nl_m9, opB, opM, ceB, thB, thM]
      exact ⟨_, _, _, _, rfl, rfl, trivial, rfl⟩
  · simp only [f_X9_order, f_X10_order, noLot_f LB i1le hl, isLot_f LM (by decide) (by decide) hl, ob_s, ov_s, lt_e, ↓reduceIte, eq_self, not_true_eq_false, not_false_eq_true, nz_1, nz_m1, nz_m2, nz_m3, nz_m4, nz_m5, nz_m6, nz_m7, nz_m8, nz_m9, nl_m1, nl_m2, nl_m3, nl_m4, nl_m5, nl_m6, nl_m7, nl_m8, nl_m9, opB, opM, ceB, thB, thM, rfB rwd1, rfM rwd1, rlB rwd1, rlM rwd1]
    exact ⟨_, _, _, _, rfl, rfl, trivial, rfl⟩
theorem noPair_c (l a b : Int32) : (rg 1 l ∧ rg 8 a ∧ rg 8 b ∧ ¬ a = b ∧ f_X9_noPair l a b uB0 = some (0, uB0)) ∨ (¬ (rg 1 l ∧ rg 8 a ∧ rg 8 b ∧ ¬ a = b) ∧ f_X9_noPair l a b uB0 = some (1, uB0)) := by
  unfold f_X9_noPair
  by_cases hl : rg 1 l
  · by_cases ha : rg 8 a
    · by_cases hb : rg 8 b
      · by_cases e : a = b
        · refine Or.inr ⟨fun h => h.2.2.2 e, ?_⟩
          simp only [noLot_t LB i1le hl, noBidder_t ha, noBidder_t hb, ob_s, ↓reduceIte]
          rw [if_pos e]
        · refine Or.inl ⟨hl, ha, hb, e, ?_⟩
          simp only [noLot_t LB i1le hl, noBidder_t ha, noBidder_t hb, ob_s, ↓reduceIte, e]
      · refine Or.inr ⟨fun h => hb h.2.2.1, ?_⟩
        simp only [noLot_t LB i1le hl, noBidder_t ha, noBidder_f hb, ob_s, ↓reduceIte, nz_1]
    · refine Or.inr ⟨fun h => ha h.2.1, ?_⟩
      simp only [noLot_t LB i1le hl, noBidder_f ha, ob_s, ↓reduceIte, nz_1]
  · refine Or.inr ⟨fun h => hl h.1, ?_⟩
    simp only [noLot_f LB i1le hl, ob_s, ↓reduceIte, nz_1]
theorem wt_t {l a b : Int32} (hl : rg 1 l) (ha : rg 8 a) (hb : rg 8 b) (e : ¬ a = b) : f_X10_wrongTwo l a b uM0 = some (-5, uM0) := by
  unfold f_X10_wrongTwo
  simp only [isLot_t LM (by decide) (by decide) hl, isBidder_t ha, isBidder_t hb, ob_s, ↓reduceIte, nz_1, e, oi_in (show 48 < 2 ^ 31 by decide) (rgM ha hl), thM]
theorem wt_f {l a b : Int32} (h : ¬ (rg 1 l ∧ rg 8 a ∧ rg 8 b ∧ ¬ a = b)) : f_X10_wrongTwo l a b uM0 = some (-1, uM0) := by
  unfold f_X10_wrongTwo
  by_cases hl : rg 1 l
  · by_cases ha : rg 8 a
    · by_cases hb : rg 8 b
      · have e : a = b := Classical.byContradiction (fun e => h ⟨hl, ha, hb, e⟩)
        simp only [isLot_t LM (by decide) (by decide) hl, isBidder_t ha, isBidder_t hb, ob_s, ↓reduceIte, nz_1]
        rw [if_pos e]
      · simp only [isLot_t LM (by decide) (by decide) hl, isBidder_t ha, isBidder_f hb, ob_s, ↓reduceIte, nz_1]
    · simp only [isLot_t LM (by decide) (by decide) hl, isBidder_f ha, ob_s, ↓reduceIte, nz_1]
  · simp only [isLot_f LM (by decide) (by decide) hl, ob_s, ↓reduceIte, nz_1]
theorem q_likeness (l a b : Int32) : P1 (f_X9_likeness l a b uB0) (f_X10_likeness l a b uM0) := by
  rcases noPair_c l a b with ⟨hl, ha, hb, e, hp⟩ | ⟨h, hp⟩
  · simp only [f_X9_likeness, f_X10_likeness, f_X9_likeness_L48, hp, wt_t hl ha hb e, oi_in (show 48 < 2 ^ 31 by decide) (rgB ha hl), ob_s, ov_s, lt_e, ↓reduceIte, eq_self, not_true_eq_false, not_false_eq_true, nz_1, nz_m1, nz_m2, nz_m3, nz_m4, nz_m5, nz_m6, nz_m7, nz_m8, nz_m9, nl_m1, nl_m2, nl_m3, nl_m4, nl_m5, nl_m6, nl_m7, nl_m8, nl_m9, opB, opM, ceB, thB, thM, rfB rwd5, rfM rwd5, rlB rwd5, rlM rwd5]
    exact ⟨_, _, _, _, rfl, rfl, trivial, rfl⟩
  · simp only [f_X9_likeness, f_X10_likeness, f_X9_likeness_L48, hp, wt_f h, ob_s, ov_s, lt_e, ↓reduceIte, eq_self, not_true_eq_false, not_false_eq_true, nz_1, nz_m1, nz_m2, nz_m3, nz_m4, nz_m5, nz_m6, nz_m7, nz_m8, nz_m9, nl_m1, nl_m2, nl_m3, nl_m4, nl_m5, nl_m6, nl_m7, nl_m8, nl_m9, opB, opM, ceB, thB, thM, rfB rwd1, rfM rwd1, rlB rwd1, rlM rwd1]
    exact ⟨_, _, _, _, rfl, rfl, trivial, rfl⟩
theorem q_chance (l a b : Int32) : P1 (f_X9_chance l a b uB0) (f_X10_chance l a b uM0) := by
  rcases noPair_c l a b with ⟨hl, ha, hb, e, hp⟩ | ⟨h, hp⟩
  · simp only [f_X9_chance, f_X10_chance, f_X9_chance_L48, hp, wt_t hl ha hb e, oi_in (show 48 < 2 ^ 31 by decide) (rgB ha hl), ob_s, ov_s, lt_e, ↓reduceIte, eq_self, not_true_eq_false, not_false_eq_true, nz_1, nz_m1, nz_m2, nz_m3, nz_m4, nz_m5, nz_m6, nz_m7, nz_m8, nz_m9, nl_m1, nl_m2, nl_m3, nl_m4, nl_m5, nl_m6, nl_m7, nl_m8, nl_m9, opB, opM, ceB, thB, thM, rfB rwd5, rfM rwd5, rlB rwd5, rlM rwd5]
    exact ⟨_, _, _, _, rfl, rfl, trivial, rfl⟩
  · simp only [f_X9_chance, f_X10_chance, f_X9_chance_L48, hp, wt_f h, ob_s, ov_s, lt_e, ↓reduceIte, eq_self, not_true_eq_false, not_false_eq_true, nz_1, nz_m1, nz_m2, nz_m3, nz_m4, nz_m5, nz_m6, nz_m7, nz_m8, nz_m9, nl_m1, nl_m2, nl_m3, nl_m4, nl_m5, nl_m6, nl_m7, nl_m8, nl_m9, opB, opM, ceB, thB, thM, rfB rwd1, rfM rwd1, rlB rwd1, rlM rwd1]
    exact ⟨_, _, _, _, rfl, rfl, trivial, rfl⟩
theorem q_turned (l a b : Int32) : P1 (f_X9_turned l a b uB0) (f_X10_turned l a b uM0) := by
  rcases noPair_c l a b with ⟨hl, ha, hb, e, hp⟩ | ⟨h, hp⟩
  · simp only [f_X9_turned, f_X10_turned, f_X9_turned_L46, f_X10_turned_L27, f_X10_turned_L67, hp, isLot_t LM (by decide) (by decide) hl, isBidder_t ha, isBidder_t hb, e, stB (rgB ha hl), dsM (rgM ha hl), ob_s, ov_s, lt_e, ↓reduceIte, eq_self, not_true_eq_false, not_false_eq_true, nz_1, nz_m1, nz_m2, nz_m3, nz_m4, nz_m5, nz_m6, nz_m7, nz_m8, nz_m9, nl_m1, nl_m2, nl_m3, nl_m4, nl_m5, nl_m6, nl_m7, nl_m8, nl_m9, opB, opM, ceB, thB, thM, rfB rwd5, rfM rwd5, rlB rwd5, rlM rwd5]
    exact ⟨_, _, _, _, rfl, rfl, trivial, rfl⟩
  · by_cases hl : rg 1 l
    · by_cases ha : rg 8 a
      · by_cases hb : rg 8 b
        · have e : a = b := Classical.byContradiction (fun e => h ⟨hl, ha, hb, e⟩)
          subst e
          simp only [f_X9_turned, f_X10_turned, f_X9_turned_L46, f_X10_turned_L27, f_X10_turned_L67, hp, isLot_t LM (by decide) (by decide) hl, isBidder_t ha, ob_s, ov_s, lt_e, ↓reduceIte, eq_self, not_true_eq_false, not_false_eq_true, nz_1, nz_m1, nz_m2, nz_m3, nz_m4, nz_m5, nz_m6, nz_m7, nz_m8, nz_m9, nl_m1, nl_m2, nl_m3, nl_m4, nl_m5, nl_m6, nl_m7, nl_m8, nl_m9, opB, opM, ceB, thB, thM, rfB rwd1, rfM rwd1, rlB rwd1, rlM rwd1]
          exact ⟨_, _, _, _, rfl, rfl, trivial, rfl⟩
        · simp only [f_X9_turned, f_X10_turned, f_X9_turned_L46, f_X10_turned_L27, f_X10_turned_L67, hp, isLot_t LM (by decide) (by decide) hl, isBidder_t ha, isBidder_f hb, ob_s, ov_s, lt_e, ↓reduceIte, eq_self, not_true_eq_false, not_false_eq_true, nz_1, nz_m1, nz_m2, nz_m3, nz_m4, nz_m5, nz_m6, nz_m7, nz_m8, nz_m9, nl_m1, nl_m2, nl_m3, nl_m4, nl_m5, nl_m6, nl_m7, nl_m8, nl_m9, opB, opM, ceB, thB, thM, rfB rwd1, rfM rwd1, rlB rwd1, rlM rwd1]
          exact ⟨_, _, _, _, rfl, rfl, trivial, rfl⟩
      · simp only [f_X9_turned, f_X10_turned, f_X9_turned_L46, f_X10_turned_L27, f_X10_turned_L67, hp, isLot_t LM (by decide) (by decide) hl, isBidder_f ha, ob_s, ov_s, lt_e, ↓reduceIte, eq_self, not_true_eq_false, not_false_eq_true, nz_1, nz_m1, nz_m2, nz_m3, nz_m4, nz_m5, nz_m6, nz_m7, nz_m8, nz_m9, nl_m1, nl_m2, nl_m3, nl_m4, nl_m5, nl_m6, nl_m7, nl_m8, nl_m9, opB, opM, ceB, thB, thM, rfB rwd1, rfM rwd1, rlB rwd1, rlM rwd1]
        exact ⟨_, _, _, _, rfl, rfl, trivial, rfl⟩
    · simp only [f_X9_turned, f_X10_turned, f_X9_turned_L46, f_X10_turned_L27, f_X10_turned_L67, hp, isLot_f LM (by decide) (by decide) hl, ob_s, ov_s, lt_e, ↓reduceIte, eq_self, not_true_eq_false, not_false_eq_true, nz_1, nz_m1, nz_m2, nz_m3, nz_m4, nz_m5, nz_m6, nz_m7, nz_m8, nz_m9, nl_m1, nl_m2, nl_m3, nl_m4, nl_m5, nl_m6, nl_m7, nl_m8, nl_m9, opB, opM, ceB, thB, thM, rfB rwd1, rfM rwd1, rlB rwd1, rlM rwd1]
      exact ⟨_, _, _, _, rfl, rfl, trivial, rfl⟩
theorem q_ring (l b : Int32) : P1 (f_X9_ring l b uB0) (f_X10_ring l b uM0) := by
  by_cases h : rg 8 b ∧ rg 1 l
  · simp only [f_X9_ring, f_X10_ring, f_X10_ring_L15, noBid_t LB i1le h, isBidder_t h.1, isLot_t LM (by decide) (by decide) h.2, oi_in (show 48 < 2 ^ 31 by decide) (rgB h.1 h.2), oi_in (show 48 < 2 ^ 31 by decide) (rgM h.1 h.2), ob_s, ov_s, lt_e, ↓reduceIte, eq_self, not_true_eq_false, not_false_eq_true, nz_1, nz_m1, nz_m2, nz_m3, nz_m4, nz_m5, nz_m6, nz_m7, nz_m8, nz_m9, nl_m1, nl_m2, nl_m3, nl_m4, nl_m5, nl_m6, nl_m7, nl_m8, nl_m9, opB, opM, ceB, thB, thM, rfB rwd5, rfM rwd5, rlB rwd5, rlM rwd5]
    exact ⟨_, _, _, _, rfl, rfl, trivial, rfl⟩
  · by_cases hl : rg 1 l
    · simp only [f_X9_ring, f_X10_ring, f_X10_ring_L15, noBid_f LB i1le h, isLot_t LM (by decide) (by decide) hl, isBidder_f (fun hb => h ⟨hb, hl⟩), ob_s, ov_s, lt_e, ↓reduceIte, eq_self, not_true_eq_false, not_false_eq_true, nz_1, nz_m1, nz_m2, nz_m3, nz_m4, nz_m5, nz_m6, nz_m7, nz_m8, nz_m9, nl_m1, nl_m2, nl_m3, nl_m4, nl_m5, nl_m6, nl_m7, nl_m8, nl_m9, opB, opM, ceB, thB, thM, rfB rwd1, rfM rwd1, rlB rwd1, rlM rwd1]
      exact ⟨_, _, _, _, rfl, rfl, trivial, rfl⟩
    · simp only [f_X9_ring, f_X10_ring, f_X10_ring_L15, noBid_f LB i1le h, isLot_f LM (by decide) (by decide) hl, ob_s, ov_s, lt_e, ↓reduceIte, eq_self, not_true_eq_false, not_false_eq_true, nz_1, nz_m1, nz_m2, nz_m3, nz_m4, nz_m5, nz_m6, nz_m7, nz_m8, nz_m9, nl_m1, nl_m2, nl_m3, nl_m4, nl_m5, nl_m6, nl_m7, nl_m8, nl_m9, opB, opM, ceB, thB, thM, rfB rwd1, rfM rwd1, rlB rwd1, rlM rwd1]
      exact ⟨_, _, _, _, rfl, rfl, trivial, rfl⟩
theorem moEq : gA uB0 20 = flF 8 6 := rfl
theorem moM (i : Nat) (h : i < 8) : gA uM0 16 i = 6 := by
  show fG 0 8 6 _ i = 6
  simp [fG, h]
theorem moB (i : Nat) (h : i < 8) : gA uB0 20 i = 6 := by
  show flF 8 6 i = 6
  simp [flF, h]
theorem rg_cl {n : Nat} {x : Int32} (hn : n < 2 ^ 31) (h : rg n x) : x.toNatClampNeg < n := by
  obtain ⟨i, hi, rfl⟩ := h
  rw [nI_clamp (by omega)]; exact hi
theorem q_most (b v : Int32) : P1 (f_X9_most b v uB0) (f_X10_most b v uM0) := by
  by_cases hb : rg 8 b
  · by_cases h1 : (0 : Int32) ≤ v
    · by_cases h2 : v ≤ (6 : Int32)
      · simp only [f_X9_most, f_X10_most, f_X9_inRange, noBidder_t hb, isBidder_t hb, h1, h2, oi_in (show 8 < 2 ^ 31 by decide) hb, moB _ (rg_cl (by decide) hb), moM _ (rg_cl (by decide) hb), ob_s, ov_s, lt_e, ↓reduceIte, eq_self, not_true_eq_false, not_false_eq_true, nz_1, nz_m1, nz_m2, nz_m3, nz_m4, nz_m5, nz_m6, nz_m7, nz_m8, nz_m9, nl_m1, nl_m2, nl_m3, nl_m4, nl_m5, nl_m6, nl_m7, nl_m8, nl_m9, opB, opM, ceB, thB, thM]
        exact ⟨_, _, _, _, rfl, rfl, trivial, rfl⟩
      · simp only [f_X9_most, f_X10_most, f_X9_inRange, noBidder_t hb, isBidder_t hb, h1, h2, ob_s, ov_s, lt_e, ↓reduceIte, eq_self, not_true_eq_false, not_false_eq_true, nz_1, nz_m1, nz_m2, nz_m3, nz_m4, nz_m5, nz_m6, nz_m7, nz_m8, nz_m9, nl_m1, nl_m2, nl_m3, nl_m4, nl_m5, nl_m6, nl_m7, nl_m8, nl_m9, opB, opM, ceB, thB, thM, rfB rwd6, rfM rwd6, rlB rwd6, rlM rwd6]
        exact ⟨_, _, _, _, rfl, rfl, trivial, rfl⟩
    · simp only [f_X9_most, f_X10_most, f_X9_inRange, noBidder_t hb, isBidder_t hb, h1, ob_s, ov_s, lt_e, ↓reduceIte, eq_self, not_true_eq_false, not_false_eq_true, nz_1, nz_m1, nz_m2, nz_m3, nz_m4, nz_m5, nz_m6, nz_m7, nz_m8, nz_m9, nl_m1, nl_m2, nl_m3, nl_m4, nl_m5, nl_m6, nl_m7, nl_m8, nl_m9, opB, opM, ceB, thB, thM, rfB rwd4, rfM rwd4, rlB rwd4, rlM rwd4]
      exact ⟨_, _, _, _, rfl, rfl, trivial, rfl⟩
  · simp only [f_X9_most, f_X10_most, f_X9_inRange, noBidder_f hb, isBidder_f hb, ob_s, ov_s, lt_e, ↓reduceIte, eq_self, not_true_eq_false, not_false_eq_true, nz_1, nz_m1, nz_m2, nz_m3, nz_m4, nz_m5, nz_m6, nz_m7, nz_m8, nz_m9, nl_m1, nl_m2, nl_m3, nl_m4, nl_m5, nl_m6, nl_m7, nl_m8, nl_m9, opB, opM, ceB, thB, thM, rfB rwd1, rfM rwd1, rlB rwd1, rlM rwd1]
    exact ⟨_, _, _, _, rfl, rfl, trivial, rfl⟩
theorem reB (i : Nat) : gA uB0 22 i = 0 := rfl
theorem reM (i : Nat) : gA uM0 17 i = 0 := rfl
theorem q_rebate (b m v : Int32) : P1 (f_X9_rebate b m v uB0) (f_X10_rebate b m v uM0) := by
  by_cases hb : rg 8 b
  · by_cases h1 : m < (1 : Int32)
    · simp only [f_X9_rebate, f_X10_rebate, f_X9_rebate_L22, f_X9_rebate_L41, f_X10_rebate_L22, f_X10_rebate_L41, f_X8_putRebate, noBidder_t hb, isBidder_t hb, h1, ob_s, ov_s, lt_e, ↓reduceIte, eq_self, not_true_eq_false, not_false_eq_true, nz_1, nz_m1, nz_m2, nz_m3, nz_m4, nz_m5, nz_m6, nz_m7, nz_m8, nz_m9, nl_m1, nl_m2, nl_m3, nl_m4, nl_m5, nl_m6, nl_m7, nl_m8, nl_m9, opB, opM, ceB, thB, thM, rfB rwd4, rfM rwd4, rlB rwd4, rlM rwd4]
      exact ⟨_, _, _, _, rfl, rfl, trivial, rfl⟩
    · by_cases h2 : (0 : Int32) ≤ v
      · by_cases h3 : (6 : Int32) < m
        · simp only [f_X9_rebate, f_X10_rebate, f_X9_rebate_L22, f_X9_rebate_L41, f_X10_rebate_L22, f_X10_rebate_L41, f_X8_putRebate, noBidder_t hb, isBidder_t hb, h1, h2, h3, ob_s, ov_s, lt_e, ↓reduceIte, eq_self, not_true_eq_false, not_false_eq_true, nz_1, nz_m1, nz_m2, nz_m3, nz_m4, nz_m5, nz_m6, nz_m7, nz_m8, nz_m9, nl_m1, nl_m2, nl_m3, nl_m4, nl_m5, nl_m6, nl_m7, nl_m8, nl_m9, opB, opM, ceB, thB, thM, rfB rwd6, rfM rwd6, rlB rwd6, rlM rwd6]
          exact ⟨_, _, _, _, rfl, rfl, trivial, rfl⟩
        · by_cases h4 : v ≤ (50 : Int32)
          · have hm : rg 7 m := rg_mk (by decide) (fun z => h1 (Int32.lt_trans z (by decide))) ((le_nI (n := 6) (by decide)).mp (Int32.not_lt.mp h3))
            obtain ⟨g1, g2⟩ := br7 hb hm
            simp only [f_X9_rebate, f_X10_rebate, f_X9_rebate_L22, f_X9_rebate_L41, f_X10_rebate_L22, f_X10_rebate_L41, f_X8_putRebate, noBidder_t hb, isBidder_t hb, h1, h2, h3, h4, oi_in (show 56 < 2 ^ 31 by decide) g1, oi_in (show 56 < 2 ^ 31 by decide) g2, reB, reM, ob_s, ov_s, lt_e, ↓reduceIte, eq_self, not_true_eq_false, not_false_eq_true, nz_1, nz_m1, nz_m2, nz_m3, nz_m4, nz_m5, nz_m6, nz_m7, nz_m8, nz_m9, nl_m1, nl_m2, nl_m3, nl_m4, nl_m5, nl_m6, nl_m7, nl_m8, nl_m9, opB, opM, ceB, thB, thM]
            exact ⟨_, _, _, _, rfl, rfl, trivial, rfl⟩
          · simp only [f_X9_rebate, f_X10_rebate, f_X9_rebate_L22, f_X9_rebate_L41, f_X10_rebate_L22, f_X10_rebate_L41, f_X8_putRebate, noBidder_t hb, isBidder_t hb, h1, h2, h3, h4, ob_s, ov_s, lt_e, ↓reduceIte, eq_self, not_true_eq_false, not_false_eq_true, nz_1, nz_m1, nz_m2, nz_m3, nz_m4, nz_m5, nz_m6, nz_m7, nz_m8, nz_m9, nl_m1, nl_m2, nl_m3, nl_m4, nl_m5, nl_m6, nl_m7, nl_m8, nl_m9, opB, opM, ceB, thB, thM, rfB rwd6, rfM rwd6, rlB rwd6, rlM rwd6]
            exact ⟨_, _, _, _, rfl, rfl, trivial, rfl⟩
      · simp only [f_X9_rebate, f_X10_rebate, f_X9_rebate_L22, f_X9_rebate_L41, f_X10_rebate_L22, f_X10_rebate_L41, f_X8_putRebate, noBidder_t hb, isBidder_t hb, h1, h2, ob_s, ov_s, lt_e, ↓reduceIte, eq_self, not_true_eq_false, not_false_eq_true, nz_1, nz_m1, nz_m2, nz_m3, nz_m4, nz_m5, nz_m6, nz_m7, nz_m8, nz_m9, nl_m1, nl_m2, nl_m3, nl_m4, nl_m5, nl_m6, nl_m7, nl_m8, nl_m9, opB, opM, ceB, thB, thM, rfB rwd4, rfM rwd4, rlB rwd4, rlM rwd4]
        exact ⟨_, _, _, _, rfl, rfl, trivial, rfl⟩
  · simp only [f_X9_rebate, f_X10_rebate, f_X9_rebate_L22, f_X9_rebate_L41, f_X10_rebate_L22, f_X10_rebate_L41, f_X8_putRebate, noBidder_f hb, isBidder_f hb, ob_s, ov_s, lt_e, ↓reduceIte, eq_self, not_true_eq_false, not_false_eq_true, nz_1, nz_m1, nz_m2, nz_m3, nz_m4, nz_m5, nz_m6, nz_m7, nz_m8, nz_m9, nl_m1, nl_m2, nl_m3, nl_m4, nl_m5, nl_m6, nl_m7, nl_m8, nl_m9, opB, opM, ceB, thB, thM, rfB rwd1, rfM rwd1, rlB rwd1, rlM rwd1]
    exact ⟨_, _, _, _, rfl, rfl, trivial, rfl⟩
theorem q_whole (w : Int32) : P1 (f_X9_whole w uB0) (f_X10_whole w uM0) := by
  by_cases hw : rg 2 w
  · have h4 : w ≤ (1 : Int32) := (le_nI (n := 1) (by decide)).mpr (rg_hi (n := 2) (by decide) hw)
    have hlo : ¬ w < 0 := rg_lo (by decide) hw
    simp only [f_X9_whole, f_X10_whole, f_X9_whole_L9, hlo, h4, in_t (n := 1) (by decide) (show (1 : Int32) = nI 1 by decide) hw, ob_s, ov_s, lt_e, ↓reduceIte, eq_self, not_true_eq_false, not_false_eq_true, nz_1, nz_m1, nz_m2, nz_m3, nz_m4, nz_m5, nz_m6, nz_m7, nz_m8, nz_m9, nl_m1, nl_m2, nl_m3, nl_m4, nl_m5, nl_m6, nl_m7, nl_m8, nl_m9, opB, opM, ceB, thB, thM, rfB rwd3, rfM rwd3, rlB rwd3, rlM rwd3]
    exact ⟨_, _, _, _, rfl, rfl, trivial, rfl⟩
  · by_cases h1 : w < 0
    · simp only [f_X9_whole, f_X10_whole, f_X9_whole_L9, h1, in_f (n := 1) (by decide) (show (1 : Int32) = nI 1 by decide) hw, ob_s, ov_s, lt_e, ↓reduceIte, eq_self, not_true_eq_false, not_false_eq_true, nz_1, nz_m1, nz_m2, nz_m3, nz_m4, nz_m5, nz_m6, nz_m7, nz_m8, nz_m9, nl_m1, nl_m2, nl_m3, nl_m4, nl_m5, nl_m6, nl_m7, nl_m8, nl_m9, opB, opM, ceB, thB, thM, rfB rwd2, rfM rwd2, rlB rwd2, rlM rwd2]
      exact ⟨_, _, _, _, rfl, rfl, trivial, rfl⟩
    · have h4 : ¬ w ≤ (1 : Int32) := fun z => hw (rg_mk (n := 2) (by decide) h1 ((le_nI (n := 1) (by decide)).mp z))
      simp only [f_X9_whole, f_X10_whole, f_X9_whole_L9, h1, h4, in_f (n := 1) (by decide) (show (1 : Int32) = nI 1 by decide) hw, ob_s, ov_s, lt_e, ↓reduceIte, eq_self, not_true_eq_false, not_false_eq_true, nz_1, nz_m1, nz_m2, nz_m3, nz_m4, nz_m5, nz_m6, nz_m7, nz_m8, nz_m9, nl_m1, nl_m2, nl_m3, nl_m4, nl_m5, nl_m6, nl_m7, nl_m8, nl_m9, opB, opM, ceB, thB, thM, rfB rwd2, rfM rwd2, rlB rwd2, rlM rwd2]
      exact ⟨_, _, _, _, rfl, rfl, trivial, rfl⟩
theorem q_award (w : Int32) : P1 (f_X9_award w uB0) (f_X10_award w uM0) := by
  by_cases hw : rg 2 w
  · have h4 : w ≤ (1 : Int32) := (le_nI (n := 1) (by decide)).mpr (rg_hi (n := 2) (by decide) hw)
    have hlo : ¬ w < 0 := rg_lo (by decide) hw
    simp only [f_X9_award, f_X10_award, f_X9_award_L9, f_X9_award_L36, f_X10_award_L30, hlo, h4, in_t (n := 1) (by decide) (show (1 : Int32) = nI 1 by decide) hw, ob_s, ov_s, lt_e, ↓reduceIte, eq_self, not_true_eq_false, not_false_eq_true, nz_1, nz_m1, nz_m2, nz_m3, nz_m4, nz_m5, nz_m6, nz_m7, nz_m8, nz_m9, nl_m1, nl_m2, nl_m3, nl_m4, nl_m5, nl_m6, nl_m7, nl_m8, nl_m9, opB, opM, ceB, thB, thM, rfB rwd3, rfM rwd3, rlB rwd3, rlM rwd3]
    exact ⟨_, _, _, _, rfl, rfl, trivial, rfl⟩
  · by_cases h1 : w < 0
    · simp only [f_X9_award, f_X10_award, f_X9_award_L9, f_X9_award_L36, f_X10_award_L30, h1, in_f (n := 1) (by decide) (show (1 : Int32) = nI 1 by decide) hw, ob_s, ov_s, lt_e, ↓reduceIte, eq_self, not_true_eq_false, not_false_eq_true, nz_1, nz_m1, nz_m2, nz_m3, nz_m4, nz_m5, nz_m6, nz_m7, nz_m8, nz_m9, nl_m1, nl_m2, nl_m3, nl_m4, nl_m5, nl_m6, nl_m7, nl_m8, nl_m9, opB, opM, ceB, thB, thM, rfB rwd2, rfM rwd2, rlB rwd2, rlM rwd2]
      exact ⟨_, _, _, _, rfl, rfl, trivial, rfl⟩
    · have h4 : ¬ w ≤ (1 : Int32) := fun z => hw (rg_mk (n := 2) (by decide) h1 ((le_nI (n := 1) (by decide)).mp z))
      simp only [f_X9_award, f_X10_award, f_X9_award_L9, f_X9_award_L36, f_X10_award_L30, h1, h4, in_f (n := 1) (by decide) (show (1 : Int32) = nI 1 by decide) hw, ob_s, ov_s, lt_e, ↓reduceIte, eq_self, not_true_eq_false, not_false_eq_true, nz_1, nz_m1, nz_m2, nz_m3, nz_m4, nz_m5, nz_m6, nz_m7, nz_m8, nz_m9, nl_m1, nl_m2, nl_m3, nl_m4, nl_m5, nl_m6, nl_m7, nl_m8, nl_m9, opB, opM, ceB, thB, thM, rfB rwd2, rfM rwd2, rlB rwd2, rlM rwd2]
      exact ⟨_, _, _, _, rfl, rfl, trivial, rfl⟩
theorem z15 : gI uB0 15 = 0 := rfl
theorem z16 : gI uB0 16 = 0 := rfl
theorem z17 : gI uB0 17 = 0 := rfl
theorem y22 : gI uM0 22 = 0 := rfl
theorem y23 : gI uM0 23 = 0 := rfl
theorem y25 : gI uM0 25 = 0 := rfl
theorem q_winner (l : Int32) : P1 (f_X9_winner l uB0) (f_X10_winner l uM0) := by
  by_cases hl : rg 1 l
  · simp only [f_X9_winner, f_X10_winner, z15, y22, noLot_t LB i1le hl, isLot_t LM (by decide) (by decide) hl, ob_s, ov_s, lt_e, ↓reduceIte, eq_self, not_true_eq_false, not_false_eq_true, nz_1, nz_m1, nz_m2, nz_m3, nz_m4, nz_m5, nz_m6, nz_m7, nz_m8, nz_m9, nl_m1, nl_m2, nl_m3, nl_m4, nl_m5, nl_m6, nl_m7, nl_m8, nl_m9, opB, opM, ceB, thB, thM, rfB rwd3, rfM rwd3, rlB rwd3, rlM rwd3]
    exact ⟨_, _, _, _, rfl, rfl, trivial, rfl⟩
  · simp only [f_X9_winner, f_X10_winner, z15, y22, noLot_f LB i1le hl, isLot_f LM (by decide) (by decide) hl, ob_s, ov_s, lt_e, ↓reduceIte, eq_self, not_true_eq_false, not_false_eq_true, nz_1, nz_m1, nz_m2, nz_m3, nz_m4, nz_m5, nz_m6, nz_m7, nz_m8, nz_m9, nl_m1, nl_m2, nl_m3, nl_m4, nl_m5, nl_m6, nl_m7, nl_m8, nl_m9, opB, opM, ceB, thB, thM, rfB rwd1, rfM rwd1, rlB rwd1, rlM rwd1]
    exact ⟨_, _, _, _, rfl, rfl, trivial, rfl⟩
theorem q_awarded (l : Int32) : P1 (f_X9_awarded l uB0) (f_X10_awarded l uM0) := by
  by_cases hl : rg 1 l
  · simp only [f_X9_awarded, f_X10_awarded, z15, y22, noLot_t LB i1le hl, isLot_t LM (by decide) (by decide) hl, ob_s, ov_s, lt_e, ↓reduceIte, eq_self, not_true_eq_false, not_false_eq_true, nz_1, nz_m1, nz_m2, nz_m3, nz_m4, nz_m5, nz_m6, nz_m7, nz_m8, nz_m9, nl_m1, nl_m2, nl_m3, nl_m4, nl_m5, nl_m6, nl_m7, nl_m8, nl_m9, opB, opM, ceB, thB, thM, rfB rwd3, rfM rwd3, rlB rwd3, rlM rwd3]
    exact ⟨_, _, _, _, rfl, rfl, trivial, rfl⟩
  · simp only [f_X9_awarded, f_X10_awarded, z15, y22, noLot_f LB i1le hl, isLot_f LM (by decide) (by decide) hl, ob_s, ov_s, lt_e, ↓reduceIte, eq_self, not_true_eq_false, not_false_eq_true, nz_1, nz_m1, nz_m2, nz_m3, nz_m4, nz_m5, nz_m6, nz_m7, nz_m8, nz_m9, nl_m1, nl_m2, nl_m3, nl_m4, nl_m5, nl_m6, nl_m7, nl_m8, nl_m9, opB, opM, ceB, thB, thM, rfB rwd1, rfM rwd1, rlB rwd1, rlM rwd1]
    exact ⟨_, _, _, _, rfl, rfl, trivial, rfl⟩
theorem q_challenge (l w : Int32) : P1 (f_X9_challenge l w uB0) (f_X10_challenge l w uM0) := by
  by_cases hl : rg 1 l
  · by_cases hw : rg 3 w
    · have h4 : w < (3 : Int32) := rg_hi (n := 3) (by decide) hw
      have hlo : ¬ w < 0 := rg_lo (by decide) hw
      simp only [f_X9_challenge, f_X10_challenge, f_X9_challenge_L23, f_X9_challenge_L67, f_X10_challenge_L55, z15, y22, noLot_t LB i1le hl, isLot_t LM (by decide) (by decide) hl, hlo, h4, in_t (n := 2) (by decide) (show (2 : Int32) = nI 2 by decide) hw, ob_s, ov_s, lt_e, ↓reduceIte, eq_self, not_true_eq_false, not_false_eq_true, nz_1, nz_m1, nz_m2, nz_m3, nz_m4, nz_m5, nz_m6, nz_m7, nz_m8, nz_m9, nl_m1, nl_m2, nl_m3, nl_m4, nl_m5, nl_m6, nl_m7, nl_m8, nl_m9, opB, opM, ceB, thB, thM, rfB rwd3, rfM rwd3, rlB rwd3, rlM rwd3]
      exact ⟨_, _, _, _, rfl, rfl, trivial, rfl⟩
    · by_cases h1 : w < 0
      · simp only [f_X9_challenge, f_X10_challenge, f_X9_challenge_L23, f_X9_challenge_L67, f_X10_challenge_L55, z15, y22, noLot_t LB i1le hl, isLot_t LM (by decide) (by decide) hl, h1, in_f (n := 2) (by decide) (show (2 : Int32) = nI 2 by decide) hw, ob_s, ov_s, lt_e, ↓reduceIte, eq_self, not_true_eq_false, not_false_eq_true, nz_1, nz_m1, nz_m2, nz_m3, nz_m4, nz_m5, nz_m6, nz_m7, nz_m8, nz_m9, nl_m1, nl_m2, nl_m3, nl_m4, nl_m5, nl_m6, nl_m7, nl_m8, nl_m9, opB, opM, ceB, thB, thM, rfB rwd2, rfM rwd2, rlB rwd2, rlM rwd2]
        exact ⟨_, _, _, _, rfl, rfl, trivial, rfl⟩
      · have h4 : ¬ w < (3 : Int32) := fun z => hw (rg_mk (n := 3) (by decide) h1 z)
        simp only [f_X9_challenge, f_X10_challenge, f_X9_challenge_L23, f_X9_challenge_L67, f_X10_challenge_L55, z15, y22, noLot_t LB i1le hl, isLot_t LM (by decide) (by decide) hl, h1, h4, in_f (n := 2) (by decide) (show (2 : Int32) = nI 2 by decide) hw, ob_s, ov_s, lt_e, ↓reduceIte, eq_self, not_true_eq_false, not_false_eq_true, nz_1, nz_m1, nz_m2, nz_m3, nz_m4, nz_m5, nz_m6, nz_m7, nz_m8, nz_m9, nl_m1, nl_m2, nl_m3, nl_m4, nl_m5, nl_m6, nl_m7, nl_m8, nl_m9, opB, opM, ceB, thB, thM, rfB rwd2, rfM rwd2, rlB rwd2, rlM rwd2]
        exact ⟨_, _, _, _, rfl, rfl, trivial, rfl⟩
  · simp only [f_X9_challenge, f_X10_challenge, f_X9_challenge_L23, f_X9_challenge_L67, f_X10_challenge_L55, z15, y22, noLot_f LB i1le hl, isLot_f LM (by decide) (by decide) hl, ob_s, ov_s, lt_e, ↓reduceIte, eq_self, not_true_eq_false, not_false_eq_true, nz_1, nz_m1, nz_m2, nz_m3, nz_m4, nz_m5, nz_m6, nz_m7, nz_m8, nz_m9, nl_m1, nl_m2, nl_m3, nl_m4, nl_m5, nl_m6, nl_m7, nl_m8, nl_m9, opB, opM, ceB, thB, thM, rfB rwd1, rfM rwd1, rlB rwd1, rlM rwd1]
    exact ⟨_, _, _, _, rfl, rfl, trivial, rfl⟩
theorem q_judge (c w : Int32) : P1 (f_X9_judge c w uB0) (f_X10_judge c w uM0) := by
  have e6 : (0 : Int32) - 1 = -1 := by decide
  by_cases h1 : c < 0
  · simp only [f_X9_judge, f_X10_judge, f_X9_judge_L15, f_X10_in, z17, y25, e6, h1, ob_s, ov_s, lt_e, ↓reduceIte, eq_self, not_true_eq_false, not_false_eq_true, nz_1, nz_m1, nz_m2, nz_m3, nz_m4, nz_m5, nz_m6, nz_m7, nz_m8, nz_m9, nl_m1, nl_m2, nl_m3, nl_m4, nl_m5, nl_m6, nl_m7, nl_m8, nl_m9, opB, opM, ceB, thB, thM, rfB rwd1, rfM rwd1, rlB rwd1, rlM rwd1]
    exact ⟨_, _, _, _, rfl, rfl, trivial, rfl⟩
  · have h2 : (-1 : Int32) < c := Int32.not_le.mp (fun z => h1 (Int32.lt_of_le_of_lt z (by decide)))
    simp only [f_X9_judge, f_X10_judge, f_X9_judge_L15, f_X10_in, z17, y25, e6, h1, h2, ob_s, ov_s, lt_e, ↓reduceIte, eq_self, not_true_eq_false, not_false_eq_true, nz_1, nz_m1, nz_m2, nz_m3, nz_m4, nz_m5, nz_m6, nz_m7, nz_m8, nz_m9, nl_m1, nl_m2, nl_m3, nl_m4, nl_m5, nl_m6, nl_m7, nl_m8, nl_m9, opB, opM, ceB, thB, thM, rfB rwd1, rfM rwd1, rlB rwd1, rlM rwd1]
    exact ⟨_, _, _, _, rfl, rfl, trivial, rfl⟩
theorem q_sign : P1 (f_X9_sign uB0) (f_X10_sign uM0) := by
  simp only [f_X9_sign, f_X10_sign, f_X9_sign_L47, f_X10_sign_L32, z15, y22, ob_s, ov_s, lt_e, ↓reduceIte, eq_self, not_true_eq_false, not_false_eq_true, nz_1, nz_m1, nz_m2, nz_m3, nz_m4, nz_m5, nz_m6, nz_m7, nz_m8, nz_m9, nl_m1, nl_m2, nl_m3, nl_m4, nl_m5, nl_m6, nl_m7, nl_m8, nl_m9, opB, opM, ceB, thB, thM, rfB rwd3, rfM rwd3, rlB rwd3, rlM rwd3]
  exact ⟨_, _, _, _, rfl, rfl, trivial, rfl⟩
theorem q_change (l w : Int32) : P1 (f_X9_change l w uB0) (f_X10_change l w uM0) := by
  by_cases hl : rg 1 l
  · simp only [f_X9_change, f_X10_change, f_X9_change_L38, f_X10_change_L30, z16, y23, noLot_t LB i1le hl, isLot_t LM (by decide) (by decide) hl, ob_s, ov_s, lt_e, ↓reduceIte, eq_self, not_true_eq_false, not_false_eq_true, nz_1, nz_m1, nz_m2, nz_m3, nz_m4, nz_m5, nz_m6, nz_m7, nz_m8, nz_m9, nl_m1, nl_m2, nl_m3, nl_m4, nl_m5, nl_m6, nl_m7, nl_m8, nl_m9, opB, opM, ceB, thB, thM, rfB rwd3, rfM rwd3, rlB rwd3, rlM rwd3]
    exact ⟨_, _, _, _, rfl, rfl, trivial, rfl⟩
  · simp only [f_X9_change, f_X10_change, f_X9_change_L38, f_X10_change_L30, z16, y23, noLot_f LB i1le hl, isLot_f LM (by decide) (by decide) hl, ob_s, ov_s, lt_e, ↓reduceIte, eq_self, not_true_eq_false, not_false_eq_true, nz_1, nz_m1, nz_m2, nz_m3, nz_m4, nz_m5, nz_m6, nz_m7, nz_m8, nz_m9, nl_m1, nl_m2, nl_m3, nl_m4, nl_m5, nl_m6, nl_m7, nl_m8, nl_m9, opB, opM, ceB, thB, thM, rfB rwd1, rfM rwd1, rlB rwd1, rlM rwd1]
    exact ⟨_, _, _, _, rfl, rfl, trivial, rfl⟩
theorem ouB (i : Nat) : gA uB0 4 i = 0 := rfl
theorem asB (i : Nat) : gA uB0 5 i = 0 := rfl
theorem asB2 (x : Int32) (i : Nat) : gA (tZ uB0 4 x 0) 5 i = 0 := rfl
theorem ouM (i : Nat) : gA uM0 6 i = 0 := rfl
theorem asM (i : Nat) (h : i < 48) : gA uM0 7 i = -1 := by
  show fG 0 48 (-1) _ i = -1
  simp [fG, h]
theorem n01 : ¬ (0 : Int32) = 1 := by decide
theorem q_out (b l n : Int32) (hn : n = 0 ∨ n = 1) : P1 (f_X9_out b l n uB0) (f_X10_out b l n uM0) := by
  by_cases h : rg 8 b ∧ rg 1 l
  · rcases hn with hn | hn
    · subst hn
      simp only [f_X9_out, f_X10_out, f_X9_out_L60, f_X10_out_L15, f_X10_out_L85, f_X10_out_L78, f_X10_out_L53, f_X10_out_L48, f_X1_isOutAt, f_X1_clearOut, f_X1_isLapsed, f_X10_isSilent, noBid_t LB i1le h, isBidder_t h.1, isLot_t LM (by decide) (by decide) h.2, oi_in (show 48 < 2 ^ 31 by decide) (rgB h.1 h.2), oi_in (show 48 < 2 ^ 31 by decide) (rgM h.1 h.2), ouB, asB, asB2, ouM, asM _ (rg_cl (by decide) (rgM h.1 h.2)), lt_m1, n01, ob_s, ov_s, lt_e, ↓reduceIte, eq_self, not_true_eq_false, not_false_eq_true, nz_1, nz_m1, nz_m2, nz_m3, nz_m4, nz_m5, nz_m6, nz_m7, nz_m8, nz_m9, nl_m1, nl_m2, nl_m3, nl_m4, nl_m5, nl_m6, nl_m7, nl_m8, nl_m9, opB, opM, ceB, thB, thM]
      exact ⟨_, _, _, _, rfl, rfl, trivial, rfl⟩
    · subst hn
      simp only [f_X9_out, f_X10_out, f_X9_out_L60, f_X10_out_L15, f_X10_out_L85, f_X10_out_L78, f_X10_out_L53, f_X10_out_L48, f_X1_isOutAt, f_X1_clearOut, f_X1_isLapsed, f_X10_isSilent, noBid_t LB i1le h, isBidder_t h.1, isLot_t LM (by decide) (by decide) h.2, oi_in (show 48 < 2 ^ 31 by decide) (rgB h.1 h.2), oi_in (show 48 < 2 ^ 31 by decide) (rgM h.1 h.2), ouB, asB, asB2, ouM, asM _ (rg_cl (by decide) (rgM h.1 h.2)), lt_m1, n01, ob_s, ov_s, lt_e, ↓reduceIte, eq_self, not_true_eq_false, not_false_eq_true, nz_1, nz_m1, nz_m2, nz_m3, nz_m4, nz_m5, nz_m6, nz_m7, nz_m8, nz_m9, nl_m1, nl_m2, nl_m3, nl_m4, nl_m5, nl_m6, nl_m7, nl_m8, nl_m9, opB, opM, ceB, thB, thM]
      exact ⟨_, _, _, _, rfl, rfl, trivial, rfl⟩
  · by_cases hb : rg 8 b
    · simp only [f_X9_out, f_X10_out, f_X9_out_L60, f_X10_out_L15, f_X10_out_L85, f_X10_out_L78, f_X10_out_L53, f_X10_out_L48, f_X1_isOutAt, f_X1_clearOut, f_X1_isLapsed, f_X10_isSilent, noBid_f LB i1le h, isBidder_t hb, isLot_f LM (by decide) (by decide) (fun hl => h ⟨hb, hl⟩), ob_s, ov_s, lt_e, ↓reduceIte, eq_self, not_true_eq_false, not_false_eq_true, nz_1, nz_m1, nz_m2, nz_m3, nz_m4, nz_m5, nz_m6, nz_m7, nz_m8, nz_m9, nl_m1, nl_m2, nl_m3, nl_m4, nl_m5, nl_m6, nl_m7, nl_m8, nl_m9, opB, opM, ceB, thB, thM, rfB rwd1, rfM rwd1, rlB rwd1, rlM rwd1]
      exact ⟨_, _, _, _, rfl, rfl, trivial, rfl⟩
    · simp only [f_X9_out, f_X10_out, f_X9_out_L60, f_X10_out_L15, f_X10_out_L85, f_X10_out_L78, f_X10_out_L53, f_X10_out_L48, f_X1_isOutAt, f_X1_clearOut, f_X1_isLapsed, f_X10_isSilent, noBid_f LB i1le h, isBidder_f hb, ob_s, ov_s, lt_e, ↓reduceIte, eq_self, not_true_eq_false, not_false_eq_true, nz_1, nz_m1, nz_m2, nz_m3, nz_m4, nz_m5, nz_m6, nz_m7, nz_m8, nz_m9, nl_m1, nl_m2, nl_m3, nl_m4, nl_m5, nl_m6, nl_m7, nl_m8, nl_m9, opB, opM, ceB, thB, thM, rfB rwd1, rfM rwd1, rlB rwd1, rlM rwd1]
      exact ⟨_, _, _, _, rfl, rfl, trivial, rfl⟩
theorem FU_s : ∃ n, FU = n + 1 := ⟨599999, rfl⟩
theorem poB (b : Int32) : f_X4_placeOf b uB0 = some (-1, uB0) := by
  unfold f_X4_placeOf
  obtain ⟨n, e⟩ := FU_s
  rw [e]
  show b_X4_placeOf_L2 (f_X4_placeOf_L2 n) b 0 uB0 = _
  unfold b_X4_placeOf_L2
  rw [show gI uB0 21 = 0 from rfl, if_pos le_00]
theorem moMM (b : Int32) : f_X10_memberOf b uM0 = some (-1, uM0) := by
  unfold f_X10_memberOf
  obtain ⟨n, e⟩ := FU_s
  rw [e]
  show b_X10_memberOf_L2 (f_X10_memberOf_L2 n) b 0 uM0 = _
  unfold b_X10_memberOf_L2
  rw [show gI uM0 26 = 0 from rfl, if_pos le_00]
theorem v21 : gI uB0 21 = 0 := rfl
theorem w26 : gI uM0 26 = 0 := rfl
theorem n80 : ¬ (8 : Int32) ≤ 0 := by decide
theorem rg80 : rg 8 (0 : Int32) := ⟨0, by decide, rfl⟩
theorem q_join (b v : Int32) : P1 (f_X9_join b v uB0) (f_X10_join b v uM0) := by
  by_cases hb : rg 8 b
  · by_cases h1 : (1 : Int32) ≤ v
    · by_cases h2 : v ≤ (999 : Int32)
      · simp only [f_X9_join, f_X10_join, f_X9_inRange, f_X4_add, v21, w26, n80, gI_tA, gI_sI, oi_in (show 8 < 2 ^ 31 by decide) rg80, noBidder_t hb, isBidder_t hb, poB, moMM, lt_m1, h1, h2, ob_s, ov_s, lt_e, ↓reduceIte, eq_self, not_true_eq_false, not_false_eq_true, nz_1, nz_m1, nz_m2, nz_m3, nz_m4, nz_m5, nz_m6, nz_m7, nz_m8, nz_m9, nl_m1, nl_m2, nl_m3, nl_m4, nl_m5, nl_m6, nl_m7, nl_m8, nl_m9, opB, opM, ceB, thB, thM]
        exact ⟨_, _, _, _, rfl, rfl, trivial, rfl⟩
      · simp only [f_X9_join, f_X10_join, f_X9_inRange, f_X4_add, v21, w26, n80, gI_tA, gI_sI, oi_in (show 8 < 2 ^ 31 by decide) rg80, noBidder_t hb, isBidder_t hb, poB, moMM, lt_m1, h1, h2, ob_s, ov_s, lt_e, ↓reduceIte, eq_self, not_true_eq_false, not_false_eq_true, nz_1, nz_m1, nz_m2, nz_m3, nz_m4, nz_m5, nz_m6, nz_m7, nz_m8, nz_m9, nl_m1, nl_m2, nl_m3, nl_m4, nl_m5, nl_m6, nl_m7, nl_m8, nl_m9, opB, opM, ceB, thB, thM, rfB rwd6, rfM rwd6, rlB rwd6, rlM rwd6]
        exact ⟨_, _, _, _, rfl, rfl, trivial, rfl⟩
    · simp only [f_X9_join, f_X10_join, f_X9_inRange, f_X4_add, v21, w26, n80, gI_tA, gI_sI, oi_in (show 8 < 2 ^ 31 by decide) rg80, noBidder_t hb, isBidder_t hb, poB, moMM, lt_m1, h1, ob_s, ov_s, lt_e, ↓reduceIte, eq_self, not_true_eq_false, not_false_eq_true, nz_1, nz_m1, nz_m2, nz_m3, nz_m4, nz_m5, nz_m6, nz_m7, nz_m8, nz_m9, nl_m1, nl_m2, nl_m3, nl_m4, nl_m5, nl_m6, nl_m7, nl_m8, nl_m9, opB, opM, ceB, thB, thM, rfB rwd4, rfM rwd4, rlB rwd4, rlM rwd4]
      exact ⟨_, _, _, _, rfl, rfl, trivial, rfl⟩
  · simp only [f_X9_join, f_X10_join, f_X9_inRange, f_X4_add, v21, w26, n80, gI_tA, gI_sI, oi_in (show 8 < 2 ^ 31 by decide) rg80, noBidder_f hb, isBidder_f hb, ob_s, ov_s, lt_e, ↓reduceIte, eq_self, not_true_eq_false, not_false_eq_true, nz_1, nz_m1, nz_m2, nz_m3, nz_m4, nz_m5, nz_m6, nz_m7, nz_m8, nz_m9, nl_m1, nl_m2, nl_m3, nl_m4, nl_m5, nl_m6, nl_m7, nl_m8, nl_m9, opB, opM, ceB, thB, thM, rfB rwd1, rfM rwd1, rlB rwd1, rlM rwd1]
    exact ⟨_, _, _, _, rfl, rfl, trivial, rfl⟩
theorem q_room (b : Int32) : P1 (f_X9_room b uB0) (f_X10_room b uM0) := by
  by_cases hb : rg 8 b
  · simp only [f_X9_room, f_X10_room, noBidder_t hb, isBidder_t hb, poB, moMM, ob_s, ov_s, lt_e, ↓reduceIte, eq_self, not_true_eq_false, not_false_eq_true, nz_1, nz_m1, nz_m2, nz_m3, nz_m4, nz_m5, nz_m6, nz_m7, nz_m8, nz_m9, nl_m1, nl_m2, nl_m3, nl_m4, nl_m5, nl_m6, nl_m7, nl_m8, nl_m9, opB, opM, ceB, thB, thM, rfB rwd3, rfM rwd3, rlB rwd3, rlM rwd3]
    exact ⟨_, _, _, _, rfl, rfl, trivial, rfl⟩
  · simp only [f_X9_room, f_X10_room, noBidder_f hb, isBidder_f hb, ob_s, ov_s, lt_e, ↓reduceIte, eq_self, not_true_eq_false, not_false_eq_true, nz_1, nz_m1, nz_m2, nz_m3, nz_m4, nz_m5, nz_m6, nz_m7, nz_m8, nz_m9, nl_m1, nl_m2, nl_m3, nl_m4, nl_m5, nl_m6, nl_m7, nl_m8, nl_m9, opB, opM, ceB, thB, thM, rfB rwd1, rfM rwd1, rlB rwd1, rlM rwd1]
    exact ⟨_, _, _, _, rfl, rfl, trivial, rfl⟩
theorem v20 : gI uB0 20 = -1 := rfl
theorem w28 : gI uM0 28 = -1 := rfl
theorem q_decline : P1 (f_X9_decline uB0) (f_X10_decline uM0) := by
  simp only [f_X9_decline, f_X10_decline, v20, w28, ob_s, ov_s, lt_e, ↓reduceIte, eq_self, not_true_eq_false, not_false_eq_true, nz_1, nz_m1, nz_m2, nz_m3, nz_m4, nz_m5, nz_m6, nz_m7, nz_m8, nz_m9, nl_m1, nl_m2, nl_m3, nl_m4, nl_m5, nl_m6, nl_m7, nl_m8, nl_m9, opB, opM, ceB, thB, thM, rfB rwd3, rfM rwd3, rlB rwd3, rlM rwd3]
  exact ⟨_, _, _, _, rfl, rfl, trivial, rfl⟩
theorem nwB (a b : Int32) (u : SS) (h : gI u 21 = 0) : f_X4_nextWithRoom a b u = some (-1, u) := by
  unfold f_X4_nextWithRoom
  obtain ⟨n, e⟩ := FU_s
  rw [e]
  show b_X4_nextWithRoom_L5 (f_X4_nextWithRoom_L5 n) b a 0 u = _
  unfold b_X4_nextWithRoom_L5
  rw [h, if_pos le_00]
theorem caM (a : Int32) (u : SS) (h : gI u 26 = 0) : f_X10_call_L38 FU a 1 u = f_X10_call_L90 a u := by
  obtain ⟨n, e⟩ := FU_s
  rw [e]
  show b_X10_call_L38 (f_X10_call_L38 n) a 1 u = _
  unfold b_X10_call_L38
  rw [h, if_pos (by decide)]
theorem l01 : (0 : Int32) < 1 := by decide
theorem q_call (n : Int32) : P1 (f_X9_call n uB0) (f_X10_call n uM0) := by
  by_cases h1 : (1 : Int32) ≤ n
  · by_cases h2 : n ≤ (999 : Int32)
    · have e1 : ∀ a b : Int32, f_X4_nextWithRoom a b (sI uB0 24 n) = some (-1, sI uB0 24 n) := fun a b => nwB a b _ rfl
      have e2 : f_X10_call_L38 FU n 1 (sI (sI uM0 28 (-1)) 30 n) = f_X10_call_L90 n (sI (sI uM0 28 (-1)) 30 n) := caM n _ rfl
      have e3 : gI (sI (sI uM0 28 (-1)) 30 n) 28 = -1 := rfl
      simp only [f_X9_call, f_X10_call, f_X9_inRange, f_X4_beginCall, f_X4_hand, h1, h2, e1, e2, f_X10_call_L90, e3, ob_s, ov_s, lt_e, ↓reduceIte, eq_self, not_true_eq_false, not_false_eq_true, nz_1, nz_m1, nz_m2, nz_m3, nz_m4, nz_m5, nz_m6, nz_m7, nz_m8, nz_m9, nl_m1, nl_m2, nl_m3, nl_m4, nl_m5, nl_m6, nl_m7, nl_m8, nl_m9, opB, opM, ceB, thB, thM]
      exact ⟨_, _, _, _, rfl, rfl, trivial, rfl⟩
    · simp only [f_X9_call, f_X10_call, f_X9_inRange, f_X4_beginCall, f_X4_hand, h1, h2, ob_s, ov_s, lt_e, ↓reduceIte, eq_self, not_true_eq_false, not_false_eq_true, nz_1, nz_m1, nz_m2, nz_m3, nz_m4, nz_m5, nz_m6, nz_m7, nz_m8, nz_m9, nl_m1, nl_m2, nl_m3, nl_m4, nl_m5, nl_m6, nl_m7, nl_m8, nl_m9, opB, opM, ceB, thB, thM, rfB rwd6, rfM rwd6, rlB rwd6, rlM rwd6]
      exact ⟨_, _, _, _, rfl, rfl, trivial, rfl⟩
  · simp only [f_X9_call, f_X10_call, f_X9_inRange, f_X4_beginCall, f_X4_hand, h1, ob_s, ov_s, lt_e, ↓reduceIte, eq_self, not_true_eq_false, not_false_eq_true, nz_1, nz_m1, nz_m2, nz_m3, nz_m4, nz_m5, nz_m6, nz_m7, nz_m8, nz_m9, nl_m1, nl_m2, nl_m3, nl_m4, nl_m5, nl_m6, nl_m7, nl_m8, nl_m9, opB, opM, ceB, thB, thM, rfB rwd4, rfM rwd4, rlB rwd4, rlM rwd4]
    exact ⟨_, _, _, _, rfl, rfl, trivial, rfl⟩
theorem q_count (w : Int32) : P1 (f_X9_count w uB0) (f_X10_count w uM0) := by
  by_cases hw : rg 18 w
  · obtain ⟨i, hi, rfl⟩ := hw
    exact P1_ab (db_count ⟨i, hi⟩) (dm_count ⟨i, hi⟩)
  · have ht : w.toInt < 0 ∨ 17 < w.toInt := by
      rcases rg_or 18 (by decide) w with h | h | h
      · exact absurd h hw
      · exact Or.inl (by have := Int32.lt_iff_toInt_lt.mp h; simpa using this)
      · have h2 := Int32.le_iff_toInt_le.mp h
        rw [nI_toInt (by decide)] at h2
        exact Or.inr (by omega)
    have h9 : w.toInt < 0 ∨ 9 < w.toInt := by omega
    have hB : f_X9_count w uB0 = some (-9, uB0) := by
      unfold f_X9_count f_X9_count_L22
      rw [if_pos h9]
      by_cases a1 : w < (11 : Int32)
      · rw [if_pos a1]
      · rw [if_neg a1]
        have a2 : (17 : Int32) < w := by
          rw [Int32.lt_iff_toInt_lt] at a1 ⊢
          have e1 : (11 : Int32).toInt = 11 := by decide
          have e2 : (17 : Int32).toInt = 17 := by decide
          omega
        rw [if_pos a2]
    have hM : f_X10_count w uM0 = some (-9, uM0) := by
      unfold f_X10_count f_X10_in
      rw [if_pos h9]
      by_cases a1 : w < (11 : Int32)
      · rw [if_pos a1, ob_s, if_pos rfl]
      · rw [if_neg a1]
        have a2 : (17 : Int32) < w := by
          rw [Int32.lt_iff_toInt_lt] at a1 ⊢
          have e1 : (11 : Int32).toInt = 11 := by decide
          have e2 : (17 : Int32).toInt = 17 := by decide
          omega
        rw [if_pos a2, ob_s, if_pos rfl]
    exact ⟨_, _, _, _, hB, hM, trivial, rfl⟩
theorem tkB (n : Nat) (hn : n ≤ 8) : ∀ (k i F : Nat) (z : Int64) (u : SS), n ≤ i + k → i ≤ n → k < F → gI u 5 = nI i → ∃ u', f_X2_take_L6 F (nI n) z (nI i) u = some (nI n, u') := by
  intro k
  induction k with
  | zero =>
    intro i F z u h1 h2 h3 h4
    have e : i = n := by omega
    subst e
    match F, h3 with
    | F + 1, _ =>
      refine ⟨u, ?_⟩
      show b_X2_take_L6 (f_X2_take_L6 F) (nI i) z (nI i) u = _
      unfold b_X2_take_L6
      rw [if_pos (nI_le (Nat.le_refl i) (by omega)), h4]
  | succ k ih =>
    intro i F z u h1 h2 h3 h4
    match F, h3 with
    | F + 1, h3 =>
      by_cases e : i = n
      · subst e
        refine ⟨u, ?_⟩
        show b_X2_take_L6 (f_X2_take_L6 F) (nI i) z (nI i) u = _
        unfold b_X2_take_L6
        rw [if_pos (nI_le (Nat.le_refl i) (by omega)), h4]
      · obtain ⟨u', hu⟩ := ih (i + 1) F ((z.toUInt64 >>> ((8 : Int32).toInt64.toUInt64 &&& Int64.toUInt64 63)).toInt64) (sI (tA u 14 (nI i) ((z &&& (255 : Int64)).toInt32)) 5 (nI i + 1)) (by omega) (by omega) (by omega) (by rw [gI_sI, if_pos rfl]; exact nI_1 i)
        refine ⟨u', ?_⟩
        show b_X2_take_L6 (f_X2_take_L6 F) (nI n) z (nI i) u = _
        unfold b_X2_take_L6
        rw [if_neg (nI_ge (by omega) (by omega)), h4, if_neg (show ¬ (80 : Int32) ≤ nI i from nI_ge (b := 80) (by omega) (by decide)), oi_in (by decide) ⟨i, by omega, rfl⟩, lt_e, lt_e, lt_e, lt_e, gI_tA, h4, nI_1]
        rw [nI_1] at hu
        exact hu
theorem tkM (n : Nat) (hn : n ≤ 8) : ∀ (k i F : Nat) (z : Int64) (u : SS), n ≤ i + k → i ≤ n → k < F → gI u 6 = nI i → ∃ u', f_X10_feed_L39 F (nI n) z (nI i) u = some (nI n, u') := by
  intro k
  induction k with
  | zero =>
    intro i F z u h1 h2 h3 h4
    have e : i = n := by omega
    subst e
    match F, h3 with
    | F + 1, _ =>
      refine ⟨u, ?_⟩
      show b_X10_feed_L39 (f_X10_feed_L39 F) (nI i) z (nI i) u = _
      unfold b_X10_feed_L39
      rw [if_pos (nI_le (Nat.le_refl i) (by omega)), h4]
  | succ k ih =>
    intro i F z u h1 h2 h3 h4
    match F, h3 with
    | F + 1, h3 =>
      by_cases e : i = n
      · subst e
        refine ⟨u, ?_⟩
        show b_X10_feed_L39 (f_X10_feed_L39 F) (nI i) z (nI i) u = _
        unfold b_X10_feed_L39
        rw [if_pos (nI_le (Nat.le_refl i) (by omega)), h4]
      · obtain ⟨u', hu⟩ := ih (i + 1) F z (sI (tA u 12 (nI i) (((z >>> (((8 : Int32) * nI i).toInt64 &&& 63)) &&& (255 : Int64)).toInt32)) 6 (nI i + 1)) (by omega) (by omega) (by omega) (by rw [gI_sI, if_pos rfl]; exact nI_1 i)
        refine ⟨u', ?_⟩
        show b_X10_feed_L39 (f_X10_feed_L39 F) (nI n) z (nI i) u = _
        unfold b_X10_feed_L39
        rw [if_neg (nI_ge (by omega) (by omega)), h4, oi_in (by decide) ⟨i, by omega, rfl⟩, lt_e, lt_e, lt_e, gI_tA, h4, nI_1]
        rw [nI_1] at hu
        exact hu
theorem q_feed (n : Int32) (z : Int64) : P1 (f_X9_feed n z uB0) (f_X10_feed n z uM0) := by
  have e5 : gI uB0 5 = 0 := rfl
  have e6 : gI uM0 6 = 0 := rfl
  by_cases h1 : (1 : Int32) ≤ n
  · by_cases h2 : n ≤ (8 : Int32)
    · obtain ⟨i, hi, rfl⟩ : rg 9 n := rg_mk (by decide) (fun h => Int32.lt_irrefl (Int32.lt_of_lt_of_le h (Int32.le_trans (by decide : (0 : Int32) ≤ 1) h1))) ((le_nI (n := 8) (by decide)).mp h2)
      obtain ⟨u1, hu⟩ := tkB i (by omega) i 0 FU z uB0 (by omega) (by omega) (Nat.lt_trans (by omega) FU_ge) rfl
      obtain ⟨v1, hv⟩ := tkM i (by omega) i 0 FU z uM0 (by omega) (by omega) (Nat.lt_trans (by omega) FU_ge) rfl
      have hu : f_X2_take (nI i) z uB0 = some (nI i, u1) := hu
      have hv : f_X10_feed_L39 FU (nI i) z 0 uM0 = some (nI i, v1) := hv
      have g1 : nI i ≤ (80 : Int32) - 0 := Int32.le_trans h2 (by decide)
      have g2 : (0 : Int32) + nI i ≤ (80 : Int32) := by rw [show (0 : Int32) + nI i = nI i from (nI_add 0 i).trans (congrArg nI (Nat.zero_add i))]; exact Int32.le_trans h2 (by decide)
      have g3 : ¬ (8 : Int32) < nI i := Int32.not_lt.mpr h2
      simp only [f_X9_feed, f_X10_feed, f_X10_feed_L29, f_X9_inRange, e5, e6, h1, h2, g1, g2, g3, hu, hv, ob_s, ov_s, lt_e, ↓reduceIte, eq_self, not_true_eq_false, not_false_eq_true, nz_1, nz_m1, nz_m2, nz_m3, nz_m4, nz_m5, nz_m6, nz_m7, nz_m8, nz_m9, nl_m1, nl_m2, nl_m3, nl_m4, nl_m5, nl_m6, nl_m7, nl_m8, nl_m9, opB, opM, ceB, thB, thM]
      exact ⟨_, _, _, _, rfl, rfl, trivial, rfl⟩
    · have g3 : (8 : Int32) < n := Int32.not_le.mp h2
      simp only [f_X9_feed, f_X10_feed, f_X10_feed_L29, f_X9_inRange, h1, h2, g3, ob_s, ov_s, lt_e, ↓reduceIte, eq_self, not_true_eq_false, not_false_eq_true, nz_1, nz_m1, nz_m2, nz_m3, nz_m4, nz_m5, nz_m6, nz_m7, nz_m8, nz_m9, nl_m1, nl_m2, nl_m3, nl_m4, nl_m5, nl_m6, nl_m7, nl_m8, nl_m9, opB, opM, ceB, thB, thM, rfB rwd6, rfM rwd6, rlB rwd6, rlM rwd6]
      exact ⟨_, _, _, _, rfl, rfl, trivial, rfl⟩
  · simp only [f_X9_feed, f_X10_feed, f_X10_feed_L29, f_X9_inRange, h1, ob_s, ov_s, lt_e, ↓reduceIte, eq_self, not_true_eq_false, not_false_eq_true, nz_1, nz_m1, nz_m2, nz_m3, nz_m4, nz_m5, nz_m6, nz_m7, nz_m8, nz_m9, nl_m1, nl_m2, nl_m3, nl_m4, nl_m5, nl_m6, nl_m7, nl_m8, nl_m9, opB, opM, ceB, thB, thM, rfB rwd4, rfM rwd4, rlB rwd4, rlM rwd4]
    exact ⟨_, _, _, _, rfl, rfl, trivial, rfl⟩
