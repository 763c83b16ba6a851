def P1 {α : Type} (x y : Option (α × SS)) : Prop := ∃ (r : α) (u' : SS) (r2 : α) (v' : SS), x = some (r, u') ∧ y = some (r2, v') ∧ True ∧ r = r2
theorem P1_ab {x y : Option (Int32 × SS)} {r : Int32} (h1 : x.map Prod.fst = some r) (h2 : y.map Prod.fst = some r) : P1 x y := by
  obtain ⟨a, ha⟩ := AB_of h1
  obtain ⟨b, hb⟩ := AB_of h2
  exact ⟨r, a, r, b, ha, hb, trivial, rfl⟩
theorem LB : gI uB0 2 = nI 1 := by decide
theorem LM : gI uM0 2 = nI 1 := by decide
theorem opB : f_X1_isOpen uB0 = some (1, uB0) := rfl
theorem opM : f_X10_isOpen uM0 = some (1, uM0) := rfl
theorem i1le : (1 : Nat) ≤ 6 := by decide
theorem thB (i : Nat) : gA uB0 3 i = 0 := rfl
theorem thM (i : Nat) : gA uM0 1 i = 0 := rfl
theorem stB {x : Int32} (h : rg 48 x) : f_X1_standsAt x uB0 = some (0, uB0) := by
  unfold f_X1_standsAt
  rw [oi_in (by decide) h, if_pos (thB _)]
theorem dsM {x : Int32} (h : rg 48 x) : f_X10_doesStand x uM0 = some (0, uM0) := by
  unfold f_X10_doesStand
  rw [oi_in (by decide) h, if_pos (thM _)]
theorem lkM_t {b l : Int32} (hb : rg 8 b) (hl : rg 1 l) : f_X10_lacks b l uM0 = some (-5, uM0) := by
  unfold f_X10_lacks
  rw [isBidder_t hb, ob_s, if_neg (by decide), isLot_t LM (by decide) (by decide) hl, ob_s, if_neg (by decide)]
  obtain ⟨i, hi, rfl⟩ := hb
  obtain ⟨j, hj, rfl⟩ := hl
  rw [oi_in (by decide) (cellM_rg hi (by omega)), if_pos (thM _)]
theorem lkM_f {b l : Int32} (h : ¬ (rg 8 b ∧ rg 1 l)) : f_X10_lacks b l uM0 = some (-1, uM0) := by
  unfold f_X10_lacks
  by_cases hb : rg 8 b
  · rw [isBidder_t hb, ob_s, if_neg (by decide), isLot_f LM (by decide) (by decide) (fun hl => h ⟨hb, hl⟩), ob_s, if_pos rfl]
  · rw [isBidder_f hb, ob_s, if_pos rfl]
theorem flM_t {b l : Int32} (hb : rg 8 b) (hl : rg 1 l) : f_X10_fails b l uM0 = some (-5, uM0) := by
  unfold f_X10_fails
  rw [lkM_t hb hl, ob_s, if_neg (by decide)]
theorem flM_f {b l : Int32} (h : ¬ (rg 8 b ∧ rg 1 l)) : f_X10_fails b l uM0 = some (-1, uM0) := by
  unfold f_X10_fails
  rw [lkM_f h, ob_s, if_neg (by decide)]
theorem ceB (b l : Int32) (u : SS) : f_X9_cell b l u = some (((b * (6 : Int32)) + l), u) := rfl
theorem rgB {b l : Int32} (hb : rg 8 b) (hl : rg 1 l) : rg 48 ((b * (6 : Int32)) + l) := by
  obtain ⟨i, hi, rfl⟩ := hb
  obtain ⟨j, hj, rfl⟩ := hl
  exact cellB_rg hi (by omega)
theorem rgM {b l : Int32} (hb : rg 8 b) (hl : rg 1 l) : rg 48 (((8 : Int32) * l) + b) := by
  obtain ⟨i, hi, rfl⟩ := hb
  obtain ⟨j, hj, rfl⟩ := hl
  exact cellM_rg hi (by omega)
theorem nz_1 : ¬ (1 : Int32) = 0 := by decide
theorem nz_m1 : ¬ (-1 : Int32) = 0 := by decide
theorem nz_m2 : ¬ (-2 : Int32) = 0 := by decide
theorem nz_m3 : ¬ (-3 : Int32) = 0 := by decide
theorem nz_m4 : ¬ (-4 : Int32) = 0 := by decide
theorem nz_m5 : ¬ (-5 : Int32) = 0 := by decide
theorem nz_m6 : ¬ (-6 : Int32) = 0 := by decide
theorem nz_m7 : ¬ (-7 : Int32) = 0 := by decide
theorem nz_m8 : ¬ (-8 : Int32) = 0 := by decide
theorem nz_m9 : ¬ (-9 : Int32) = 0 := by decide
theorem nl_m1 : ¬ (0 : Int32) ≤ (-1 : Int32) := by decide
theorem nl_m2 : ¬ (0 : Int32) ≤ (-2 : Int32) := by decide
theorem nl_m3 : ¬ (0 : Int32) ≤ (-3 : Int32) := by decide
theorem nl_m4 : ¬ (0 : Int32) ≤ (-4 : Int32) := by decide
theorem nl_m5 : ¬ (0 : Int32) ≤ (-5 : Int32) := by decide
theorem nl_m6 : ¬ (0 : Int32) ≤ (-6 : Int32) := by decide
theorem nl_m7 : ¬ (0 : Int32) ≤ (-7 : Int32) := by decide
theorem nl_m8 : ¬ (0 : Int32) ≤ (-8 : Int32) := by decide
theorem nl_m9 : ¬ (0 : Int32) ≤ (-9 : Int32) := by decide
theorem le_00 : (0 : Int32) ≤ 0 := by decide
theorem lt_m1 : (-1 : Int32) < 0 := by decide
theorem q_time (n : Int32) : P1 (f_X9_time n uB0) (f_X10_time n uM0) := by
  have e1 : gI uB0 0 = 0 := rfl
  have e2 : gI uM0 0 = 0 := rfl
  unfold f_X9_time f_X10_time
  rw [e1, e2]
  by_cases h1 : (1 : Int32) ≤ n
  · by_cases h2 : n ≤ (999999 : Int32) - 0
    · rw [if_pos h1, if_pos h2, if_pos h1, if_pos h2]
      exact ⟨_, _, _, _, rfl, rfl, trivial, rfl⟩
    · rw [if_pos h1, if_neg h2, if_pos h1, if_neg h2, rfB rwd6, rfM rwd6]
      exact ⟨_, _, _, _, rfl, rfl, trivial, rfl⟩
  · rw [if_neg h1, if_neg h1, rfB rwd4, rfM rwd4]
    exact ⟨_, _, _, _, rfl, rfl, trivial, rfl⟩
theorem q_rate (m v : Int32) : P1 (f_X9_rate m v uB0) (f_X10_rate m v uM0) := by
  by_cases h1 : m < 1
  · simp only [f_X9_rate, f_X10_rate, f_X9_rate_L10, f_X10_in, f_X9_inRange, h1, ob_s, ov_s, lt_e, ↓reduceIte, eq_self, not_true_eq_false, not_false_eq_true, nz_1, nz_m1, nz_m2, nz_m3, nz_m4, nz_m5, nz_m6, nz_m7, nz_m8, nz_m9, nl_m1, nl_m2, nl_m3, nl_m4, nl_m5, nl_m6, nl_m7, nl_m8, nl_m9, opB, opM, ceB, thB, thM, rfB rwd1, rfM rwd1, rlB rwd1, rlM rwd1]
    exact ⟨_, _, _, _, rfl, rfl, trivial, rfl⟩
  · by_cases h2 : m < 4
    · have h3 : ¬ (3 : Int32) < m := Int32.not_lt.mpr ((le_nI (n := 3) (by decide)).mpr h2)
      have hm : rg 4 m := rg_mk (by decide) (fun h => h1 (Int32.lt_trans h (by decide))) h2
      by_cases h4 : (1 : Int32) ≤ v
      · by_cases h5 : v ≤ (100000 : Int32)
        · simp only [f_X9_rate, f_X10_rate, f_X9_rate_L10, f_X10_in, f_X9_inRange, h1, h2, h3, h4, h5, oi_in (show 4 < 2 ^ 31 by decide) hm, ob_s, ov_s, lt_e, ↓reduceIte, eq_self, not_true_eq_false, not_false_eq_true, nz_1, nz_m1, nz_m2, nz_m3, nz_m4, nz_m5, nz_m6, nz_m7, nz_m8, nz_m9, nl_m1, nl_m2, nl_m3, nl_m4, nl_m5, nl_m6, nl_m7, nl_m8, nl_m9, opB, opM, ceB, thB, thM]
          exact ⟨_, _, _, _, rfl, rfl, trivial, rfl⟩
        · simp only [f_X9_rate, f_X10_rate, f_X9_rate_L10, f_X10_in, f_X9_inRange, h1, h2, h3, h4, h5, ob_s, ov_s, lt_e, ↓reduceIte, eq_self, not_true_eq_false, not_false_eq_true, nz_1, nz_m1, nz_m2, nz_m3, nz_m4, nz_m5, nz_m6, nz_m7, nz_m8, nz_m9, nl_m1, nl_m2, nl_m3, nl_m4, nl_m5, nl_m6, nl_m7, nl_m8, nl_m9, opB, opM, ceB, thB, thM, rfB rwd6, rfM rwd6, rlB rwd6, rlM rwd6]
          exact ⟨_, _, _, _, rfl, rfl, trivial, rfl⟩
      · simp only [f_X9_rate, f_X10_rate, f_X9_rate_L10, f_X10_in, f_X9_inRange, h1, h2, h3, h4, ob_s, ov_s, lt_e, ↓reduceIte, eq_self, not_true_eq_false, not_false_eq_true, nz_1, nz_m1, nz_m2, nz_m3, nz_m4, nz_m5, nz_m6, nz_m7, nz_m8, nz_m9, nl_m1, nl_m2, nl_m3, nl_m4, nl_m5, nl_m6, nl_m7, nl_m8, nl_m9, opB, opM, ceB, thB, thM, rfB rwd4, rfM rwd4, rlB rwd4, rlM rwd4]
        exact ⟨_, _, _, _, rfl, rfl, trivial, rfl⟩
    · have h3 : (3 : Int32) < m := Int32.not_le.mp (fun h => h2 ((le_nI (n := 3) (by decide)).mp h))
      simp only [f_X9_rate, f_X10_rate, f_X9_rate_L10, f_X10_in, f_X9_inRange, h1, h2, h3, ob_s, ov_s, lt_e, ↓reduceIte, eq_self, not_true_eq_false, not_false_eq_true, nz_1, nz_m1, nz_m2, nz_m3, nz_m4, nz_m5, nz_m6, nz_m7, nz_m8, nz_m9, nl_m1, nl_m2, nl_m3, nl_m4, nl_m5, nl_m6, nl_m7, nl_m8, nl_m9, opB, opM, ceB, thB, thM, rfB rwd1, rfM rwd1, rlB rwd1, rlM rwd1]
      exact ⟨_, _, _, _, rfl, rfl, trivial, rfl⟩
theorem q_lots (n : Int32) : P1 (f_X9_lots n uB0) (f_X10_lots n uM0) := by
  by_cases h1 : (1 : Int32) ≤ n
  · by_cases h2 : n ≤ (6 : Int32)
    · obtain ⟨i, hi, rfl⟩ : rg 7 n := rg_mk (by decide) (fun h => Int32.lt_irrefl (Int32.lt_of_lt_of_le h (Int32.le_trans (by decide : (0 : Int32) ≤ 1) h1))) ((le_nI (n := 6) (by decide)).mp h2)
      have hi1 : 1 ≤ i := by
        rcases Nat.lt_or_ge i 1 with h | h
        · have : i = 0 := by omega
          subst this
          exact absurd h1 (by decide)
        · exact h
      have e : nI i = nI ((⟨i - 1, by omega⟩ : Fin 6).val + 1) := congrArg nI (by show i = i - 1 + 1; omega)
      rw [e]
      exact P1_ab (dl_lots _) (dm_lots _)
    · simp only [f_X9_lots, f_X10_lots, f_X9_inRange, h1, h2, ob_s, ov_s, lt_e, ↓reduceIte, eq_self, not_true_eq_false, not_false_eq_true, nz_1, nz_m1, nz_m2, nz_m3, nz_m4, nz_m5, nz_m6, nz_m7, nz_m8, nz_m9, nl_m1, nl_m2, nl_m3, nl_m4, nl_m5, nl_m6, nl_m7, nl_m8, nl_m9, opB, opM, ceB, thB, thM, rfB rwd6, rfM rwd6, rlB rwd6, rlM rwd6]
      exact ⟨_, _, _, _, rfl, rfl, trivial, rfl⟩
  · simp only [f_X9_lots, f_X10_lots, f_X9_inRange, h1, ob_s, ov_s, lt_e, ↓reduceIte, eq_self, not_true_eq_false, not_false_eq_true, nz_1, nz_m1, nz_m2, nz_m3, nz_m4, nz_m5, nz_m6, nz_m7, nz_m8, nz_m9, nl_m1, nl_m2, nl_m3, nl_m4, nl_m5, nl_m6, nl_m7, nl_m8, nl_m9, opB, opM, ceB, thB, thM, rfB rwd4, rfM rwd4, rlB rwd4, rlM rwd4]
    exact ⟨_, _, _, _, rfl, rfl, trivial, rfl⟩
theorem q_closing (t : Int32) : P1 (f_X9_closing t uB0) (f_X10_closing t uM0) := by
  have e1 : gI uB0 0 = 0 := rfl
  have e2 : gI uM0 0 = 0 := rfl
  have e3 : gI uB0 1 = -1 := rfl
  have e4 : gI uM0 1 = -1 := rfl
  by_cases h1 : (0 : Int32) ≤ t
  · by_cases h2 : t ≤ (999999 : Int32)
    · simp only [f_X9_closing, f_X10_closing, f_X9_inRange, e1, e2, e3, e4, lt_m1, h1, h2, ob_s, ov_s, lt_e, ↓reduceIte, eq_self, not_true_eq_false, not_false_eq_true, nz_1, nz_m1, nz_m2, nz_m3, nz_m4, nz_m5, nz_m6, nz_m7, nz_m8, nz_m9, nl_m1, nl_m2, nl_m3, nl_m4, nl_m5, nl_m6, nl_m7, nl_m8, nl_m9, opB, opM, ceB, thB, thM]
      exact ⟨_, _, _, _, rfl, rfl, trivial, rfl⟩
    · simp only [f_X9_closing, f_X10_closing, f_X9_inRange, e1, e2, e3, e4, lt_m1, h1, h2, ob_s, ov_s, lt_e, ↓reduceIte, eq_self, not_true_eq_false, not_false_eq_true, nz_1, nz_m1, nz_m2, nz_m3, nz_m4, nz_m5, nz_m6, nz_m7, nz_m8, nz_m9, nl_m1, nl_m2, nl_m3, nl_m4, nl_m5, nl_m6, nl_m7, nl_m8, nl_m9, opB, opM, ceB, thB, thM, rfB rwd6, rfM rwd6, rlB rwd6, rlM rwd6]
      exact ⟨_, _, _, _, rfl, rfl, trivial, rfl⟩
  · simp only [f_X9_closing, f_X10_closing, f_X9_inRange, e1, e2, e3, e4, lt_m1, h1, ob_s, ov_s, lt_e, ↓reduceIte, eq_self, not_true_eq_false, not_false_eq_true, nz_1, nz_m1, nz_m2, nz_m3, nz_m4, nz_m5, nz_m6, nz_m7, nz_m8, nz_m9, nl_m1, nl_m2, nl_m3, nl_m4, nl_m5, nl_m6, nl_m7, nl_m8, nl_m9, opB, opM, ceB, thB, thM, rfB rwd4, rfM rwd4, rlB rwd4, rlM rwd4]
    exact ⟨_, _, _, _, rfl, rfl, trivial, rfl⟩
theorem q_withdraw (b : Int32) (l : Int32) : P1 (f_X9_withdraw b l uB0) (f_X10_withdraw b l uM0) := by
  by_cases h : rg 8 b ∧ rg 1 l
  · simp only [f_X9_withdraw, f_X10_withdraw, noBid_t LB i1le h, lkM_t h.1 h.2, oi_in (show 48 < 2 ^ 31 by decide) (rgB h.1 h.2), stB (rgB h.1 h.2), ob_s, ov_s, lt_e, ↓reduceIte, eq_self, not_true_eq_false, not_false_eq_true, nz_1, nz_m1, nz_m2, nz_m3, nz_m4, nz_m5, nz_m6, nz_m7, nz_m8, nz_m9, nl_m1, nl_m2, nl_m3, nl_m4, nl_m5, nl_m6, nl_m7, nl_m8, nl_m9, opB, opM, ceB, thB, thM, rfB rwd5, rfM rwd5, rlB rwd5, rlM rwd5]
    exact ⟨_, _, _, _, rfl, rfl, trivial, rfl⟩
  · simp only [f_X9_withdraw, f_X10_withdraw, noBid_f LB i1le h, lkM_f h, ob_s, ov_s, lt_e, ↓reduceIte, eq_self, not_true_eq_false, not_false_eq_true, nz_1, nz_m1, nz_m2, nz_m3, nz_m4, nz_m5, nz_m6, nz_m7, nz_m8, nz_m9, nl_m1, nl_m2, nl_m3, nl_m4, nl_m5, nl_m6, nl_m7, nl_m8, nl_m9, opB, opM, ceB, thB, thM, rfB rwd1, rfM rwd1, rlB rwd1, rlM rwd1]
    exact ⟨_, _, _, _, rfl, rfl, trivial, rfl⟩
theorem q_price (b : Int32) (l : Int32) : P1 (f_X9_price b l uB0) (f_X10_price b l uM0) := by
  by_cases h : rg 8 b ∧ rg 1 l
  · simp only [f_X9_price, f_X10_price, noBid_t LB i1le h, lkM_t h.1 h.2, oi_in (show 48 < 2 ^ 31 by decide) (rgB h.1 h.2), stB (rgB h.1 h.2), ob_s, ov_s, lt_e, ↓reduceIte, eq_self, not_true_eq_false, not_false_eq_true, nz_1, nz_m1, nz_m2, nz_m3, nz_m4, nz_m5, nz_m6, nz_m7, nz_m8, nz_m9, nl_m1, nl_m2, nl_m3, nl_m4, nl_m5, nl_m6, nl_m7, nl_m8, nl_m9, opB, opM, ceB, thB, thM, rfB rwd5, rfM rwd5, rlB rwd5, rlM rwd5]
    exact ⟨_, _, _, _, rfl, rfl, trivial, rfl⟩
  · simp only [f_X9_price, f_X10_price, noBid_f LB i1le h, lkM_f h, ob_s, ov_s, lt_e, ↓reduceIte, eq_self, not_true_eq_false, not_false_eq_true, nz_1, nz_m1, nz_m2, nz_m3, nz_m4, nz_m5, nz_m6, nz_m7, nz_m8, nz_m9, nl_m1, nl_m2, nl_m3, nl_m4, nl_m5, nl_m6, nl_m7, nl_m8, nl_m9, opB, opM, ceB, thB, thM, rfB rwd1, rfM rwd1, rlB rwd1, rlM rwd1]
    exact ⟨_, _, _, _, rfl, rfl, trivial, rfl⟩
theorem q_low (b : Int32) (l : Int32) : P1 (f_X9_low b l uB0) (f_X10_low b l uM0) := by
  by_cases h : rg 8 b ∧ rg 1 l
  · simp only [f_X9_low, f_X10_low, noBid_t LB i1le h, flM_t h.1 h.2, oi_in (show 48 < 2 ^ 31 by decide) (rgB h.1 h.2), stB (rgB h.1 h.2), ob_s, ov_s, lt_e, ↓reduceIte, eq_self, not_true_eq_false, not_false_eq_true, nz_1, nz_m1, nz_m2, nz_m3, nz_m4, nz_m5, nz_m6, nz_m7, nz_m8, nz_m9, nl_m1, nl_m2, nl_m3, nl_m4, nl_m5, nl_m6, nl_m7, nl_m8, nl_m9, opB, opM, ceB, thB, thM, rfB rwd5, rfM rwd5, rlB rwd5, rlM rwd5]
    exact ⟨_, _, _, _, rfl, rfl, trivial, rfl⟩
  · simp only [f_X9_low, f_X10_low, noBid_f LB i1le h, flM_f h, ob_s, ov_s, lt_e, ↓reduceIte, eq_self, not_true_eq_false, not_false_eq_true, nz_1, nz_m1, nz_m2, nz_m3, nz_m4, nz_m5, nz_m6, nz_m7, nz_m8, nz_m9, nl_m1, nl_m2, nl_m3, nl_m4, nl_m5, nl_m6, nl_m7, nl_m8, nl_m9, opB, opM, ceB, thB, thM, rfB rwd1, rfM rwd1, rlB rwd1, rlM rwd1]
    exact ⟨_, _, _, _, rfl, rfl, trivial, rfl⟩
theorem q_answer (b : Int32) (l : Int32) : P1 (f_X9_answer b l uB0) (f_X10_answer b l uM0) := by
  by_cases h : rg 8 b ∧ rg 1 l
  · simp only [f_X9_answer, f_X10_answer, noBid_t LB i1le h, flM_t h.1 h.2, oi_in (show 48 < 2 ^ 31 by decide) (rgB h.1 h.2), stB (rgB h.1 h.2), ob_s, ov_s, lt_e, ↓reduceIte, eq_self, not_true_eq_false, not_false_eq_true, nz_1, nz_m1, nz_m2, nz_m3, nz_m4, nz_m5, nz_m6, nz_m7, nz_m8, nz_m9, nl_m1, nl_m2, nl_m3, nl_m4, nl_m5, nl_m6, nl_m7, nl_m8, nl_m9, opB, opM, ceB, thB, thM, rfB rwd5, rfM rwd5, rlB rwd5, rlM rwd5]
    exact ⟨_, _, _, _, rfl, rfl, trivial, rfl⟩
  · simp only [f_X9_answer, f_X10_answer, noBid_f LB i1le h, flM_f h, ob_s, ov_s, lt_e, ↓reduceIte, eq_self, not_true_eq_false, not_false_eq_true, nz_1, nz_m1, nz_m2, nz_m3, nz_m4, nz_m5, nz_m6, nz_m7, nz_m8, nz_m9, nl_m1, nl_m2, nl_m3, nl_m4, nl_m5, nl_m6, nl_m7, nl_m8, nl_m9, opB, opM, ceB, thB, thM, rfB rwd1, rfM rwd1, rlB rwd1, rlM rwd1]
    exact ⟨_, _, _, _, rfl, rfl, trivial, rfl⟩
theorem q_ask (b : Int32) (l : Int32) (t : Int32) : P1 (f_X9_ask b l t uB0) (f_X10_ask b l t uM0) := by
  by_cases h : rg 8 b ∧ rg 1 l
  · simp only [f_X9_ask, f_X10_ask, noBid_t LB i1le h, flM_t h.1 h.2, oi_in (show 48 < 2 ^ 31 by decide) (rgB h.1 h.2), stB (rgB h.1 h.2), ob_s, ov_s, lt_e, ↓reduceIte, eq_self, not_true_eq_false, not_false_eq_true, nz_1, nz_m1, nz_m2, nz_m3, nz_m4, nz_m5, nz_m6, nz_m7, nz_m8, nz_m9, nl_m1, nl_m2, nl_m3, nl_m4, nl_m5, nl_m6, nl_m7, nl_m8, nl_m9, opB, opM, ceB, thB, thM, rfB rwd5, rfM rwd5, rlB rwd5, rlM rwd5]
    exact ⟨_, _, _, _, rfl, rfl, trivial, rfl⟩
  · simp only [f_X9_ask, f_X10_ask, noBid_f LB i1le h, flM_f h, ob_s, ov_s, lt_e, ↓reduceIte, eq_self, not_true_eq_false, not_false_eq_true, nz_1, nz_m1, nz_m2, nz_m3, nz_m4, nz_m5, nz_m6, nz_m7, nz_m8, nz_m9, nl_m1, nl_m2, nl_m3, nl_m4, nl_m5, nl_m6, nl_m7, nl_m8, nl_m9, opB, opM, ceB, thB, thM, rfB rwd1, rfM rwd1, rlB rwd1, rlM rwd1]
    exact ⟨_, _, _, _, rfl, rfl, trivial, rfl⟩
theorem q_note (s b l v : Int32) : P1 (f_X9_note s b l v uB0) (f_X10_note s b l v uM0) := by
  by_cases hs : rg 6 s
  · by_cases h : rg 8 b ∧ rg 1 l
    · simp only [f_X9_note, f_X10_note, f_X9_note_L16, noScorer_t hs, isScorer_t hs, noBid_t LB i1le h, flM_t h.1 h.2, stB (rgB h.1 h.2), ob_s, ov_s, lt_e, ↓reduceIte, eq_self, not_true_eq_false, not_false_eq_true, nz_1, nz_m1, nz_m2, nz_m3, nz_m4, nz_m5, nz_m6, nz_m7, nz_m8, nz_m9, nl_m1, nl_m2, nl_m3, nl_m4, nl_m5, nl_m6, nl_m7, nl_m8, nl_m9, opB, opM, ceB, thB, thM, rfB rwd5, rfM rwd5, rlB rwd5, rlM rwd5]
      exact ⟨_, _, _, _, rfl, rfl, trivial, rfl⟩
    · simp only [f_X9_note, f_X10_note, f_X9_note_L16, noScorer_t hs, isScorer_t hs, noBid_f LB i1le h, flM_f h, ob_s, ov_s, lt_e, ↓reduceIte, eq_self, not_true_eq_false, not_false_eq_true, nz_1, nz_m1, nz_m2, nz_m3, nz_m4, nz_m5, nz_m6, nz_m7, nz_m8, nz_m9, nl_m1, nl_m2, nl_m3, nl_m4, nl_m5, nl_m6, nl_m7, nl_m8, nl_m9, opB, opM, ceB, thB, thM, rfB rwd1, rfM rwd1, rlB rwd1, rlM rwd1]
      exact ⟨_, _, _, _, rfl, rfl, trivial, rfl⟩
  · simp only [f_X9_note, f_X10_note, f_X9_note_L16, noScorer_f hs, isScorer_f hs, ob_s, ov_s, lt_e, ↓reduceIte, eq_self, not_true_eq_false, not_false_eq_true, nz_1, nz_m1, nz_m2, nz_m3, nz_m4, nz_m5, nz_m6, nz_m7, nz_m8, nz_m9, nl_m1, nl_m2, nl_m3, nl_m4, nl_m5, nl_m6, nl_m7, nl_m8, nl_m9, opB, opM, ceB, thB, thM, rfB rwd1, rfM rwd1, rlB rwd1, rlM rwd1]
    exact ⟨_, _, _, _, rfl, rfl, trivial, rfl⟩
theorem q_set (w v : Int32) : P1 (f_X9_set w v uB0) (f_X10_set w v uM0) := by
  by_cases hw : rg 4 w
  · have h4 : w < (4 : Int32) := rg_hi (n := 4) (by decide) hw
    have hlo : ¬ w < 0 := rg_lo (by decide) hw
    have hin : f_X10_in w 0 3 uM0 = some (1, uM0) := in_t (n := 3) (by decide) (by decide) hw uM0
    by_cases h1 : (0 : Int32) ≤ v
    · by_cases h0 : w = 0
      · by_cases h2 : v ≤ (2 : Int32)
        · simp only [f_X9_set, f_X10_set, f_X9_set_L16, f_X9_set_L35, f_X10_set_L38, f_X9_inRange, hin, hlo, h4, h1, h2, oi_in (show 4 < 2 ^ 31 by decide) hw, if_pos h0, ob_s, ov_s, lt_e, ↓reduceIte, eq_self, not_true_eq_false, not_false_eq_true, nz_1, nz_m1, nz_m2, nz_m3, nz_m4, nz_m5, nz_m6, nz_m7, nz_m8, nz_m9, nl_m1, nl_m2, nl_m3, nl_m4, nl_m5, nl_m6, nl_m7, nl_m8, nl_m9, opB, opM, ceB, thB, thM]
          exact ⟨_, _, _, _, rfl, rfl, trivial, rfl⟩
        · simp only [f_X9_set, f_X10_set, f_X9_set_L16, f_X9_set_L35, f_X10_set_L38, f_X9_inRange, hin, hlo, h4, h1, h2, if_pos h0, ob_s, ov_s, lt_e, ↓reduceIte, eq_self, not_true_eq_false, not_false_eq_true, nz_1, nz_m1, nz_m2, nz_m3, nz_m4, nz_m5, nz_m6, nz_m7, nz_m8, nz_m9, nl_m1, nl_m2, nl_m3, nl_m4, nl_m5, nl_m6, nl_m7, nl_m8, nl_m9, opB, opM, ceB, thB, thM, rfB rwd6, rfM rwd6, rlB rwd6, rlM rwd6]
          exact ⟨_, _, _, _, rfl, rfl, trivial, rfl⟩
      · by_cases h2 : v ≤ (100 : Int32)
        · simp only [f_X9_set, f_X10_set, f_X9_set_L16, f_X9_set_L35, f_X10_set_L38, f_X9_inRange, hin, hlo, h4, h1, h0, h2, oi_in (show 4 < 2 ^ 31 by decide) hw, ob_s, ov_s, lt_e, ↓reduceIte, eq_self, not_true_eq_false, not_false_eq_true, nz_1, nz_m1, nz_m2, nz_m3, nz_m4, nz_m5, nz_m6, nz_m7, nz_m8, nz_m9, nl_m1, nl_m2, nl_m3, nl_m4, nl_m5, nl_m6, nl_m7, nl_m8, nl_m9, opB, opM, ceB, thB, thM]
          exact ⟨_, _, _, _, rfl, rfl, trivial, rfl⟩
        · simp only [f_X9_set, f_X10_set, f_X9_set_L16, f_X9_set_L35, f_X10_set_L38, f_X9_inRange, hin, hlo, h4, h1, h0, h2, ob_s, ov_s, lt_e, ↓reduceIte, eq_self, not_true_eq_false, not_false_eq_true, nz_1, nz_m1, nz_m2, nz_m3, nz_m4, nz_m5, nz_m6, nz_m7, nz_m8, nz_m9, nl_m1, nl_m2, nl_m3, nl_m4, nl_m5, nl_m6, nl_m7, nl_m8, nl_m9, opB, opM, ceB, thB, thM, rfB rwd6, rfM rwd6, rlB rwd6, rlM rwd6]
          exact ⟨_, _, _, _, rfl, rfl, trivial, rfl⟩
    · by_cases h0 : w = 0
      · simp only [f_X9_set, f_X10_set, f_X9_set_L16, f_X9_set_L35, f_X10_set_L38, f_X9_inRange, hin, hlo, h4, h1, if_pos h0, ob_s, ov_s, lt_e, ↓reduceIte, eq_self, not_true_eq_false, not_false_eq_true, nz_1, nz_m1, nz_m2, nz_m3, nz_m4, nz_m5, nz_m6, nz_m7, nz_m8, nz_m9, nl_m1, nl_m2, nl_m3, nl_m4, nl_m5, nl_m6, nl_m7, nl_m8, nl_m9, opB, opM, ceB, thB, thM, rfB rwd4, rfM rwd4, rlB rwd4, rlM rwd4]
        exact ⟨_, _, _, _, rfl, rfl, trivial, rfl⟩
      · simp only [f_X9_set, f_X10_set, f_X9_set_L16, f_X9_set_L35, f_X10_set_L38, f_X9_inRange, hin, hlo, h4, h1, h0, ob_s, ov_s, lt_e, ↓reduceIte, eq_self, not_true_eq_false, not_false_eq_true, nz_1, nz_m1, nz_m2, nz_m3, nz_m4, nz_m5, nz_m6, nz_m7, nz_m8, nz_m9, nl_m1, nl_m2, nl_m3, nl_m4, nl_m5, nl_m6, nl_m7, nl_m8, nl_m9, opB, opM, ceB, thB, thM, rfB rwd4, rfM rwd4, rlB rwd4, rlM rwd4]
        exact ⟨_, _, _, _, rfl, rfl, trivial, rfl⟩
  · have hin : f_X10_in w 0 3 uM0 = some (0, uM0) := in_f (n := 3) (by decide) (by decide) hw uM0
    by_cases h1 : w < 0
    · simp only [f_X9_set, f_X10_set, f_X9_set_L16, f_X9_set_L35, f_X10_set_L38, f_X9_inRange, hin, h1, ob_s, ov_s, lt_e, ↓reduceIte, eq_self, not_true_eq_false, not_false_eq_true, nz_1, nz_m1, nz_m2, nz_m3, nz_m4, nz_m5, nz_m6, nz_m7, nz_m8, nz_m9, nl_m1, nl_m2, nl_m3, nl_m4, nl_m5, nl_m6, nl_m7, nl_m8, nl_m9, opB, opM, ceB, thB, thM, rfB rwd2, rfM rwd2, rlB rwd2, rlM rwd2]
      exact ⟨_, _, _, _, rfl, rfl, trivial, rfl⟩
    · have h4 : ¬ w < (4 : Int32) := fun h => hw (rg_mk (n := 4) (by decide) h1 h)
      simp only [f_X9_set, f_X10_set, f_X9_set_L16, f_X9_set_L35, f_X10_set_L38, f_X9_inRange, hin, h1, h4, ob_s, ov_s, lt_e, ↓reduceIte, eq_self, not_true_eq_false, not_false_eq_true, nz_1, nz_m1, nz_m2, nz_m3, nz_m4, nz_m5, nz_m6, nz_m7, nz_m8, nz_m9, nl_m1, nl_m2, nl_m3, nl_m4, nl_m5, nl_m6, nl_m7, nl_m8, nl_m9, opB, opM, ceB, thB, thM, rfB rwd2, rfM rwd2, rlB rwd2, rlM rwd2]
      exact ⟨_, _, _, _, rfl, rfl, trivial, rfl⟩
