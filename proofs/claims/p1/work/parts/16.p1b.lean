def P1 {α : Type} (x y : Option (α × SS)) : Prop := ∃ (r : α) (u' : SS) (r2 : α) (v' : SS), x = some (r, u') ∧ y = some (r2, v') ∧ True ∧ r = r2
theorem P1_ab {x y : Option (Int32 × SS)} {r : Int32} (h1 : x.map Prod.fst = some r) (h2 : y.map Prod.fst = some r) : P1 x y := by
  obtain ⟨a, ha⟩ := AB_of h1
  obtain ⟨b, hb⟩ := AB_of h2
  exact ⟨r, a, r, b, ha, hb, trivial, rfl⟩
theorem LB : gI uB0 2 = nI 1 := by decide
theorem LM : gI uM0 2 = nI 1 := by decide
theorem opB : f_X1_isOpen uB0 = some (1, uB0) := rfl
theorem opM : f_X10_isOpen uM0 = some (1, uM0) := rfl
theorem i1le : (1 : Nat) ≤ 6 := by decide
theorem thB (i : Nat) : gA uB0 3 i = 0 := rfl
theorem thM (i : Nat) : gA uM0 1 i = 0 := rfl
theorem stB {x : Int32} (h : rg 48 x) : f_X1_standsAt x uB0 = some (0, uB0) := by
  unfold f_X1_standsAt
  rw [oi_in (by decide) h, if_pos (thB _)]
theorem dsM {x : Int32} (h : rg 48 x) : f_X10_doesStand x uM0 = some (0, uM0) := by
  unfold f_X10_doesStand
  rw [oi_in (by decide) h, if_pos (thM _)]
theorem lkM_t {b l : Int32} (hb : rg 8 b) (hl : rg 1 l) : f_X10_lacks b l uM0 = some (-5, uM0) := by
  unfold f_X10_lacks
  rw [isBidder_t hb, ob_s, if_neg (by decide), isLot_t LM (by decide) (by decide) hl, ob_s, if_neg (by decide)]
  obtain ⟨i, hi, rfl⟩ := hb
  obtain ⟨j, hj, rfl⟩ := hl
  rw [oi_in (by decide) (cellM_rg hi (by omega)), if_pos (thM _)]
theorem lkM_f {b l : Int32} (h : ¬ (rg 8 b ∧ rg 1 l)) : f_X10_lacks b l uM0 = some (-1, uM0) := by
  unfold f_X10_lacks
  by_cases hb : rg 8 b
  · rw [isBidder_t hb, ob_s, if_neg (by decide), isLot_f LM (by decide) (by decide) (fun hl => h ⟨hb, hl⟩), ob_s, if_pos rfl]
  · rw [isBidder_f hb, ob_s, if_pos rfl]
theorem flM_t {b l : Int32} (hb : rg 8 b) (hl : rg 1 l) : f_X10_fails b l uM0 = some (-5, uM0) := by
  unfold f_X10_fails
  rw [lkM_t hb hl, ob_s, if_neg (by decide)]
theorem flM_f {b l : Int32} (h : ¬ (rg 8 b ∧ rg 1 l)) : f_X10_fails b l uM0 = some (-1, uM0) := by
  unfold f_X10_fails
  rw [lkM_f h, ob_s, if_neg (by decide)]
theorem ceB (b l : Int32) (u : SS) : f_X9_cell b l u = some (((b * (6 : Int32)) + l), u) := rfl
theorem rgB {b l : Int32} (hb : rg 8 b) (hl : rg 1 l) : rg 48 ((b * (6 : Int32)) + l) := by
  obtain ⟨i, hi, rfl⟩ := hb
  obtain ⟨j, hj, rfl⟩ := hl
  exact cellB_rg hi (by omega)
theorem rgM {b l : Int32} (hb : rg 8 b) (hl : rg 1 l) : rg 48 (((8 : Int32) * l) + b) := by
  obtain ⟨i, hi, rfl⟩ := hb
  obtain ⟨j, hj, rfl⟩ := hl
  exact cellM_rg hi (by omega)
/-! 1 .. 12 -/
theorem q_time (n : Int32) : P1 (f_X9_time n uB0) (f_X10_time n uM0) := by
  have e1 : gI uB0 0 = 0 := rfl
  have e2 : gI uM0 0 = 0 := rfl
  unfold f_X9_time f_X10_time
  rw [e1, e2]
  by_cases h1 : (1 : Int32) ≤ n
  · by_cases h2 : n ≤ (999999 : Int32) - 0
    · rw [if_pos h1, if_pos h2, if_pos h1, if_pos h2]
      exact ⟨_, _, _, _, rfl, rfl, trivial, rfl⟩
    · rw [if_pos h1, if_neg h2, if_pos h1, if_neg h2, rfB rwd6, rfM rwd6]
      exact ⟨_, _, _, _, rfl, rfl, trivial, rfl⟩
  · rw [if_neg h1, if_neg h1, rfB rwd4, rfM rwd4]
    exact ⟨_, _, _, _, rfl, rfl, trivial, rfl⟩
theorem q_rate (m v : Int32) : P1 (f_X9_rate m v uB0) (f_X10_rate m v uM0) := by
  unfold f_X9_rate f_X10_rate f_X9_rate_L10 f_X10_in
  by_cases h1 : m < 1
  · rw [if_pos h1, if_pos h1, ob_s, if_pos rfl, rfB rwd1, rfM rwd1]
    exact ⟨_, _, _, _, rfl, rfl, trivial, rfl⟩
  · by_cases h2 : m < 4
    · have h3 : ¬ (3 : Int32) < m := Int32.not_lt.mpr ((le_nI (n := 3) (by decide)).mpr h2)
      have hm : rg 4 m := rg_mk (by decide) (fun h => h1 (Int32.lt_trans h (by decide))) h2
      rw [if_neg h1, if_pos h2, if_neg h1, if_neg h3, opB, ob_s, ob_s, if_neg (by decide), if_neg (by decide), opM, ob_s, if_neg (by decide)]
      unfold f_X9_inRange
      by_cases h4 : (1 : Int32) ≤ v
      · by_cases h5 : v ≤ (100000 : Int32)
        · rw [if_pos h4, if_pos h5, if_pos h4, if_pos h5, ob_s, if_pos rfl, oi_in (by decide) hm, oi_in (by decide) hm]
          rw [lt_e, lt_e, oi_in (by decide) hm, oi_in (by decide) hm]
          exact ⟨_, _, _, _, rfl, rfl, trivial, rfl⟩
        · rw [if_pos h4, if_neg h5, if_pos h4, if_neg h5, ob_s, if_neg (by decide), rfB rwd6, rfM rwd6]
          exact ⟨_, _, _, _, rfl, rfl, trivial, rfl⟩
      · rw [if_neg h4, if_neg h4, ob_s, if_neg (by decide), rfB rwd4, rfM rwd4]
        exact ⟨_, _, _, _, rfl, rfl, trivial, rfl⟩
    · have h3 : (3 : Int32) < m := Int32.not_le.mp (fun h => h2 ((le_nI (n := 3) (by decide)).mp h))
      rw [if_neg h1, if_neg h2, if_neg h1, if_pos h3, ob_s, if_pos rfl, rfB rwd1, rfM rwd1]
      exact ⟨_, _, _, _, rfl, rfl, trivial, rfl⟩
theorem q_lots (n : Int32) : P1 (f_X9_lots n uB0) (f_X10_lots n uM0) := by
  by_cases h1 : (1 : Int32) ≤ n
  · by_cases h2 : n ≤ (6 : Int32)
    · obtain ⟨i, hi, rfl⟩ : rg 7 n := rg_mk (by decide) (fun h => absurd (Int32.lt_of_lt_of_le h (Int32.le_trans (by decide : (0 : Int32) ≤ 1) h1)) (by exact Int32.lt_irrefl _)) ((le_nI (n := 6) (by decide)).mp h2)
      have hi1 : 1 ≤ i := by
        rcases Nat.lt_or_ge i 1 with h | h
        · have : i = 0 := by omega
          subst this
          exact absurd h1 (by decide)
        · exact h
      have e : nI i = nI ((⟨i - 1, by omega⟩ : Fin 6).val + 1) := congrArg nI (by show i = i - 1 + 1; omega)
      rw [e]
      exact P1_ab (dl_lots _) (dm_lots _)
    · unfold f_X9_lots f_X10_lots f_X9_inRange
      rw [opB, opM, ob_s, ob_s, if_neg (by decide), if_neg (by decide), if_pos h1, if_pos h1, if_neg h2, if_neg h2, ob_s, if_neg (by decide), rfB rwd6, rfM rwd6]
      exact ⟨_, _, _, _, rfl, rfl, trivial, rfl⟩
  · unfold f_X9_lots f_X10_lots f_X9_inRange
    rw [opB, opM, ob_s, ob_s, if_neg (by decide), if_neg (by decide), if_neg h1, if_neg h1, ob_s, if_neg (by decide), rfB rwd4, rfM rwd4]
    exact ⟨_, _, _, _, rfl, rfl, trivial, rfl⟩
theorem q_closing (t : Int32) : P1 (f_X9_closing t uB0) (f_X10_closing t uM0) := by
  have e1 : gI uB0 0 = 0 := rfl
  have e2 : gI uM0 0 = 0 := rfl
  have e3 : gI uB0 1 = -1 := rfl
  have e4 : gI uM0 1 = -1 := rfl
  unfold f_X9_closing f_X10_closing f_X9_inRange
  rw [e1, e2, e3, e4, if_pos rfl, if_pos (by decide)]
  by_cases h1 : (0 : Int32) ≤ t
  · by_cases h2 : t ≤ (999999 : Int32)
    · rw [if_pos h1, if_pos h2, if_pos h1, if_pos h2, ob_s, if_pos rfl]
      exact ⟨_, _, _, _, rfl, rfl, trivial, rfl⟩
    · rw [if_pos h1, if_neg h2, if_pos h1, if_neg h2, ob_s, if_neg (by decide), rfB rwd6, rfM rwd6]
      exact ⟨_, _, _, _, rfl, rfl, trivial, rfl⟩
  · rw [if_neg h1, if_neg h1, ob_s, if_neg (by decide), rfB rwd4, rfM rwd4]
    exact ⟨_, _, _, _, rfl, rfl, trivial, rfl⟩
theorem q_withdraw (b l : Int32) : P1 (f_X9_withdraw b l uB0) (f_X10_withdraw b l uM0) := by
  unfold f_X9_withdraw f_X10_withdraw
  by_cases h : rg 8 b ∧ rg 1 l
  · rw [noBid_t LB i1le h, lkM_t h.1 h.2, ob_s, ob_s, if_pos rfl, if_neg (by decide), ceB, ob_s, oi_in (by decide) (rgB h.1 h.2), if_pos (thB _), rfB rwd5, rfM rwd5]
    exact ⟨_, _, _, _, rfl, rfl, trivial, rfl⟩
  · rw [noBid_f LB i1le h, lkM_f h, ob_s, ob_s, if_neg (by decide), if_neg (by decide), rfB rwd1, rfM rwd1]
    exact ⟨_, _, _, _, rfl, rfl, trivial, rfl⟩
theorem q_price (b l : Int32) : P1 (f_X9_price b l uB0) (f_X10_price b l uM0) := by
  unfold f_X9_price f_X10_price
  by_cases h : rg 8 b ∧ rg 1 l
  · rw [noBid_t LB i1le h, lkM_t h.1 h.2, ob_s, ob_s, if_pos rfl, if_neg (by decide), ceB, ob_s, oi_in (by decide) (rgB h.1 h.2), if_pos (thB _), rfB rwd5, rfM rwd5]
    exact ⟨_, _, _, _, rfl, rfl, trivial, rfl⟩
  · rw [noBid_f LB i1le h, lkM_f h, ob_s, ob_s, if_neg (by decide), if_neg (by decide), rfB rwd1, rfM rwd1]
    exact ⟨_, _, _, _, rfl, rfl, trivial, rfl⟩
theorem q_low (b l : Int32) : P1 (f_X9_low b l uB0) (f_X10_low b l uM0) := by
  unfold f_X9_low f_X10_low
  by_cases h : rg 8 b ∧ rg 1 l
  · rw [noBid_t LB i1le h, flM_t h.1 h.2, ob_s, ob_s, if_pos rfl, if_neg (by decide), ceB, ob_s, stB (rgB h.1 h.2), ob_s, if_pos rfl, rfB rwd5, rfM rwd5]
    exact ⟨_, _, _, _, rfl, rfl, trivial, rfl⟩
  · rw [noBid_f LB i1le h, flM_f h, ob_s, ob_s, if_neg (by decide), if_neg (by decide), rfB rwd1, rfM rwd1]
    exact ⟨_, _, _, _, rfl, rfl, trivial, rfl⟩
theorem q_answer (b l : Int32) : P1 (f_X9_answer b l uB0) (f_X10_answer b l uM0) := by
  unfold f_X9_answer f_X10_answer
  by_cases h : rg 8 b ∧ rg 1 l
  · rw [noBid_t LB i1le h, flM_t h.1 h.2, ob_s, ob_s, if_pos rfl, if_neg (by decide), ceB, ob_s, stB (rgB h.1 h.2), ob_s, if_pos rfl, rfB rwd5, rfM rwd5]
    exact ⟨_, _, _, _, rfl, rfl, trivial, rfl⟩
  · rw [noBid_f LB i1le h, flM_f h, ob_s, ob_s, if_neg (by decide), if_neg (by decide), rfB rwd1, rfM rwd1]
    exact ⟨_, _, _, _, rfl, rfl, trivial, rfl⟩
theorem q_ask (b l t : Int32) : P1 (f_X9_ask b l t uB0) (f_X10_ask b l t uM0) := by
  unfold f_X9_ask f_X10_ask
  by_cases h : rg 8 b ∧ rg 1 l
  · rw [noBid_t LB i1le h, flM_t h.1 h.2, ob_s, ob_s, if_pos rfl, if_neg (by decide), ceB, ob_s, stB (rgB h.1 h.2), ob_s, if_pos rfl, rfB rwd5, rfM rwd5]
    exact ⟨_, _, _, _, rfl, rfl, trivial, rfl⟩
  · rw [noBid_f LB i1le h, flM_f h, ob_s, ob_s, if_neg (by decide), if_neg (by decide), rfB rwd1, rfM rwd1]
    exact ⟨_, _, _, _, rfl, rfl, trivial, rfl⟩
theorem q_note (s b l v : Int32) : P1 (f_X9_note s b l v uB0) (f_X10_note s b l v uM0) := by
  unfold f_X9_note f_X10_note f_X9_note_L16
  by_cases hs : rg 6 s
  · rw [noScorer_t hs, isScorer_t hs, ob_s, ob_s, if_pos rfl, if_neg (by decide)]
    by_cases h : rg 8 b ∧ rg 1 l
    · rw [noBid_t LB i1le h, flM_t h.1 h.2, ob_s, ob_s, if_pos rfl, if_neg (by decide), ceB, ob_s, stB (rgB h.1 h.2), ob_s, if_pos rfl, rfB rwd5, rfM rwd5]
      exact ⟨_, _, _, _, rfl, rfl, trivial, rfl⟩
    · rw [noBid_f LB i1le h, flM_f h, ob_s, ob_s, if_neg (by decide), if_neg (by decide), rfB rwd1, rfM rwd1]
      exact ⟨_, _, _, _, rfl, rfl, trivial, rfl⟩
  · rw [noScorer_f hs, isScorer_f hs, ob_s, ob_s, if_neg (by decide), if_pos rfl, rfB rwd1, rfM rwd1]
    exact ⟨_, _, _, _, rfl, rfl, trivial, rfl⟩
theorem q_set (w v : Int32) : P1 (f_X9_set w v uB0) (f_X10_set w v uM0) := by
  unfold f_X9_set f_X10_set f_X9_set_L16
  by_cases hw : rg 4 w
  · rw [in_t (n := 3) (by decide) (by decide) hw, ob_s, if_neg (show ¬ (1 : Int32) = 0 by decide), if_neg (rg_lo (by decide) hw), if_pos (show w < nI 4 from rg_hi (by decide) hw)]
    have key : ∀ c : Int32, P1 (f_X9_set_L35 w v c 0 v uB0) (if 0 ≤ v then f_X10_set_L38 w v c v uM0 else ob (f_X10_refuse (-4) uM0) fun r12 u11 => some (r12, u11)) := by
      intro c
      unfold f_X9_set_L35 f_X10_set_L38 f_X9_inRange
      by_cases h1 : (0 : Int32) ≤ v
      · by_cases h2 : v ≤ c
        · rw [if_pos h1, if_pos h2, if_pos h1, if_pos h2, ob_s, if_pos rfl, oi_in (by decide) hw, oi_in (by decide) hw, lt_e, lt_e, oi_in (by decide) hw, oi_in (by decide) hw]
          exact ⟨_, _, _, _, rfl, rfl, trivial, rfl⟩
        · rw [if_pos h1, if_neg h2, if_pos h1, if_neg h2, ob_s, if_neg (by decide), rfB rwd6, rfM rwd6]
          exact ⟨_, _, _, _, rfl, rfl, trivial, rfl⟩
      · rw [if_neg h1, if_neg h1, ob_s, if_neg (by decide), rfB rwd4, rfM rwd4]
        exact ⟨_, _, _, _, rfl, rfl, trivial, rfl⟩
    by_cases h0 : w = 0
    · rw [if_pos h0, if_pos h0]
      exact key 2
    · rw [if_neg h0, if_neg h0]
      exact key 100
  · rw [in_f (n := 3) (by decide) (by decide) hw, ob_s, if_pos rfl, rfM rwd2]
    by_cases h1 : w < 0
    · rw [if_pos h1, rfB rwd2]
      exact ⟨_, _, _, _, rfl, rfl, trivial, rfl⟩
    · rw [if_neg h1, if_neg (show ¬ w < nI 4 from fun h => hw (rg_mk (by decide) h1 h)), rfB rwd2]
      exact ⟨_, _, _, _, rfl, rfl, trivial, rfl⟩
