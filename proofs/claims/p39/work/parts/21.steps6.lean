section ST6
variable {FE : (Nat → Int32) → Nat → (Nat → Int32) → Nat → Prop} {AW : (Nat → Int32) → (Nat → Int32) → (Nat → Int64) → (Nat → Int32) → (Nat → Int32) → (Nat → Int32) → Prop} {FD : SS → SS → Prop} {k : Nat} {u v : SS}
/-- as many different numbers below n as there are: each is among them -/
theorem surjN : ∀ (n : Nat) (f : Nat → Nat), (∀ i, i < n → f i < n) → (∀ i j, i < n → j < n → f i = f j → i = j) → ∀ y, y < n → ∃ x, x < n ∧ f x = y := by
  intro n
  induction n with
  | zero => intro f _ _ y hy; exact absurd hy (by omega)
  | succ n ih =>
    intro f h1 h2 y hy
    have hm := h1 n (by omega)
    by_cases hy2 : y = f n
    · exact ⟨n, by omega, hy2.symm⟩
    · have g1 : ∀ i, i < n → (if f i = n then f n else f i) < n := by
        intro i hi
        have := h1 i (by omega)
        split
        · rename_i e
          have : f n ≠ n := fun e2 => absurd (h2 i n (by omega) (by omega) (e.trans e2.symm)) (by omega)
          omega
        · omega
      have g2 : ∀ i j, i < n → j < n → (if f i = n then f n else f i) = (if f j = n then f n else f j) → i = j := by
        intro i j hi hj e
        by_cases a : f i = n
        · by_cases b : f j = n
          · exact h2 i j (by omega) (by omega) (a.trans b.symm)
          · rw [if_pos a, if_neg b] at e
            exact absurd (h2 n j (by omega) (by omega) e) (by omega)
        · by_cases b : f j = n
          · rw [if_neg a, if_pos b] at e
            exact absurd (h2 i n (by omega) (by omega) e) (by omega)
          · rw [if_neg a, if_neg b] at e
            exact h2 i j (by omega) (by omega) e
      by_cases hy3 : y = n
      · obtain ⟨x, hx, e⟩ := ih (fun i => if f i = n then f n else f i) g1 g2 (f n) (by have : f n ≠ n := fun e => hy2 (hy3.trans e.symm); omega)
        refine ⟨x, by omega, ?_⟩
        by_cases a : f x = n
        · rw [a, hy3]
        · have e : (if f x = n then f n else f x) = f n := e
          rw [if_neg a] at e
          exact absurd (h2 x n (by omega) (by omega) e) (by omega)
      · obtain ⟨x, hx, e⟩ := ih (fun i => if f i = n then f n else f i) g1 g2 y (by omega)
        refine ⟨x, by omega, ?_⟩
        have e : (if f x = n then f n else f x) = y := e
        by_cases a : f x = n
        · rw [if_pos a] at e; exact absurd e.symm hy2
        · rw [if_neg a] at e; exact e
theorem pl_c {m : Nat} (b : Int32) (hm : m ≤ 8) (e21 : gI u 21 = nI m) (e26 : gI v 26 = nI m) (hM : ∀ i, i < m → gA v 32 i = gA u 32 i) : ∀ (k i F F2 : Nat), m ≤ i + k → i ≤ m → k < F → k < F2 → ∃ r : Int32, f_X4_placeOf_L2 F b (nI i) u = some (r, u) ∧ f_X10_memberOf_L2 F2 b (nI i) v = some (r, v) ∧ ((r = -1 ∧ ∀ p, i ≤ p → p < m → gA u 32 p ≠ b) ∨ ∃ p, p < m ∧ r = nI p) := by
  intro k
  induction k with
  | zero =>
    intro i F F2 h1 h2 h3 h4
    have e : i = m := by omega
    subst e
    match F, F2, h3, h4 with
    | F + 1, F2 + 1, _, _ =>
      refine ⟨-1, ?_, ?_, Or.inl ⟨rfl, fun p h5 h6 => absurd h6 (by omega)⟩⟩
      · show b_X4_placeOf_L2 (f_X4_placeOf_L2 F) b (nI i) u = _
        unfold b_X4_placeOf_L2
        rw [e21, if_pos (nI_le (Nat.le_refl i) (by omega))]
      · show b_X10_memberOf_L2 (f_X10_memberOf_L2 F2) b (nI i) v = _
        unfold b_X10_memberOf_L2
        rw [e26, if_pos (nI_le (Nat.le_refl i) (by omega))]
  | succ k ih =>
    intro i F F2 h1 h2 h3 h4
    match F, F2, h3, h4 with
    | F + 1, F2 + 1, h3, h4 =>
      by_cases e : i = m
      · subst e
        refine ⟨-1, ?_, ?_, Or.inl ⟨rfl, fun p h5 h6 => absurd h6 (by omega)⟩⟩
        · show b_X4_placeOf_L2 (f_X4_placeOf_L2 F) b (nI i) u = _
          unfold b_X4_placeOf_L2
          rw [e21, if_pos (nI_le (Nat.le_refl i) (by omega))]
        · show b_X10_memberOf_L2 (f_X10_memberOf_L2 F2) b (nI i) v = _
          unfold b_X10_memberOf_L2
          rw [e26, if_pos (nI_le (Nat.le_refl i) (by omega))]
      · have B1 : f_X4_placeOf_L2 (F + 1) b (nI i) u = if gA u 32 i = b then some (nI i, u) else f_X4_placeOf_L2 F b (nI (i + 1)) u := by
          show b_X4_placeOf_L2 (f_X4_placeOf_L2 F) b (nI i) u = _
          unfold b_X4_placeOf_L2
          rw [e21, if_neg (nI_ge (by omega) (by omega)), if_neg (show ¬ (8 : Int32) ≤ nI i from nI_ge (b := 8) (by omega) (by decide)), oi_nI (by decide) (by omega), nI_clamp (by omega), lt_e, nI_1]
        have M1 : f_X10_memberOf_L2 (F2 + 1) b (nI i) v = if gA u 32 i = b then some (nI i, v) else f_X10_memberOf_L2 F2 b (nI (i + 1)) v := by
          show b_X10_memberOf_L2 (f_X10_memberOf_L2 F2) b (nI i) v = _
          unfold b_X10_memberOf_L2
          rw [e26, if_neg (nI_ge (by omega) (by omega)), oi_nI (by decide) (by omega), nI_clamp (by omega), hM i (by omega), lt_e, nI_1]
        rw [B1, M1]
        by_cases c : gA u 32 i = b
        · rw [if_pos c, if_pos c]
          exact ⟨nI i, rfl, rfl, Or.inr ⟨i, by omega, rfl⟩⟩
        · rw [if_neg c, if_neg c]
          obtain ⟨r, r1, r2, r3⟩ := ih (i + 1) F F2 (by omega) (by omega) (by omega) (by omega)
          refine ⟨r, r1, r2, r3.elim (fun z => Or.inl ⟨z.1, fun p h5 h6 => ?_⟩) Or.inr⟩
          by_cases e2 : p = i
          · rw [e2]; exact c
          · exact z.2 p (by omega) h6
/-- FD does not look at the framework -/
def FDfw (FD : SS → SS → Prop) : Prop := ∀ (u v u2 v2 : SS), (∀ i, i < 20 → gI u2 i = gI u i) → (∀ a, a ≠ 31 → a ≠ 32 → gA u2 a = gA u a) → (∀ i, i < 26 → gI v2 i = gI v i) → (∀ a, a ≠ 32 → a ≠ 33 → gA v2 a = gA v a) → FD u v → FD u2 v2
theorem RR_fw {u2 v2 : SS} (hA5 : FDfw FD) (h : RR FE AW FD k u v) (hI : ∀ i, i < 20 → gI u2 i = gI u i) (hV : ∀ i, i < 26 → gI v2 i = gI v i) (hL : gL u2 8 = gL u 8) (hu : ∀ a, a ≠ 31 → a ≠ 32 → gA u2 a = gA u a) (hv : ∀ a, a ≠ 32 → a ≠ 33 → gA v2 a = gA v a) (r13 : Rfw u2 v2) : RR FE AW FD (k + 1) u2 v2 := by
  obtain ⟨h1, h2, h3, h4, h5, h6, h7, h8, h9, h10, h11, h12, h13, h14, h15, h16, h17, h18, h19⟩ := h
  have A : ∀ a, a < 31 → gA u2 a = gA u a := fun a ha => hu a (by omega) (by omega)
  have B : ∀ a, a < 32 → gA v2 a = gA v a := fun a ha => hv a (by omega) (by omega)
  have hop : Opn u2 ↔ Opn u := by unfold Opn; rw [hI 0 (by omega), hI 1 (by omega)]
  refine ⟨?_, ?_, ?_, ?_, ?_, ?_, ?_, ?_, ?_, ?_, ?_, ?_, r13, ?_, ?_, ?_, ?_, ?_, ?_⟩
  · unfold Rtm; rw [hI 0 (by omega), hI 1 (by omega), hI 2 (by omega), hV 0 (by omega), hV 1 (by omega), hV 2 (by omega)]; exact h1
  · unfold Rst; rw [A 1 (by omega), B 8 (by omega)]; exact h2
  · unfold Rrt; rw [A 2 (by omega), B 0 (by omega)]; exact h3
  · unfold Rbd; rw [A 3 (by omega), A 6 (by omega), A 7 (by omega), A 8 (by omega), A 9 (by omega), B 1 (by omega), B 2 (by omega), B 3 (by omega), B 4 (by omega), B 5 (by omega)]; exact h4
  · unfold Rou; rw [A 3 (by omega), A 4 (by omega), B 6 (by omega)]; exact fun b l hb hl => ⟨(h5 b l hb hl).1, (h5 b l hb hl).2.1, fun z => (h5 b l hb hl).2.2 (z.elim (fun z => Or.inl (hop.mp z)) Or.inr)⟩
  · unfold Ras; rw [A 3 (by omega), A 5 (by omega), B 7 (by omega)]; exact h6
  · unfold Rno; rw [A 10 (by omega), B 9 (by omega)]; exact h7
  · unfold Rba; rw [A 11 (by omega), B 10 (by omega)]; exact h8
  · unfold Rtp; rw [hI 5 (by omega), hV 6 (by omega)]; exact h9
  · unfold Rfo; rw [hI 4 (by omega), hV 7 (by omega), A 13 (by omega), B 13 (by omega)]; exact h10
  · unfold Rmo; rw [A 20 (by omega), A 22 (by omega), B 16 (by omega), B 17 (by omega)]; exact h11
  · unfold Raw; rw [hI 0 (by omega), hI 1 (by omega), hI 15 (by omega), hI 16 (by omega), hI 17 (by omega), hI 18 (by omega), hI 19 (by omega), hV 22 (by omega), hV 23 (by omega), hV 24 (by omega), hV 25 (by omega), A 26 (by omega), A 27 (by omega), A 28 (by omega), A 29 (by omega), B 27 (by omega), B 28 (by omega), B 29 (by omega)]; exact Raw_k h12
  · rw [B 18 (by omega)]; exact h14
  · rw [B 24 (by omega)]; exact h15
  · rw [hV 16 (by omega)]; exact h16
  · intro z; rw [hV 16 (by omega)]; exact h17 (hop.mp z)
  · rw [A 25 (by omega), A 30 (by omega), hL, B 24 (by omega), B 25 (by omega), B 26 (by omega)]; exact h18
  · intro z; rw [hV 16 (by omega)] at z; exact hA5 u v u2 v2 hI hu hV hv (h19 z)
theorem st_room (hA : FDok FD) (h : RR FE AW FD k u v) (b : Int32) : QQ (RR FE AW FD (k + 1)) (f_X9_room b u) (f_X10_room b v) := by
  by_cases hb : rg 8 b
  · obtain ⟨m, hm, e21, e26, hM, hinj, -⟩ := h.2.2.2.2.2.2.2.2.2.2.2.2.1
    obtain ⟨r, r1, r2, r3⟩ := pl_c (u := u) (v := v) b hm e21 e26 (fun i hi => (hM i hi).1) m 0 FU FU (by omega) (by omega) (Nat.lt_trans (by omega) FU_ge) (Nat.lt_trans (by omega) FU_ge)
    have r1 : f_X4_placeOf b u = some (r, u) := r1
    have r2 : f_X10_memberOf b v = some (r, v) := r2
    rcases r3 with ⟨rfl, r4⟩ | ⟨p, hp, rfl⟩
    · simp only [f_X9_room, f_X10_room, noBidder_t hb, isBidder_t hb, r1, r2, ob_s, ov_s, lt_e, ↓reduceIte, eq_self, not_true_eq_false, not_false_eq_true, nz_1, nz_m1, nz_m2, nz_m3, nz_m4, nz_m5, nz_m6, nz_m7, nz_m8, nz_m9, nl_m1, nl_m2, nl_m3, nl_m4, nl_m5, nl_m6, nl_m7, nl_m8, nl_m9, ceB, rfB rwd3, rfM rwd3, rlB rwd3, rlM rwd3]
      exact qq_rf hA h _
    · have d1 : ¬ nI p = (-1 : Int32) := fun z => nI_pos (n := p) (by omega) (by rw [z]; exact lt_m1)
      have d2 : (0 : Int32) ≤ nI p := nI_pos' (by omega)
      simp only [f_X9_room, f_X10_room, noBidder_t hb, isBidder_t hb, r1, r2, d1, d2, oi_nI (show 8 < 2 ^ 31 by decide) (show p < 8 by omega), nI_clamp (show p < 2 ^ 31 by omega), (hM p hp).2.2, ob_s, ov_s, lt_e, ↓reduceIte, eq_self, not_true_eq_false, not_false_eq_true, nz_1, nz_m1, nz_m2, nz_m3, nz_m4, nz_m5, nz_m6, nz_m7, nz_m8, nz_m9, nl_m1, nl_m2, nl_m3, nl_m4, nl_m5, nl_m6, nl_m7, nl_m8, nl_m9, ceB]
      exact ⟨_, _, _, _, rfl, rfl, RR_k h, rfl⟩
  · simp only [f_X9_room, f_X10_room, noBidder_f hb, isBidder_f hb, ob_s, ov_s, lt_e, ↓reduceIte, eq_self, not_true_eq_false, not_false_eq_true, nz_1, nz_m1, nz_m2, nz_m3, nz_m4, nz_m5, nz_m6, nz_m7, nz_m8, nz_m9, nl_m1, nl_m2, nl_m3, nl_m4, nl_m5, nl_m6, nl_m7, nl_m8, nl_m9, ceB, rfB rwd1, rfM rwd1, rlB rwd1, rlM rwd1]
    exact qq_rf hA h _
theorem st_join (hA : FDok FD) (hA5 : FDfw FD) (h : RR FE AW FD k u v) (bi w : Int32) : QQ (RR FE AW FD (k + 1)) (f_X9_join bi w u) (f_X10_join bi w v) := by
  by_cases hbi : rg 8 bi
  · obtain ⟨b, hb, rfl⟩ := hbi
    obtain ⟨m, hm, e21, e26, hM, hinj, f1, f2, f3, f4, f5⟩ := h.2.2.2.2.2.2.2.2.2.2.2.2.1
    obtain ⟨r, r1, r2, r3⟩ := pl_c (u := u) (v := v) (nI b) hm e21 e26 (fun i hi => (hM i hi).1) m 0 FU FU (by omega) (by omega) (Nat.lt_trans (by omega) FU_ge) (Nat.lt_trans (by omega) FU_ge)
    have r1 : f_X4_placeOf (nI b) u = some (r, u) := r1
    have r2 : f_X10_memberOf (nI b) v = some (r, v) := r2
    rcases r3 with ⟨rfl, r4⟩ | ⟨p, hp, rfl⟩
    · have hm8 : m < 8 := by
        rcases Nat.lt_or_ge m 8 with z | z
        · exact z
        · have hm : m = 8 := by omega
          subst hm
          obtain ⟨x, hx, e⟩ := surjN 8 (fun i => (gA u 32 i).toNatClampNeg) (fun i hi => by
            obtain ⟨n, hn, e⟩ := (hM i hi).2.1
            show (gA u 32 i).toNatClampNeg < 8
            rw [e, nI_clamp (by omega)]; omega) (fun i j hi hj e => hinj i j hi hj (by
            obtain ⟨n, hn, e1⟩ := (hM i hi).2.1
            obtain ⟨n2, hn2, e2⟩ := (hM j hj).2.1
            have e : (gA u 32 i).toNatClampNeg = (gA u 32 j).toNatClampNeg := e
            rw [e1, e2, nI_clamp (by omega), nI_clamp (by omega)] at e
            rw [e1, e2, e])) b hb
          obtain ⟨n, hn, e1⟩ := (hM x hx).2.1
          have e : (gA u 32 x).toNatClampNeg = b := e
          rw [e1, nI_clamp (by omega)] at e
          exact absurd (by rw [e1, e]) (r4 x (by omega) hx)
      by_cases c1 : (1 : Int32) ≤ w
      · by_cases c2 : w ≤ (999 : Int32)
        · have d1 : ¬ (8 : Int32) ≤ nI m := nI_ge (b := 8) (by omega) (by decide)
          simp only [f_X9_join, f_X10_join, f_X9_inRange, f_X4_add, noBidder_t ⟨b, hb, rfl⟩, isBidder_t ⟨b, hb, rfl⟩, r1, r2, lt_m1, c1, c2, e21, e26, d1, gI_tA, gI_sI, oi_nI (show 8 < 2 ^ 31 by decide) hm8, nI_1, ob_s, ov_s, lt_e, ↓reduceIte, eq_self, not_true_eq_false, not_false_eq_true, nz_1, nz_m1, nz_m2, nz_m3, nz_m4, nz_m5, nz_m6, nz_m7, nz_m8, nz_m9, nl_m1, nl_m2, nl_m3, nl_m4, nl_m5, nl_m6, nl_m7, nl_m8, nl_m9, ceB]
          refine ⟨_, _, _, _, rfl, rfl, RR_fw hA5 h (fun i hi => ?_) (fun i hi => ?_) rfl (fun a a1 a2 => ?_) (fun a a1 a2 => ?_) ?_, rfl⟩
          · rw [gI_sI, if_neg (by omega), gI_tA, gI_tA]
          · rw [gI_sI, if_neg (by omega), gI_tA, gI_tA]
          · rw [gA_sI, gA_tA, if_neg a1, gA_tA, if_neg a2]
          · rw [gA_sI, gA_tA, if_neg a2, gA_tA, if_neg a1]
          · have u32 : gA (sI (tA (tA u 32 (nI m) (nI b)) 31 (nI m) w) 21 (nI (m + 1))) 32 = upd (gA u 32) m (nI b) := by
              rw [gA_sI, gA_tA, if_neg (by decide), gA_tA, if_pos rfl, nI_clamp (by omega)]
            have u31 : gA (sI (tA (tA u 32 (nI m) (nI b)) 31 (nI m) w) 21 (nI (m + 1))) 31 = upd (gA u 31) m w := by
              rw [gA_sI, gA_tA, if_pos rfl, nI_clamp (by omega), gA_tA, if_neg (by decide)]
            have v32 : gA (sI (tA (tA v 32 (nI m) (nI b)) 33 (nI m) w) 26 (nI (m + 1))) 32 = upd (gA v 32) m (nI b) := by
              rw [gA_sI, gA_tA, if_neg (by decide), gA_tA, if_pos rfl, nI_clamp (by omega)]
            have v33 : gA (sI (tA (tA v 32 (nI m) (nI b)) 33 (nI m) w) 26 (nI (m + 1))) 33 = upd (gA v 33) m w := by
              rw [gA_sI, gA_tA, if_pos rfl, nI_clamp (by omega), gA_tA, if_neg (by decide)]
            refine ⟨m + 1, by omega, rfl, rfl, ?_, ?_, f1, f2, f3, ?_, ?_⟩
            · intro i hi
              rw [u32, u31, v32, v33]
              by_cases c : i = m
              · subst c; rw [upd_s, upd_s, upd_s, upd_s]; exact ⟨rfl, ⟨b, by omega, rfl⟩, rfl⟩
              · rw [upd_n _ _ c, upd_n _ _ c, upd_n _ _ c, upd_n _ _ c]; exact hM i (by omega)
            · intro i j hi hj e
              rw [u32] at e
              by_cases ci : i = m
              · by_cases cj : j = m
                · rw [ci, cj]
                · rw [ci, upd_s, upd_n _ _ cj] at e; exact absurd e.symm (r4 j (by omega) (by omega))
              · by_cases cj : j = m
                · rw [cj, upd_s, upd_n _ _ ci] at e; exact absurd e (r4 i (by omega) (by omega))
                · rw [upd_n _ _ ci, upd_n _ _ cj] at e; exact hinj i j (by omega) (by omega) e
            · exact f4.elim Or.inl (fun ⟨i, hi, e⟩ => Or.inr ⟨i, by omega, e⟩)
            · exact f5.elim Or.inl (fun ⟨⟨i, hi, e⟩, e2, ⟨j, hj, e3⟩⟩ => Or.inr ⟨⟨i, by omega, e⟩, e2, ⟨j, by omega, e3⟩⟩)
        · simp only [f_X9_join, f_X10_join, f_X9_inRange, f_X4_add, noBidder_t ⟨b, hb, rfl⟩, isBidder_t ⟨b, hb, rfl⟩, r1, r2, lt_m1, c1, c2, ob_s, ov_s, lt_e, ↓reduceIte, eq_self, not_true_eq_false, not_false_eq_true, nz_1, nz_m1, nz_m2, nz_m3, nz_m4, nz_m5, nz_m6, nz_m7, nz_m8, nz_m9, nl_m1, nl_m2, nl_m3, nl_m4, nl_m5, nl_m6, nl_m7, nl_m8, nl_m9, ceB, rfB rwd6, rfM rwd6, rlB rwd6, rlM rwd6]
          exact qq_rf hA h _
      · simp only [f_X9_join, f_X10_join, f_X9_inRange, f_X4_add, noBidder_t ⟨b, hb, rfl⟩, isBidder_t ⟨b, hb, rfl⟩, r1, r2, lt_m1, c1, ob_s, ov_s, lt_e, ↓reduceIte, eq_self, not_true_eq_false, not_false_eq_true, nz_1, nz_m1, nz_m2, nz_m3, nz_m4, nz_m5, nz_m6, nz_m7, nz_m8, nz_m9, nl_m1, nl_m2, nl_m3, nl_m4, nl_m5, nl_m6, nl_m7, nl_m8, nl_m9, ceB, rfB rwd4, rfM rwd4, rlB rwd4, rlM rwd4]
        exact qq_rf hA h _
    · have d1 : ¬ nI p = (-1 : Int32) := fun z => nI_pos (n := p) (by omega) (by rw [z]; exact lt_m1)
      have d2 : ¬ nI p < 0 := nI_pos (by omega)
      simp only [f_X9_join, f_X10_join, f_X9_inRange, f_X4_add, noBidder_t ⟨b, hb, rfl⟩, isBidder_t ⟨b, hb, rfl⟩, r1, r2, lt_m1, d1, d2, ob_s, ov_s, lt_e, ↓reduceIte, eq_self, not_true_eq_false, not_false_eq_true, nz_1, nz_m1, nz_m2, nz_m3, nz_m4, nz_m5, nz_m6, nz_m7, nz_m8, nz_m9, nl_m1, nl_m2, nl_m3, nl_m4, nl_m5, nl_m6, nl_m7, nl_m8, nl_m9, ceB, rfB rwd3, rfM rwd3, rlB rwd3, rlM rwd3]
      exact qq_rf hA h _
  · simp only [f_X9_join, f_X10_join, f_X9_inRange, f_X4_add, noBidder_f hbi, isBidder_f hbi, ob_s, ov_s, lt_e, ↓reduceIte, eq_self, not_true_eq_false, not_false_eq_true, nz_1, nz_m1, nz_m2, nz_m3, nz_m4, nz_m5, nz_m6, nz_m7, nz_m8, nz_m9, nl_m1, nl_m2, nl_m3, nl_m4, nl_m5, nl_m6, nl_m7, nl_m8, nl_m9, ceB, rfB rwd1, rfM rwd1, rlB rwd1, rlM rwd1]
    exact qq_rf hA h _
end ST6
