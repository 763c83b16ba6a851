section ST5
variable {FE : (Nat → Int32) → Nat → (Nat → Int32) → Nat → Prop} {AW : (Nat → Int32) → (Nat → Int32) → (Nat → Int64) → (Nat → Int32) → (Nat → Int32) → (Nat → Int32) → Prop} {FD : SS → SS → Prop} {k : Nat} {u v : SS}
/-- FD does not look at the tape -/
def FDtp (FD : SS → SS → Prop) : Prop := ∀ (u v u2 v2 : SS), (∀ i, i ≠ 5 → gI u2 i = gI u i) → (∀ a, a ≠ 14 → gA u2 a = gA u a) → (∀ i, i ≠ 6 → gI v2 i = gI v i) → (∀ a, a ≠ 12 → gA v2 a = gA v a) → FD u v → FD u2 v2
theorem RR_tp {u2 v2 : SS} {n : Nat} (hA4 : FDtp FD) (h : RR FE AW FD k u v) (hI : ∀ i, i ≠ 5 → gI u2 i = gI u i) (hV : ∀ i, i ≠ 6 → gI v2 i = gI v i) (hL : gL u2 8 = gL u 8) (hu : ∀ a, a ≠ 14 → gA u2 a = gA u a) (hv : ∀ a, a ≠ 12 → gA v2 a = gA v a) (hn : n ≤ 80) (e5 : gI u2 5 = nI n) (e6 : gI v2 6 = nI n) : RR FE AW FD (k + 1) u2 v2 := by
  obtain ⟨h1, h2, h3, h4, h5, h6, h7, h8, h9, h10, h11, h12, h13, h14, h15, h16, h17, h18, h19⟩ := h
  have A : ∀ a, a ≠ 14 → gA u2 a = gA u a := hu
  have B : ∀ a, a ≠ 12 → gA v2 a = gA v a := hv
  have hop : Opn u2 ↔ Opn u := by unfold Opn; rw [hI 0 (by omega), hI 1 (by omega)]
  refine ⟨?_, ?_, ?_, ?_, ?_, ?_, ?_, ?_, ⟨n, hn, e5, e6⟩, ?_, ?_, ?_, ?_, ?_, ?_, ?_, ?_, ?_, ?_⟩
  · unfold Rtm; rw [hI 0 (by omega), hI 1 (by omega), hI 2 (by omega), hV 0 (by omega), hV 1 (by omega), hV 2 (by omega)]; exact h1
  · unfold Rst; rw [A 1 (by omega), B 8 (by omega)]; exact h2
  · unfold Rrt; rw [A 2 (by omega), B 0 (by omega)]; exact h3
  · unfold Rbd; rw [A 3 (by omega), A 6 (by omega), A 7 (by omega), A 8 (by omega), A 9 (by omega), B 1 (by omega), B 2 (by omega), B 3 (by omega), B 4 (by omega), B 5 (by omega)]; exact h4
  · unfold Rou; rw [A 3 (by omega), A 4 (by omega), B 6 (by omega)]; exact fun b l hb hl => ⟨(h5 b l hb hl).1, (h5 b l hb hl).2.1, fun z => (h5 b l hb hl).2.2 (z.elim (fun z => Or.inl (hop.mp z)) Or.inr)⟩
  · unfold Ras; rw [A 3 (by omega), A 5 (by omega), B 7 (by omega)]; exact h6
  · unfold Rno; rw [A 10 (by omega), B 9 (by omega)]; exact h7
  · unfold Rba; rw [A 11 (by omega), B 10 (by omega)]; exact h8
  · unfold Rfo; rw [hI 4 (by omega), hV 7 (by omega), A 13 (by omega), B 13 (by omega)]; exact h10
  · unfold Rmo; rw [A 20 (by omega), A 22 (by omega), B 16 (by omega), B 17 (by omega)]; exact h11
  · unfold Raw; rw [hI 0 (by omega), hI 1 (by omega), hI 15 (by omega), hI 16 (by omega), hI 17 (by omega), hI 18 (by omega), hI 19 (by omega), hV 22 (by omega), hV 23 (by omega), hV 24 (by omega), hV 25 (by omega), A 26 (by omega), A 27 (by omega), A 28 (by omega), A 29 (by omega), B 27 (by omega), B 28 (by omega), B 29 (by omega)]; exact Raw_k h12
  · unfold Rfw; rw [hI 20 (by omega), hI 21 (by omega), hI 22 (by omega), hI 23 (by omega), hI 24 (by omega), hV 26 (by omega), hV 27 (by omega), hV 28 (by omega), hV 29 (by omega), hV 30 (by omega), A 31 (by omega), A 32 (by omega), B 32 (by omega), B 33 (by omega)]; exact h13
  · rw [B 18 (by omega)]; exact h14
  · rw [B 24 (by omega)]; exact h15
  · rw [hV 16 (by omega)]; exact h16
  · intro z; rw [hV 16 (by omega)]; exact h17 (hop.mp z)
  · rw [A 25 (by omega), A 30 (by omega), hL, B 24 (by omega), B 25 (by omega), B 26 (by omega)]; exact h18
  · intro z; rw [hV 16 (by omega)] at z; exact hA4 u v u2 v2 hI hu hV hv (h19 z)
/-- the tape alone has changed -/
def Tp (a i n : Nat) (u w : SS) : Prop := gI w i = nI n ∧ (∀ j, j ≠ i → gI w j = gI u j) ∧ (∀ b, b ≠ a → gA w b = gA u b) ∧ ∀ b, gL w b = gL u b
theorem Tp_s {a i n m : Nat} {u w : SS} {x y : Int32} (h : Tp a i n (sI (tA u a x y) i (nI m)) w) : Tp a i n u w :=
  ⟨h.1, fun j hj => (h.2.1 j hj).trans (by rw [gI_sI, if_neg hj, gI_tA]), fun b hb => (h.2.2.1 b hb).trans (by rw [gA_sI, gA_tA, if_neg hb]), fun b => (h.2.2.2 b).trans rfl⟩
theorem tkB (n c0 : Nat) (hn : c0 + n ≤ 80) : ∀ (k i F : Nat) (z : Int64) (u : SS), n ≤ i + k → i ≤ n → k < F → gI u 5 = nI (c0 + i) → ∃ u2, f_X2_take_L6 F (nI n) z (nI i) u = some (nI (c0 + n), u2) ∧ Tp 14 5 (c0 + n) u u2 := by
  intro k
  induction k with
  | zero =>
    intro i F z u h1 h2 h3 h4
    have e : i = n := by omega
    subst e
    match F, h3 with
    | F + 1, _ =>
      refine ⟨u, ?_, h4, fun _ _ => rfl, fun _ _ => rfl, fun _ => rfl⟩
      show b_X2_take_L6 (f_X2_take_L6 F) (nI i) z (nI i) u = _
      unfold b_X2_take_L6
      rw [if_pos (nI_le (Nat.le_refl i) (by omega)), h4]
  | succ k ih =>
    intro i F z u h1 h2 h3 h4
    match F, h3 with
    | F + 1, h3 =>
      by_cases e : i = n
      · subst e
        refine ⟨u, ?_, h4, fun _ _ => rfl, fun _ _ => rfl, fun _ => rfl⟩
        show b_X2_take_L6 (f_X2_take_L6 F) (nI i) z (nI i) u = _
        unfold b_X2_take_L6
        rw [if_pos (nI_le (Nat.le_refl i) (by omega)), h4]
      · obtain ⟨u2, hu, ht⟩ := ih (i + 1) F ((z.toUInt64 >>> ((8 : Int32).toInt64.toUInt64 &&& Int64.toUInt64 63)).toInt64) (sI (tA u 14 (nI (c0 + i)) ((z &&& (255 : Int64)).toInt32)) 5 (nI (c0 + i + 1))) (by omega) (by omega) (by omega) (by rw [gI_sI, if_pos rfl, Nat.add_assoc])
        refine ⟨u2, ?_, Tp_s ht⟩
        show b_X2_take_L6 (f_X2_take_L6 F) (nI n) z (nI i) u = _
        unfold b_X2_take_L6
        rw [if_neg (nI_ge (by omega) (by omega)), h4, if_neg (show ¬ (80 : Int32) ≤ nI (c0 + i) from nI_ge (b := 80) (by omega) (by decide)), oi_nI (by decide) (by omega), lt_e, lt_e, lt_e, lt_e, gI_tA, h4, nI_1, nI_1]
        exact hu
theorem tkM (n c0 : Nat) (hn : c0 + n ≤ 80) : ∀ (k i F : Nat) (z : Int64) (u : SS), n ≤ i + k → i ≤ n → k < F → gI u 6 = nI (c0 + i) → ∃ u2, f_X10_feed_L39 F (nI n) z (nI i) u = some (nI (c0 + n), u2) ∧ Tp 12 6 (c0 + n) u u2 := by
  intro k
  induction k with
  | zero =>
    intro i F z u h1 h2 h3 h4
    have e : i = n := by omega
    subst e
    match F, h3 with
    | F + 1, _ =>
      refine ⟨u, ?_, h4, fun _ _ => rfl, fun _ _ => rfl, fun _ => rfl⟩
      show b_X10_feed_L39 (f_X10_feed_L39 F) (nI i) z (nI i) u = _
      unfold b_X10_feed_L39
      rw [if_pos (nI_le (Nat.le_refl i) (by omega)), h4]
  | succ k ih =>
    intro i F z u h1 h2 h3 h4
    match F, h3 with
    | F + 1, h3 =>
      by_cases e : i = n
      · subst e
        refine ⟨u, ?_, h4, fun _ _ => rfl, fun _ _ => rfl, fun _ => rfl⟩
        show b_X10_feed_L39 (f_X10_feed_L39 F) (nI i) z (nI i) u = _
        unfold b_X10_feed_L39
        rw [if_pos (nI_le (Nat.le_refl i) (by omega)), h4]
      · obtain ⟨u2, hu, ht⟩ := ih (i + 1) F z (sI (tA u 12 (nI (c0 + i)) (((z >>> (((8 : Int32) * nI i).toInt64 &&& 63)) &&& (255 : Int64)).toInt32)) 6 (nI (c0 + i + 1))) (by omega) (by omega) (by omega) (by rw [gI_sI, if_pos rfl, Nat.add_assoc])
        refine ⟨u2, ?_, Tp_s ht⟩
        show b_X10_feed_L39 (f_X10_feed_L39 F) (nI n) z (nI i) u = _
        unfold b_X10_feed_L39
        rw [if_neg (nI_ge (by omega) (by omega)), h4, oi_nI (by decide) (by omega), lt_e, lt_e, lt_e, gI_tA, h4, nI_1, nI_1]
        exact hu
theorem st_feed (hA : FDok FD) (hA4 : FDtp FD) (h : RR FE AW FD k u v) (n : Int32) (z : Int64) : QQ (RR FE AW FD (k + 1)) (f_X9_feed n z u) (f_X10_feed n z v) := by
  obtain ⟨c0, hc0, e5, e6⟩ := h.2.2.2.2.2.2.2.2.1
  by_cases h1 : (1 : Int32) ≤ n
  · by_cases h2 : n ≤ (8 : Int32)
    · obtain ⟨i, hi, rfl⟩ : rg 9 n := rg_mk (by decide) (Int32.not_lt.mpr (le_tr1 h1)) ((le_nI (n := 8) (by decide)).mp h2)
      have g3 : ¬ (8 : Int32) < nI i := Int32.not_lt.mpr h2
      have g2 : nI c0 + nI i ≤ (80 : Int32) ↔ c0 + i ≤ 80 := by rw [nI_add]; exact nI_leI (b := 80) (by omega) (by decide)
      have g1 : nI i ≤ (80 : Int32) - nI c0 ↔ c0 + i ≤ 80 := by
        rw [show (80 : Int32) - nI c0 = nI (80 - c0) from pk_sub (a := 80) hc0, nI_leI (by omega) (by omega)]; omega
      by_cases h3 : c0 + i ≤ 80
      · obtain ⟨u2, hu, tu⟩ := tkB i c0 h3 i 0 FU z u (by omega) (by omega) (Nat.lt_trans (by omega) FU_ge) (by rw [Nat.add_zero]; exact e5)
        obtain ⟨v2, hv, tv⟩ := tkM i c0 h3 i 0 FU z v (by omega) (by omega) (Nat.lt_trans (by omega) FU_ge) (by rw [Nat.add_zero]; exact e6)
        have hu : f_X2_take (nI i) z u = some (nI (c0 + i), u2) := hu
        have hv : f_X10_feed_L39 FU (nI i) z 0 v = some (nI (c0 + i), v2) := hv
        simp only [f_X9_feed, f_X10_feed, f_X10_feed_L29, f_X9_inRange, e5, e6, h1, h2, g1, g2, g3, h3, hu, hv, ob_s, ov_s, lt_e, ↓reduceIte, eq_self, not_true_eq_false, not_false_eq_true, nz_1, nz_m1, nz_m2, nz_m3, nz_m4, nz_m5, nz_m6, nz_m7, nz_m8, nz_m9, nl_m1, nl_m2, nl_m3, nl_m4, nl_m5, nl_m6, nl_m7, nl_m8, nl_m9, ceB]
        exact ⟨_, _, _, _, rfl, rfl, RR_tp hA4 h tu.2.1 tv.2.1 (tu.2.2.2 8) tu.2.2.1 tv.2.2.1 h3 tu.1 tv.1, rfl⟩
      · simp only [f_X9_feed, f_X10_feed, f_X10_feed_L29, f_X9_inRange, e5, e6, h1, h2, g1, g2, g3, h3, ob_s, ov_s, lt_e, ↓reduceIte, eq_self, not_true_eq_false, not_false_eq_true, nz_1, nz_m1, nz_m2, nz_m3, nz_m4, nz_m5, nz_m6, nz_m7, nz_m8, nz_m9, nl_m1, nl_m2, nl_m3, nl_m4, nl_m5, nl_m6, nl_m7, nl_m8, nl_m9, ceB, rfB rwd6, rfM rwd6, rlB rwd6, rlM rwd6]
        exact qq_rf hA h _
    · have g3 : (8 : Int32) < n := Int32.not_le.mp h2
      simp only [f_X9_feed, f_X10_feed, f_X10_feed_L29, f_X9_inRange, h1, h2, g3, ob_s, ov_s, lt_e, ↓reduceIte, eq_self, not_true_eq_false, not_false_eq_true, nz_1, nz_m1, nz_m2, nz_m3, nz_m4, nz_m5, nz_m6, nz_m7, nz_m8, nz_m9, nl_m1, nl_m2, nl_m3, nl_m4, nl_m5, nl_m6, nl_m7, nl_m8, nl_m9, ceB, rfB rwd6, rfM rwd6, rlB rwd6, rlM rwd6]
      exact qq_rf hA h _
  · simp only [f_X9_feed, f_X10_feed, f_X10_feed_L29, f_X9_inRange, h1, ob_s, ov_s, lt_e, ↓reduceIte, eq_self, not_true_eq_false, not_false_eq_true, nz_1, nz_m1, nz_m2, nz_m3, nz_m4, nz_m5, nz_m6, nz_m7, nz_m8, nz_m9, nl_m1, nl_m2, nl_m3, nl_m4, nl_m5, nl_m6, nl_m7, nl_m8, nl_m9, ceB, rfB rwd4, rfM rwd4, rlB rwd4, rlM rwd4]
    exact qq_rf hA h _
end ST5
