section ST10
variable {FE : (Nat → Int32) → Nat → (Nat → Int32) → Nat → Prop} {AW : (Nat → Int32) → (Nat → Int32) → (Nat → Int64) → (Nat → Int32) → (Nat → Int32) → (Nat → Int32) → Prop} {FD : SS → SS → Prop} {k : Nat} {u v : SS}
/-- what FD may not look at: award, challenges, changes -/
def FDaw (FD : SS → SS → Prop) : Prop := ∀ (u v u2 v2 : SS), (∀ i : Nat, i < 15 ∨ 19 < i → gI u2 i = gI u i) → (∀ a : Nat, a < 25 ∨ 30 < a → gA u2 a = gA u a) → (∀ i : Nat, i < 22 ∨ 25 < i → gI v2 i = gI v i) → (∀ a : Nat, a < 24 ∨ 29 < a → gA v2 a = gA v a) → FD u v → FD u2 v2
theorem RR_ch {u2 v2 : SS} (h : RR FE AW FD k u v) (hI : ∀ i : Nat, i ≠ 15 → i ≠ 16 → i ≠ 17 → i ≠ 18 → i ≠ 19 → gI u2 i = gI u i) (hu : ∀ a : Nat, a ≠ 26 → a ≠ 27 → a ≠ 28 → a ≠ 29 → gA u2 a = gA u a) (hL : gL u2 8 = gL u 8) (hV : ∀ i : Nat, i ≠ 22 → i ≠ 23 → i ≠ 24 → i ≠ 25 → gI v2 i = gI v i) (hv : ∀ a : Nat, a ≠ 27 → a ≠ 28 → a ≠ 29 → gA v2 a = gA v a) (r12 : Raw (k + 1) u2 v2) (r19 : gI v2 16 = 1 → FD u2 v2) : RR FE AW FD (k + 1) u2 v2 := by
  obtain ⟨h1, h2, h3, h4, h5, h6, h7, h8, h9, h10, h11, h12, h13, h14, h15, h16, h17, h18, h19⟩ := h
  refine ⟨?_, ?_, ?_, ?_, ?_, ?_, ?_, ?_, ?_, ?_, ?_, r12, ?_, ?_, ?_, ?_, ?_, ?_, r19⟩
  · unfold Rtm; rw [hI 0 (by decide) (by decide) (by decide) (by decide) (by decide), hI 1 (by decide) (by decide) (by decide) (by decide) (by decide), hI 2 (by decide) (by decide) (by decide) (by decide) (by decide), hV 0 (by decide) (by decide) (by decide) (by decide), hV 1 (by decide) (by decide) (by decide) (by decide), hV 2 (by decide) (by decide) (by decide) (by decide)]; exact h1
  · unfold Rst; rw [hu 1 (by decide) (by decide) (by decide) (by decide), hv 8 (by decide) (by decide) (by decide)]; exact h2
  · unfold Rrt; rw [hu 2 (by decide) (by decide) (by decide) (by decide), hv 0 (by decide) (by decide) (by decide)]; exact h3
  · unfold Rbd; rw [hu 3 (by decide) (by decide) (by decide) (by decide), hu 6 (by decide) (by decide) (by decide) (by decide), hu 7 (by decide) (by decide) (by decide) (by decide), hu 8 (by decide) (by decide) (by decide) (by decide), hu 9 (by decide) (by decide) (by decide) (by decide), hv 1 (by decide) (by decide) (by decide), hv 2 (by decide) (by decide) (by decide), hv 3 (by decide) (by decide) (by decide), hv 4 (by decide) (by decide) (by decide), hv 5 (by decide) (by decide) (by decide)]; exact h4
  · have hop : Opn u2 ↔ Opn u := by unfold Opn; rw [hI 0 (by decide) (by decide) (by decide) (by decide) (by decide), hI 1 (by decide) (by decide) (by decide) (by decide) (by decide)]
    unfold Rou; rw [hu 3 (by decide) (by decide) (by decide) (by decide), hu 4 (by decide) (by decide) (by decide) (by decide), hv 6 (by decide) (by decide) (by decide)]; exact fun b l hb hl => ⟨(h5 b l hb hl).1, (h5 b l hb hl).2.1, fun z => (h5 b l hb hl).2.2 (z.elim (fun z => Or.inl (hop.mp z)) Or.inr)⟩
  · unfold Ras; rw [hu 3 (by decide) (by decide) (by decide) (by decide), hu 5 (by decide) (by decide) (by decide) (by decide), hv 7 (by decide) (by decide) (by decide)]; exact h6
  · unfold Rno; rw [hu 10 (by decide) (by decide) (by decide) (by decide), hv 9 (by decide) (by decide) (by decide)]; exact h7
  · unfold Rba; rw [hu 11 (by decide) (by decide) (by decide) (by decide), hv 10 (by decide) (by decide) (by decide)]; exact h8
  · unfold Rtp; rw [hI 5 (by decide) (by decide) (by decide) (by decide) (by decide), hV 6 (by decide) (by decide) (by decide) (by decide)]; exact h9
  · unfold Rfo; rw [hI 4 (by decide) (by decide) (by decide) (by decide) (by decide), hu 13 (by decide) (by decide) (by decide) (by decide), hV 7 (by decide) (by decide) (by decide) (by decide), hv 13 (by decide) (by decide) (by decide)]; exact h10
  · unfold Rmo; rw [hu 20 (by decide) (by decide) (by decide) (by decide), hu 22 (by decide) (by decide) (by decide) (by decide), hv 16 (by decide) (by decide) (by decide), hv 17 (by decide) (by decide) (by decide)]; exact h11
  · unfold Rfw; rw [hI 20 (by decide) (by decide) (by decide) (by decide) (by decide), hI 21 (by decide) (by decide) (by decide) (by decide) (by decide), hI 22 (by decide) (by decide) (by decide) (by decide) (by decide), hI 23 (by decide) (by decide) (by decide) (by decide) (by decide), hI 24 (by decide) (by decide) (by decide) (by decide) (by decide), hu 31 (by decide) (by decide) (by decide) (by decide), hu 32 (by decide) (by decide) (by decide) (by decide), hV 26 (by decide) (by decide) (by decide) (by decide), hV 27 (by decide) (by decide) (by decide) (by decide), hV 28 (by decide) (by decide) (by decide) (by decide), hV 29 (by decide) (by decide) (by decide) (by decide), hV 30 (by decide) (by decide) (by decide) (by decide), hv 32 (by decide) (by decide) (by decide), hv 33 (by decide) (by decide) (by decide)]; exact h13
  · rw [hv 18 (by decide) (by decide) (by decide)]; exact h14
  · rw [hv 24 (by decide) (by decide) (by decide)]; exact h15
  · rw [hV 16 (by decide) (by decide) (by decide) (by decide)]; exact h16
  · have hop : Opn u2 ↔ Opn u := by unfold Opn; rw [hI 0 (by decide) (by decide) (by decide) (by decide) (by decide), hI 1 (by decide) (by decide) (by decide) (by decide) (by decide)]
    intro z; rw [hV 16 (by decide) (by decide) (by decide) (by decide)]; exact h17 (hop.mp z)
  · rw [hu 25 (by decide) (by decide) (by decide) (by decide), hu 30 (by decide) (by decide) (by decide) (by decide), hv 24 (by decide) (by decide) (by decide), hv 25 (by decide) (by decide) (by decide), hv 26 (by decide) (by decide) (by decide), hL]; exact h18
theorem RR_ch2 {u2 v2 : SS} (hA6 : FDaw FD) (h : RR FE AW FD k u v) (hI : ∀ i : Nat, i ≠ 15 → i ≠ 16 → i ≠ 17 → i ≠ 18 → i ≠ 19 → gI u2 i = gI u i) (hu : ∀ a : Nat, a ≠ 26 → a ≠ 27 → a ≠ 28 → a ≠ 29 → gA u2 a = gA u a) (hL : gL u2 8 = gL u 8) (hV : ∀ i : Nat, i ≠ 22 → i ≠ 23 → i ≠ 24 → i ≠ 25 → gI v2 i = gI v i) (hv : ∀ a : Nat, a ≠ 27 → a ≠ 28 → a ≠ 29 → gA v2 a = gA v a) (r12 : Raw (k + 1) u2 v2) : RR FE AW FD (k + 1) u2 v2 := by
  refine RR_ch h hI hu hL hV hv r12 (fun z => ?_)
  rw [hV 16 (by decide) (by decide) (by decide) (by decide)] at z
  exact hA6 u v u2 v2 (fun i hi => hI i (by omega) (by omega) (by omega) (by omega) (by omega)) (fun a ha => hu a (by omega) (by omega) (by omega) (by omega)) (fun i hi => hV i (by omega) (by omega) (by omega) (by omega)) (fun a ha => hv a (by omega) (by omega) (by omega)) (h.2.2.2.2.2.2.2.2.2.2.2.2.2.2.2.2.2.2 z)
theorem cl_c (l : Int32) (L : Nat) : (∃ j : Nat, j < L ∧ l = nI j) ∨ ¬ rg L l := Classical.em _
theorem in_c (x : Int32) (n : Nat) : (∃ j : Nat, j < n ∧ x = nI j) ∨ ¬ rg n x := Classical.em _
theorem st_challenge (hA : FDok FD) (h : RR FE AW FD k u v) (l : Int32) (s : Int32) (hA6 : FDaw FD) : QQ (RR FE AW FD (k + 1)) (f_X9_challenge l s u) (f_X10_challenge l s v) := by
  obtain ⟨⟨t, L, ht, hL1, hL6, e0, e0m, e2, e2m, e1, e1c⟩, h2, h3, h4, h5, h6, h7, h8, h9, h10, h11, ⟨hz, e22, b15, e23, b16, e24, r, hr, e18, c, hc, e17, e25, hz0, hq⟩, h13⟩ := id h
  rcases cl_c l L with ⟨j, hj, rfl⟩ | hl
  rotate_left
  · simp only [f_X9_challenge, f_X10_challenge, f_X9_challenge_L23, f_X9_challenge_L67, f_X10_challenge_L55, f_X0_isStandstillOver, f_X0_addChallenge, noLot_f e2 hL6 hl, isLot_f e2m hL1 hL6 hl, ob_s, ov_s, lt_e, ↓reduceIte, eq_self, not_true_eq_false, not_false_eq_true, nz_1, nz_m1, nz_m2, nz_m3, nz_m4, nz_m5, nz_m6, nz_m7, nz_m8, nz_m9, nl_m1, nl_m2, nl_m3, nl_m4, nl_m5, nl_m6, nl_m7, nl_m8, nl_m9, ceB, rfB rwd1, rfM rwd1, rlB rwd1, rlM rwd1]
    exact qq_rf hA h _
  have a1 := noLot_t (u := u) e2 hL6 ⟨j, hj, rfl⟩
  have a2 := isLot_t (u := v) e2m hL1 hL6 ⟨j, hj, rfl⟩
  rcases in_c s 3 with ⟨q, hq3, rfl⟩ | hs
  rotate_left
  · have d1 := in_f (c := 2) (n := 2) (by decide) (by decide) hs v
    by_cases c1 : s < 0
    · simp only [f_X9_challenge, f_X10_challenge, f_X9_challenge_L23, f_X9_challenge_L67, f_X10_challenge_L55, f_X0_isStandstillOver, f_X0_addChallenge, a1, a2, d1, c1, ob_s, ov_s, lt_e, ↓reduceIte, eq_self, not_true_eq_false, not_false_eq_true, nz_1, nz_m1, nz_m2, nz_m3, nz_m4, nz_m5, nz_m6, nz_m7, nz_m8, nz_m9, nl_m1, nl_m2, nl_m3, nl_m4, nl_m5, nl_m6, nl_m7, nl_m8, nl_m9, ceB, rfB rwd2, rfM rwd2, rlB rwd2, rlM rwd2]
      exact qq_rf hA h _
    · have c2 : ¬ s < (3 : Int32) := fun z => hs (rg_mk (by decide) c1 z)
      simp only [f_X9_challenge, f_X10_challenge, f_X9_challenge_L23, f_X9_challenge_L67, f_X10_challenge_L55, f_X0_isStandstillOver, f_X0_addChallenge, a1, a2, d1, c1, c2, ob_s, ov_s, lt_e, ↓reduceIte, eq_self, not_true_eq_false, not_false_eq_true, nz_1, nz_m1, nz_m2, nz_m3, nz_m4, nz_m5, nz_m6, nz_m7, nz_m8, nz_m9, nl_m1, nl_m2, nl_m3, nl_m4, nl_m5, nl_m6, nl_m7, nl_m8, nl_m9, ceB, rfB rwd2, rfM rwd2, rlB rwd2, rlM rwd2]
      exact qq_rf hA h _
  have d1 := in_t (c := 2) (n := 2) (by decide) (by decide) ⟨q, hq3, rfl⟩ v
  have d2 : ¬ nI q < 0 := nI_pos (by omega)
  have d3 : nI q < (3 : Int32) := nI_lt (b := 3) hq3 (by decide)
  rcases b15 with b15 | b15
  · have e22b := e22.trans b15
    simp only [f_X9_challenge, f_X10_challenge, f_X9_challenge_L23, f_X9_challenge_L67, f_X10_challenge_L55, f_X0_isStandstillOver, f_X0_addChallenge, a1, a2, d1, d2, d3, b15, e22b, ob_s, ov_s, lt_e, ↓reduceIte, eq_self, not_true_eq_false, not_false_eq_true, nz_1, nz_m1, nz_m2, nz_m3, nz_m4, nz_m5, nz_m6, nz_m7, nz_m8, nz_m9, nl_m1, nl_m2, nl_m3, nl_m4, nl_m5, nl_m6, nl_m7, nl_m8, nl_m9, ceB, rfB rwd3, rfM rwd3, rlB rwd3, rlM rwd3]
    exact qq_rf hA h _
  have e22b := e22.trans b15
  rcases b16 with b16 | b16
  rotate_left
  · have e23b := e23.trans b16
    simp only [f_X9_challenge, f_X10_challenge, f_X9_challenge_L23, f_X9_challenge_L67, f_X10_challenge_L55, f_X0_isStandstillOver, f_X0_addChallenge, a1, a2, d1, d2, d3, b15, e22b, b16, e23b, ob_s, ov_s, lt_e, ↓reduceIte, eq_self, not_true_eq_false, not_false_eq_true, nz_1, nz_m1, nz_m2, nz_m3, nz_m4, nz_m5, nz_m6, nz_m7, nz_m8, nz_m9, nl_m1, nl_m2, nl_m3, nl_m4, nl_m5, nl_m6, nl_m7, nl_m8, nl_m9, ceB, rfB rwd3, rfM rwd3, rlB rwd3, rlM rwd3]
    exact qq_rf hA h _
  have e23b := e23.trans b16
  by_cases c1 : nI t ≤ gI u 19
  rotate_left
  · have e24b : ¬ nI t ≤ gI v 24 := by rw [e24]; exact c1
    simp only [f_X9_challenge, f_X10_challenge, f_X9_challenge_L23, f_X9_challenge_L67, f_X10_challenge_L55, f_X0_isStandstillOver, f_X0_addChallenge, a1, a2, d1, d2, d3, b15, e22b, b16, e23b, e0, e0m, c1, e24b, ob_s, ov_s, lt_e, ↓reduceIte, eq_self, not_true_eq_false, not_false_eq_true, nz_1, nz_m1, nz_m2, nz_m3, nz_m4, nz_m5, nz_m6, nz_m7, nz_m8, nz_m9, nl_m1, nl_m2, nl_m3, nl_m4, nl_m5, nl_m6, nl_m7, nl_m8, nl_m9, ceB, rfB rwd3, rfM rwd3, rlB rwd3, rlM rwd3]
    exact qq_rf hA h _
  have e24b : nI t ≤ gI v 24 := by rw [e24]; exact c1
  by_cases c2 : c = 20
  · subst c2
    simp only [f_X9_challenge, f_X10_challenge, f_X9_challenge_L23, f_X9_challenge_L67, f_X10_challenge_L55, f_X0_isStandstillOver, f_X0_addChallenge, a1, a2, d1, d2, d3, b15, e22b, b16, e23b, e0, e0m, c1, e24b, e17, e25, show ¬ nI 20 < (20 : Int32) by decide, show nI 20 = (20 : Int32) by decide, ob_s, ov_s, lt_e, ↓reduceIte, eq_self, not_true_eq_false, not_false_eq_true, nz_1, nz_m1, nz_m2, nz_m3, nz_m4, nz_m5, nz_m6, nz_m7, nz_m8, nz_m9, nl_m1, nl_m2, nl_m3, nl_m4, nl_m5, nl_m6, nl_m7, nl_m8, nl_m9, ceB, rfB rwd6, rfM rwd6, rlB rwd6, rlM rwd6]
    exact qq_rf hA h _
  have c3 : nI c < (20 : Int32) := nI_lt (b := 20) (by omega) (by decide)
  have c4 : ¬ nI c = (20 : Int32) := fun y => c2 ((nI_eq (b := 20) (by omega) (by decide)).mp y)
  simp (decide := true) only [f_X9_challenge, f_X10_challenge, f_X9_challenge_L23, f_X9_challenge_L67, f_X10_challenge_L55, f_X0_isStandstillOver, f_X0_addChallenge, a1, a2, d1, d2, d3, b15, e22b, b16, e23b, e0, e0m, c1, e24b, e17, e25, c3, c4, oi_nI (show 20 < 2 ^ 31 by decide) (show c < 20 by omega), e18, sIe, sIn, sJe, sJn, tAe, tAn, tZe, tZn, tLe, tLn, gI_tA, gI_tZ, gI_tL, gI_sJ, gA_sI, gA_sJ, gA_tL, gJ_sI, gJ_tA, gJ_tZ, gJ_tL, gL_sI, gL_sJ, gL_tA, gL_tZ, nar_0, nar_1, ob_s, ov_s, lt_e, ↓reduceIte, eq_self, not_true_eq_false, not_false_eq_true, nz_1, nz_m1, nz_m2, nz_m3, nz_m4, nz_m5, nz_m6, nz_m7, nz_m8, nz_m9, nl_m1, nl_m2, nl_m3, nl_m4, nl_m5, nl_m6, nl_m7, nl_m8, nl_m9, ceB]
  refine ⟨_, _, _, _, rfl, rfl, RR_ch2 hA6 h (fun i i1 i2 i3 i4 i5 => by rw [sIn i3]; rfl) (fun a a1 a2 a3 a4 => by rw [gA_sI, tAn a4, tAn a2, tAn a1]) rfl (fun i i1 i2 i3 i4 => by rw [sIn i4]; rfl) (fun a a1 a2 a3 => by rw [gA_sI, tZn a3, tAn a2, tAn a1]) ?_, ?_⟩
  rotate_left
  · rw [nI_1]; exact (nI_pred _).symm
  refine ⟨hz, e22, Or.inr b15, e23, Or.inl b16, e24, r, Nat.le_succ_of_le hr, e18, c + 1, by omega, nI_1 c, nI_1 c, fun i i1 i2 => hz0 i (by omega) i2, fun i hi => ?_⟩
  show eN 5 (upd (gA u 26) (nI c).toNatClampNeg (nI j) i) ∧ upd (gA v 27) (nI c).toNatClampNeg (nI j) i = upd (gA u 26) (nI c).toNatClampNeg (nI j) i ∧ eN 2 (upd (gA u 27) (nI c).toNatClampNeg (nI q) i) ∧ upd (gA v 28) (nI c).toNatClampNeg (nI q) i = upd (gA u 27) (nI c).toNatClampNeg (nI q) i ∧ bo (gA u 28 i) ∧ (∃ q : Nat, q ≤ r ∧ upd (gA u 29) (nI c).toNatClampNeg (nI r) i = nI q) ∧ upd (gA v 29) (nI c).toNatClampNeg (vp_nar .boolean 1) i = (if gI u 15 = 1 ∧ gA u 28 i = 0 ∧ upd (gA u 29) (nI c).toNatClampNeg (nI r) i = gI u 18 then 1 else 0)
  rw [nI_clamp (by omega), nar_1]
  by_cases ci : i = c
  · subst ci
    simp only [upd_s]
    exact ⟨⟨j, by omega, rfl⟩, trivial, ⟨q, by omega, rfl⟩, trivial, Or.inl (hz0 i (Nat.le_refl _) (by omega)), ⟨r, Nat.le_refl _, rfl⟩, (if_pos ⟨b15, hz0 i (Nat.le_refl _) (by omega), e18.symm⟩).symm⟩
  · simp only [upd_n _ _ ci]
    exact hq i (by omega)
theorem hoB {c : Nat} (hc : c ≤ 20) (b15 : bo (gI u 15)) {i : Nat} (hi : i < c) (e : gA v 29 i = (if gI u 15 = 1 ∧ gA u 28 i = 0 ∧ gA u 29 i = gI u 18 then 1 else 0)) : f_X0_holds (nI i) u = some (gA v 29 i, u) := by
  unfold f_X0_holds
  rw [e, nI_clamp (by omega), oi_nI (by decide) (show i < 20 by omega), oi_nI (by decide) (show i < 20 by omega)]
  rcases b15 with b | b
  · rw [if_pos b, if_neg (fun z => n01 (b.symm.trans z.1))]
  · rw [if_neg (show ¬ gI u 15 = 0 by rw [b]; exact nz_1)]
    by_cases c1 : gA u 28 i = 0
    · rw [if_pos c1]
      by_cases c2 : gA u 29 i = gI u 18
      · rw [if_pos c2, if_pos ⟨b, c1, c2⟩]
      · rw [if_neg c2, if_neg (fun z => c2 z.2.2)]
    · rw [if_neg c1, if_neg (fun z => c1 z.2.1)]
def hN (f : Nat → Int32) : Nat → Nat
  | 0 => 0
  | i + 1 => hN f i + (if f i = 0 then 0 else 1)
theorem hN_z {f : Nat → Int32} {i : Nat} (h : f i = 0) : hN f (i + 1) = hN f i := by
  show hN f i + (if f i = 0 then 0 else 1) = hN f i
  rw [if_pos h, Nat.add_zero]
theorem hN_s {f : Nat → Int32} {i : Nat} (h : ¬ f i = 0) : hN f (i + 1) = hN f i + 1 := by
  show hN f i + (if f i = 0 then 0 else 1) = hN f i + 1
  rw [if_neg h]
theorem hN_le (f : Nat → Int32) (i : Nat) : hN f i ≤ i := by
  induction i with
  | zero => exact Nat.le_refl _
  | succ i ih =>
    by_cases c : f i = 0
    · rw [hN_z c]; omega
    · rw [hN_s c]; omega
theorem to_eq {ρ : Type} {o : Option ρ} {x : ρ} (h : TO (fun p => p = x) o) : o = some x := by
  obtain ⟨r, e, q⟩ := h
  rw [e, q]
theorem chB {c : Nat} (hc : c ≤ 20) (e17 : gI u 17 = nI c) (H : ∀ i : Nat, i < c → f_X0_holds (nI i) u = some (gA v 29 i, u)) : f_X0_countHolding u = some (nI (hN (gA v 29) c), u) := by
  refine to_eq (loopR (fun F (x : Int32 × Int32 × SS) => f_X0_countHolding_L4 F x.1 x.2.1 x.2.2) (fun i x => x = (nI (hN (gA v 29) i), nI i, u)) _ c ?_ (F := FU) (x := ((0 : Int32), (0 : Int32), u)) (Nat.lt_trans (show c < 1000 by omega) FU_ge) rfl)
  intro F x i hi hI hc2
  subst hI
  show TO _ (b_X0_countHolding_L4 (f_X0_countHolding_L4 F) (nI (hN (gA v 29) i)) (nI i) u)
  unfold b_X0_countHolding_L4
  rw [e17]
  by_cases z : i = c
  · subst z
    rw [if_pos (nI_le (Nat.le_refl _) (by omega))]; exact to_s rfl
  · rw [if_neg (nI_ge (show i < c by omega) (by omega)), if_neg (show ¬ (20 : Int32) ≤ nI i from nI_ge (b := 20) (by omega) (by decide)), H i (by omega), ob_s]
    unfold f_X0_countHolding_L29
    by_cases z2 : gA v 29 i = 0
    · rw [if_pos z2, lt_e, nI_1]
      refine hc2 (nI (hN (gA v 29) i), nI (i + 1), u) (by omega) ?_
      rw [hN_z z2]
    · rw [if_neg z2, lt_e, lt_e, nI_1, nI_1]
      refine hc2 (nI (hN (gA v 29) i + 1), nI (i + 1), u) (by omega) ?_
      rw [hN_s z2]
theorem hdM {c : Nat} (hc : c ≤ 20) (e25 : gI v 25 = nI c) : f_X10_holding v = some (nI (hN (gA v 29) c), v) := by
  refine to_eq (loopR (fun F (x : Int32 × Int32 × SS) => f_X10_holding_L4 F x.1 x.2.1 x.2.2) (fun i x => x = (nI (hN (gA v 29) i), nI i, v)) _ c ?_ (F := FU) (x := ((0 : Int32), (0 : Int32), v)) (Nat.lt_trans (show c < 1000 by omega) FU_ge) rfl)
  intro F x i hi hI hc2
  subst hI
  show TO _ (b_X10_holding_L4 (f_X10_holding_L4 F) (nI (hN (gA v 29) i)) (nI i) v)
  unfold b_X10_holding_L4
  rw [e25]
  by_cases z : i = c
  · subst z
    rw [if_pos (nI_le (Nat.le_refl _) (by omega))]; exact to_s rfl
  · rw [if_neg (nI_ge (show i < c by omega) (by omega)), oi_nI (by decide) (show i < 20 by omega), nI_clamp (by omega)]
    unfold f_X10_holding_L27
    by_cases z2 : gA v 29 i = 0
    · rw [if_pos z2, lt_e, lt_e, nI_1, Int32.add_zero]
      refine hc2 (nI (hN (gA v 29) i), nI (i + 1), v) (by omega) ?_
      rw [hN_z z2]
    · rw [if_neg z2, lt_e, lt_e, nI_1, nI_1]
      refine hc2 (nI (hN (gA v 29) i + 1), nI (i + 1), v) (by omega) ?_
      rw [hN_s z2]
theorem st_sign (hA : FDok FD) (hA6 : FDaw FD) (h : RR FE AW FD k u v) : QQ (RR FE AW FD (k + 1)) (f_X9_sign u) (f_X10_sign v) := by
  obtain ⟨⟨t, L, ht, hL1, hL6, e0, e0m, e2, e2m, e1, e1c⟩, h2, h3, h4, h5, h6, h7, h8, h9, h10, h11, ⟨hz, e22, b15, e23, b16, e24, r, hr, e18, c, hc, e17, e25, hz0, hq⟩, h13⟩ := id h
  rcases b15 with b15 | b15
  · have e22b := e22.trans b15
    simp only [f_X9_sign, f_X10_sign, f_X9_sign_L47, f_X10_sign_L32, f_X0_isStandstillOver, b15, e22b, ob_s, ov_s, lt_e, ↓reduceIte, eq_self, not_true_eq_false, not_false_eq_true, nz_1, nz_m1, nz_m2, nz_m3, nz_m4, nz_m5, nz_m6, nz_m7, nz_m8, nz_m9, nl_m1, nl_m2, nl_m3, nl_m4, nl_m5, nl_m6, nl_m7, nl_m8, nl_m9, ceB, rfB rwd3, rfM rwd3, rlB rwd3, rlM rwd3]
    exact qq_rf hA h _
  have e22b := e22.trans b15
  rcases b16 with b16 | b16
  rotate_left
  · have e23b := e23.trans b16
    simp only [f_X9_sign, f_X10_sign, f_X9_sign_L47, f_X10_sign_L32, f_X0_isStandstillOver, b15, e22b, b16, e23b, ob_s, ov_s, lt_e, ↓reduceIte, eq_self, not_true_eq_false, not_false_eq_true, nz_1, nz_m1, nz_m2, nz_m3, nz_m4, nz_m5, nz_m6, nz_m7, nz_m8, nz_m9, nl_m1, nl_m2, nl_m3, nl_m4, nl_m5, nl_m6, nl_m7, nl_m8, nl_m9, ceB, rfB rwd3, rfM rwd3, rlB rwd3, rlM rwd3]
    exact qq_rf hA h _
  have e23b := e23.trans b16
  by_cases c1 : nI t ≤ gI u 19
  · have e24b : nI t ≤ gI v 24 := by rw [e24]; exact c1
    simp only [f_X9_sign, f_X10_sign, f_X9_sign_L47, f_X10_sign_L32, f_X0_isStandstillOver, b15, e22b, b16, e23b, e0, e0m, c1, e24b, ob_s, ov_s, lt_e, ↓reduceIte, eq_self, not_true_eq_false, not_false_eq_true, nz_1, nz_m1, nz_m2, nz_m3, nz_m4, nz_m5, nz_m6, nz_m7, nz_m8, nz_m9, nl_m1, nl_m2, nl_m3, nl_m4, nl_m5, nl_m6, nl_m7, nl_m8, nl_m9, ceB, rfB rwd3, rfM rwd3, rlB rwd3, rlM rwd3]
    exact qq_rf hA h _
  have e24b : ¬ nI t ≤ gI v 24 := by rw [e24]; exact c1
  have d1 := chB (v := v) hc e17 (fun i hi => hoB hc (Or.inr b15) hi (hq i hi).2.2.2.2.2.2)
  have d2 := hdM hc e25
  by_cases c2 : hN (gA v 29) c = 0
  rotate_left
  · have c3 : ¬ nI (hN (gA v 29) c) ≤ 0 := nI_nle (by omega) (by have := hN_le (gA v 29) c; omega)
    simp only [f_X9_sign, f_X10_sign, f_X9_sign_L47, f_X10_sign_L32, f_X0_isStandstillOver, b15, e22b, b16, e23b, e0, e0m, c1, e24b, d1, d2, c3, ob_s, ov_s, lt_e, ↓reduceIte, eq_self, not_true_eq_false, not_false_eq_true, nz_1, nz_m1, nz_m2, nz_m3, nz_m4, nz_m5, nz_m6, nz_m7, nz_m8, nz_m9, nl_m1, nl_m2, nl_m3, nl_m4, nl_m5, nl_m6, nl_m7, nl_m8, nl_m9, ceB, rfB rwd3, rfM rwd3, rlB rwd3, rlM rwd3]
    exact qq_rf hA h _
  have c3 : nI (hN (gA v 29) c) ≤ 0 := by rw [c2]; decide
  simp only [f_X9_sign, f_X10_sign, f_X9_sign_L47, f_X10_sign_L32, f_X0_isStandstillOver, b15, e22b, b16, e23b, e0, e0m, c1, e24b, d1, d2, c3, ob_s, ov_s, lt_e, ↓reduceIte, eq_self, not_true_eq_false, not_false_eq_true, nz_1, nz_m1, nz_m2, nz_m3, nz_m4, nz_m5, nz_m6, nz_m7, nz_m8, nz_m9, nl_m1, nl_m2, nl_m3, nl_m4, nl_m5, nl_m6, nl_m7, nl_m8, nl_m9, ceB]
  exact ⟨_, _, _, _, rfl, rfl, RR_ch2 hA6 h (fun i i1 i2 i3 i4 i5 => by rw [sIn i2]) (fun a a1 a2 a3 a4 => rfl) rfl (fun i i1 i2 i3 i4 => by rw [sIn i2]) (fun a a1 a2 a3 => rfl) ⟨hz, e22, Or.inr b15, rfl, Or.inr rfl, e24, r, Nat.le_succ_of_le hr, e18, c, hc, e17, e25, hz0, hq⟩, rfl⟩
theorem st_awarded (hA : FDok FD) (h : RR FE AW FD k u v) (l : Int32) : QN (RR FE AW FD (k + 1)) (f_X9_awarded l u) (f_X10_awarded l v) := by
  obtain ⟨⟨t, L, ht, hL1, hL6, e0, e0m, e2, e2m, e1, e1c⟩, h2, h3, h4, h5, h6, h7, h8, h9, h10, h11, ⟨hz, e22, b15, e23, b16, e24, r, hr, e18, c, hc, e17, e25, hz0, hq⟩, h13⟩ := id h
  rcases cl_c l L with ⟨j, hj, rfl⟩ | hl
  rotate_left
  · simp only [f_X9_awarded, f_X10_awarded, noLot_f e2 hL6 hl, isLot_f e2m hL1 hL6 hl, ob_s, ov_s, lt_e, ↓reduceIte, eq_self, not_true_eq_false, not_false_eq_true, nz_1, nz_m1, nz_m2, nz_m3, nz_m4, nz_m5, nz_m6, nz_m7, nz_m8, nz_m9, nl_m1, nl_m2, nl_m3, nl_m4, nl_m5, nl_m6, nl_m7, nl_m8, nl_m9, ceB, rfB rwd1, rfM rwd1, rlB rwd1, rlM rwd1]
    exact qn_rf hA h _
  have a1 := noLot_t (u := u) e2 hL6 ⟨j, hj, rfl⟩
  have a2 := isLot_t (u := v) e2m hL1 hL6 ⟨j, hj, rfl⟩
  rcases b15 with b15 | b15
  · have e22b := e22.trans b15
    simp only [f_X9_awarded, f_X10_awarded, a1, a2, b15, e22b, ob_s, ov_s, lt_e, ↓reduceIte, eq_self, not_true_eq_false, not_false_eq_true, nz_1, nz_m1, nz_m2, nz_m3, nz_m4, nz_m5, nz_m6, nz_m7, nz_m8, nz_m9, nl_m1, nl_m2, nl_m3, nl_m4, nl_m5, nl_m6, nl_m7, nl_m8, nl_m9, ceB, rfB rwd3, rfM rwd3, rlB rwd3, rlM rwd3]
    exact qn_rf hA h _
  · have e22b := e22.trans b15
    simp only [f_X9_awarded, f_X10_awarded, a1, a2, b15, e22b, oi_nI (show 6 < 2 ^ 31 by decide) (show j < 6 by omega), ob_s, ov_s, lt_e, ↓reduceIte, eq_self, not_true_eq_false, not_false_eq_true, nz_1, nz_m1, nz_m2, nz_m3, nz_m4, nz_m5, nz_m6, nz_m7, nz_m8, nz_m9, nl_m1, nl_m2, nl_m3, nl_m4, nl_m5, nl_m6, nl_m7, nl_m8, nl_m9, ceB]
    exact ⟨_, _, _, _, rfl, rfl, RR_k h, trivial⟩
end ST10
