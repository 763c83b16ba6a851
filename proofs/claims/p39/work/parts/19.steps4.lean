section ST4
variable {FE : (Nat → Int32) → Nat → (Nat → Int32) → Nat → Prop} {AW : (Nat → Int32) → (Nat → Int32) → (Nat → Int64) → (Nat → Int32) → (Nat → Int32) → (Nat → Int32) → Prop} {FD : SS → SS → Prop} {k : Nat} {u v : SS}
def QN {α : Type} (P : SS → SS → Prop) (x y : Option (α × SS)) : Prop := ∃ (r : α) (u' : SS) (r2 : α) (v' : SS), x = some (r, u') ∧ y = some (r2, v') ∧ P u' v' ∧ True
theorem qn_rf (hA : FDok FD) (h : RR FE AW FD k u v) (w : Int32) : QN (RR FE AW FD (k + 1)) (some (w, rsB u w)) (some (w, rsM v w)) := ⟨_, _, _, _, rfl, rfl, RR_rf hA h w, trivial⟩
/-- FD does not look at a request that has not lapsed when it is answered -/
def FDans (FD : SS → SS → Prop) : Prop := ∀ (u v : SS) (c d : Nat), ¬ Lps u c → FD u v → FD (tA u 5 (nI c) 0) (tA v 7 (nI d) (-1))
theorem noB (s c : Nat) : nI s * (48 : Int32) + nI c = nI (s * 48 + c) := by
  show nI s * nI 48 + nI c = _
  rw [pk_mul, nI_add]
theorem noM (s i j : Nat) : (48 : Int32) * nI s + (8 : Int32) * nI j + nI i = nI (48 * s + (8 * j + i)) := by
  show nI 48 * nI s + nI 8 * nI j + nI i = _
  rw [pk_mul, pk_mul, nI_add, nI_add, Nat.add_assoc]
theorem lt_9 : (-9 : Int32) < 0 := by decide
theorem st_note (hA : FDok FD) (h : RR FE AW FD k u v) (sc b l w : Int32) : QQ (RR FE AW FD (k + 1)) (f_X9_note sc b l w u) (f_X10_note sc b l w v) := by
  obtain ⟨⟨t, L, ht, hL1, hL6, e0, e0m, e2, e2m, e1, e1c⟩, h2, h3, h4, h5, h6, h7, h8, h9, h10, h11, h12, h13, h14, h15, h16, h17, h18, h19⟩ := id h
  by_cases hsc : rg 6 sc
  · obtain ⟨s, hs, rfl⟩ := hsc
    rcases bl_c b l L hL6 with ⟨i, j, hi, hj, hj6, rfl, rfl⟩ | hbl
    rotate_left
    · simp only [f_X9_note, f_X10_note, f_X9_note_L16, f_X9_inRange, f_X5_put, f_X10_note_L108, noScorer_t (show rg 6 (nI s) from ⟨s, hs, rfl⟩), isScorer_t (show rg 6 (nI s) from ⟨s, hs, rfl⟩), noBid_f e2 hL6 hbl, fl_f e2m hL1 hL6 hbl, ob_s, ov_s, lt_e, ↓reduceIte, eq_self, not_true_eq_false, not_false_eq_true, nz_1, nz_m1, nz_m2, nz_m3, nz_m4, nz_m5, nz_m6, nz_m7, nz_m8, nz_m9, nl_m1, nl_m2, nl_m3, nl_m4, nl_m5, nl_m6, nl_m7, nl_m8, nl_m9, ceB, rfB rwd1, rfM rwd1, rlB rwd1, rlM rwd1]
      exact qq_rf hA h _
    · rcases Std_c u (i * 6 + j) with hst | hst
      · rcases Opn_dec u with ho | ho
        · simp only [f_X9_note, f_X10_note, f_X9_note_L16, f_X9_inRange, f_X5_put, f_X10_note_L108, noScorer_t (show rg 6 (nI s) from ⟨s, hs, rfl⟩), isScorer_t (show rg 6 (nI s) from ⟨s, hs, rfl⟩), noBid_t e2 hL6 ⟨⟨i, hi, rfl⟩, ⟨j, hj, rfl⟩⟩, cellB, stdB_t (show i * 6 + j < 48 by omega) hst, fl_1 h e2m hL1 hL6 hi hj hst, le_00, opB_t ho, opM_t h.1 ho, ob_s, ov_s, lt_e, ↓reduceIte, eq_self, not_true_eq_false, not_false_eq_true, nz_1, nz_m1, nz_m2, nz_m3, nz_m4, nz_m5, nz_m6, nz_m7, nz_m8, nz_m9, nl_m1, nl_m2, nl_m3, nl_m4, nl_m5, nl_m6, nl_m7, nl_m8, nl_m9, ceB, rfB rwd3, rfM rwd3, rlB rwd3, rlM rwd3]
          exact qq_rf hA h _
        · by_cases c1 : (0 : Int32) ≤ w
          · by_cases c2 : w ≤ (100 : Int32)
            · obtain ⟨q, hq, rfl⟩ := eN_mk (m := 100) (by decide) (by decide) c1 c2
              have hR : RR FE AW FD (k + 1) (tA u 10 (nI (s * 48 + (i * 6 + j))) (nI q)) (sI (tA v 9 (nI (48 * s + (8 * j + i))) (nI q)) 16 0) := by
                refine ⟨⟨t, L, ht, hL1, hL6, e0, e0m, e2, e2m, e1, e1c⟩, h2, h3, h4, h5, h6, fun s2 b2 l2 hs2 hb2 hl2 => ?_, h8, h9, h10, h11, Raw_k h12, h13, h14, h15, Or.inl rfl, fun _ => rfl, h18, fun z => (n01 z).elim⟩
                show (upd (gA u 10) (nI (s * 48 + (i * 6 + j))).toNatClampNeg (nI q) (s2 * 48 + (b2 * 6 + l2)) = -9 ∧ upd (gA v 9) (nI (48 * s + (8 * j + i))).toNatClampNeg (nI q) (48 * s2 + (8 * l2 + b2)) = -1) ∨ ∃ n : Nat, n ≤ 100 ∧ upd (gA u 10) (nI (s * 48 + (i * 6 + j))).toNatClampNeg (nI q) (s2 * 48 + (b2 * 6 + l2)) = nI n ∧ upd (gA v 9) (nI (48 * s + (8 * j + i))).toNatClampNeg (nI q) (48 * s2 + (8 * l2 + b2)) = nI n
                rw [nI_clamp (by omega), nI_clamp (by omega)]
                by_cases c : s2 = s ∧ b2 = i ∧ l2 = j
                · obtain ⟨rfl, rfl, rfl⟩ := c
                  rw [upd_s, upd_s]; exact Or.inr ⟨q, hq, rfl, rfl⟩
                · rw [upd_n _ _ (by omega), upd_n _ _ (by omega)]; exact h7 s2 b2 l2 hs2 hb2 hl2
              rcases h7 s i j hs hi hj6 with ⟨d1, d2⟩ | ⟨n, hn, d1, d2⟩
              · simp only [f_X9_note, f_X10_note, f_X9_note_L16, f_X9_inRange, f_X5_put, f_X10_note_L108, noScorer_t (show rg 6 (nI s) from ⟨s, hs, rfl⟩), isScorer_t (show rg 6 (nI s) from ⟨s, hs, rfl⟩), noBid_t e2 hL6 ⟨⟨i, hi, rfl⟩, ⟨j, hj, rfl⟩⟩, cellB, stdB_t (show i * 6 + j < 48 by omega) hst, fl_1 h e2m hL1 hL6 hi hj hst, le_00, opB_f ho, opM_f h.1 ho, c1, c2, noB, noM, oi_nI (show 288 < 2 ^ 31 by decide) (show s * 48 + (i * 6 + j) < 288 by omega), oi_nI (show 288 < 2 ^ 31 by decide) (show 48 * s + (8 * j + i) < 288 by omega), nI_clamp (show s * 48 + (i * 6 + j) < 2 ^ 31 by omega), nI_clamp (show 48 * s + (8 * j + i) < 2 ^ 31 by omega), d1, d2, ob_s, ov_s, lt_e, ↓reduceIte, eq_self, not_true_eq_false, not_false_eq_true, nz_1, nz_m1, nz_m2, nz_m3, nz_m4, nz_m5, nz_m6, nz_m7, nz_m8, nz_m9, nl_m1, nl_m2, nl_m3, nl_m4, nl_m5, nl_m6, nl_m7, nl_m8, nl_m9, ceB]
                exact ⟨_, _, _, _, rfl, rfl, hR, rfl⟩
              · have d3 : (0 : Int32) ≤ nI n := nI_pos' (by omega)
                simp only [f_X9_note, f_X10_note, f_X9_note_L16, f_X9_inRange, f_X5_put, f_X10_note_L108, noScorer_t (show rg 6 (nI s) from ⟨s, hs, rfl⟩), isScorer_t (show rg 6 (nI s) from ⟨s, hs, rfl⟩), noBid_t e2 hL6 ⟨⟨i, hi, rfl⟩, ⟨j, hj, rfl⟩⟩, cellB, stdB_t (show i * 6 + j < 48 by omega) hst, fl_1 h e2m hL1 hL6 hi hj hst, le_00, opB_f ho, opM_f h.1 ho, c1, c2, noB, noM, oi_nI (show 288 < 2 ^ 31 by decide) (show s * 48 + (i * 6 + j) < 288 by omega), oi_nI (show 288 < 2 ^ 31 by decide) (show 48 * s + (8 * j + i) < 288 by omega), nI_clamp (show s * 48 + (i * 6 + j) < 2 ^ 31 by omega), nI_clamp (show 48 * s + (8 * j + i) < 2 ^ 31 by omega), d1, d2, d3, ob_s, ov_s, lt_e, ↓reduceIte, eq_self, not_true_eq_false, not_false_eq_true, nz_1, nz_m1, nz_m2, nz_m3, nz_m4, nz_m5, nz_m6, nz_m7, nz_m8, nz_m9, nl_m1, nl_m2, nl_m3, nl_m4, nl_m5, nl_m6, nl_m7, nl_m8, nl_m9, ceB]
                exact ⟨_, _, _, _, rfl, rfl, hR, rfl⟩
            · simp only [f_X9_note, f_X10_note, f_X9_note_L16, f_X9_inRange, f_X5_put, f_X10_note_L108, noScorer_t (show rg 6 (nI s) from ⟨s, hs, rfl⟩), isScorer_t (show rg 6 (nI s) from ⟨s, hs, rfl⟩), noBid_t e2 hL6 ⟨⟨i, hi, rfl⟩, ⟨j, hj, rfl⟩⟩, cellB, stdB_t (show i * 6 + j < 48 by omega) hst, fl_1 h e2m hL1 hL6 hi hj hst, le_00, opB_f ho, opM_f h.1 ho, c1, c2, ob_s, ov_s, lt_e, ↓reduceIte, eq_self, not_true_eq_false, not_false_eq_true, nz_1, nz_m1, nz_m2, nz_m3, nz_m4, nz_m5, nz_m6, nz_m7, nz_m8, nz_m9, nl_m1, nl_m2, nl_m3, nl_m4, nl_m5, nl_m6, nl_m7, nl_m8, nl_m9, ceB, rfB rwd6, rfM rwd6, rlB rwd6, rlM rwd6]
              exact qq_rf hA h _
          · simp only [f_X9_note, f_X10_note, f_X9_note_L16, f_X9_inRange, f_X5_put, f_X10_note_L108, noScorer_t (show rg 6 (nI s) from ⟨s, hs, rfl⟩), isScorer_t (show rg 6 (nI s) from ⟨s, hs, rfl⟩), noBid_t e2 hL6 ⟨⟨i, hi, rfl⟩, ⟨j, hj, rfl⟩⟩, cellB, stdB_t (show i * 6 + j < 48 by omega) hst, fl_1 h e2m hL1 hL6 hi hj hst, le_00, opB_f ho, opM_f h.1 ho, c1, ob_s, ov_s, lt_e, ↓reduceIte, eq_self, not_true_eq_false, not_false_eq_true, nz_1, nz_m1, nz_m2, nz_m3, nz_m4, nz_m5, nz_m6, nz_m7, nz_m8, nz_m9, nl_m1, nl_m2, nl_m3, nl_m4, nl_m5, nl_m6, nl_m7, nl_m8, nl_m9, ceB, rfB rwd4, rfM rwd4, rlB rwd4, rlM rwd4]
            exact qq_rf hA h _
      · simp only [f_X9_note, f_X10_note, f_X9_note_L16, f_X9_inRange, f_X5_put, f_X10_note_L108, noScorer_t (show rg 6 (nI s) from ⟨s, hs, rfl⟩), isScorer_t (show rg 6 (nI s) from ⟨s, hs, rfl⟩), noBid_t e2 hL6 ⟨⟨i, hi, rfl⟩, ⟨j, hj, rfl⟩⟩, cellB, stdB_f (show i * 6 + j < 48 by omega) ((h4 i j hi hj6).1).2 (h5 i j hi hj6).1 hst, fl_0 h e2m hL1 hL6 hi hj hst, ob_s, ov_s, lt_e, ↓reduceIte, eq_self, not_true_eq_false, not_false_eq_true, nz_1, nz_m1, nz_m2, nz_m3, nz_m4, nz_m5, nz_m6, nz_m7, nz_m8, nz_m9, nl_m1, nl_m2, nl_m3, nl_m4, nl_m5, nl_m6, nl_m7, nl_m8, nl_m9, ceB, rfB rwd5, rfM rwd5, rlB rwd5, rlM rwd5]
        exact qq_rf hA h _
  · simp only [f_X9_note, f_X10_note, f_X9_note_L16, f_X9_inRange, f_X5_put, f_X10_note_L108, noScorer_f hsc, isScorer_f hsc, ob_s, ov_s, lt_e, ↓reduceIte, eq_self, not_true_eq_false, not_false_eq_true, nz_1, nz_m1, nz_m2, nz_m3, nz_m4, nz_m5, nz_m6, nz_m7, nz_m8, nz_m9, nl_m1, nl_m2, nl_m3, nl_m4, nl_m5, nl_m6, nl_m7, nl_m8, nl_m9, ceB, rfB rwd1, rfM rwd1, rlB rwd1, rlM rwd1]
    exact qq_rf hA h _
theorem st_answer (hA : FDok FD) (h : RR FE AW FD k u v) (b : Int32) (l : Int32) (hA3 : FDans FD) : QQ (RR FE AW FD (k + 1)) (f_X9_answer b l u) (f_X10_answer b l v) := by
  obtain ⟨⟨t, L, ht, hL1, hL6, e0, e0m, e2, e2m, e1, e1c⟩, h2, h3, h4, h5, h6, h7, h8, h9, h10, h11, h12, h13, h14, h15, h16, h17, h18, h19⟩ := id h
  rcases bl_c b l L hL6 with ⟨i, j, hi, hj, hj6, rfl, rfl⟩ | hbl
  rotate_left
  · simp only [f_X9_answer, f_X10_answer, noBid_f e2 hL6 hbl, fl_f e2m hL1 hL6 hbl, ob_s, ov_s, lt_e, ↓reduceIte, eq_self, not_true_eq_false, not_false_eq_true, nz_1, nz_m1, nz_m2, nz_m3, nz_m4, nz_m5, nz_m6, nz_m7, nz_m8, nz_m9, nl_m1, nl_m2, nl_m3, nl_m4, nl_m5, nl_m6, nl_m7, nl_m8, nl_m9, ceB, rfB rwd1, rfM rwd1, rlB rwd1, rlM rwd1]
    exact qq_rf hA h _
  · rcases Std_c u (i * 6 + j) with hst | hst
    · rcases h6 i j hi hj6 with ⟨d1, d2⟩ | ⟨n, n1, n2, d1, d2, d3⟩
      · simp only [f_X9_answer, f_X10_answer, noBid_t e2 hL6 ⟨⟨i, hi, rfl⟩, ⟨j, hj, rfl⟩⟩, cellB, cellM, stdB_t (show i * 6 + j < 48 by omega) hst, fl_1 h e2m hL1 hL6 hi hj hst, le_00, oi_nI (show 48 < 2 ^ 31 by decide) (show i * 6 + j < 48 by omega), oi_nI (show 48 < 2 ^ 31 by decide) (show 8 * j + i < 48 by omega), nI_clamp (show i * 6 + j < 2 ^ 31 by omega), nI_clamp (show 8 * j + i < 2 ^ 31 by omega), d1, d2, ob_s, ov_s, lt_e, ↓reduceIte, eq_self, not_true_eq_false, not_false_eq_true, nz_1, nz_m1, nz_m2, nz_m3, nz_m4, nz_m5, nz_m6, nz_m7, nz_m8, nz_m9, nl_m1, nl_m2, nl_m3, nl_m4, nl_m5, nl_m6, nl_m7, nl_m8, nl_m9, ceB, rfB rwd3, rfM rwd3, rlB rwd3, rlM rwd3]
        exact qq_rf hA h _
      · have d4 : ¬ nI n = 0 := nI_ne0 (by omega) (by omega)
        have d5 : (0 : Int32) ≤ nI n := nI_pos' (by omega)
        simp only [f_X9_answer, f_X10_answer, noBid_t e2 hL6 ⟨⟨i, hi, rfl⟩, ⟨j, hj, rfl⟩⟩, cellB, cellM, stdB_t (show i * 6 + j < 48 by omega) hst, fl_1 h e2m hL1 hL6 hi hj hst, le_00, oi_nI (show 48 < 2 ^ 31 by decide) (show i * 6 + j < 48 by omega), oi_nI (show 48 < 2 ^ 31 by decide) (show 8 * j + i < 48 by omega), nI_clamp (show i * 6 + j < 2 ^ 31 by omega), nI_clamp (show 8 * j + i < 2 ^ 31 by omega), d1, d2, d4, d5, ob_s, ov_s, lt_e, ↓reduceIte, eq_self, not_true_eq_false, not_false_eq_true, nz_1, nz_m1, nz_m2, nz_m3, nz_m4, nz_m5, nz_m6, nz_m7, nz_m8, nz_m9, nl_m1, nl_m2, nl_m3, nl_m4, nl_m5, nl_m6, nl_m7, nl_m8, nl_m9, ceB]
        refine ⟨_, _, _, _, rfl, rfl, ?_, rfl⟩
        refine ⟨⟨t, L, ht, hL1, hL6, e0, e0m, e2, e2m, e1, e1c⟩, h2, h3, h4, h5, fun b2 l2 hb2 hl2 => ?_, h7, h8, h9, h10, h11, Raw_k h12, h13, h14, h15, h16, h17, h18, fun z => hA3 u v _ _ hst.2.2 (h19 z)⟩
        show (upd (gA u 5) (nI (i * 6 + j)).toNatClampNeg 0 (b2 * 6 + l2) = 0 ∧ upd (gA v 7) (nI (8 * j + i)).toNatClampNeg (-1) (8 * l2 + b2) = -1) ∨ ∃ n : Nat, 1 ≤ n ∧ n ≤ 999999 ∧ upd (gA u 5) (nI (i * 6 + j)).toNatClampNeg 0 (b2 * 6 + l2) = nI n ∧ upd (gA v 7) (nI (8 * j + i)).toNatClampNeg (-1) (8 * l2 + b2) = nI n ∧ gA u 3 (b2 * 6 + l2) = 1
        rw [nI_clamp (by omega), nI_clamp (by omega)]
        by_cases c : b2 = i ∧ l2 = j
        · obtain ⟨rfl, rfl⟩ := c
          rw [upd_s, upd_s]; exact Or.inl ⟨rfl, rfl⟩
        · obtain ⟨m1, m2⟩ := ce_ne hb2 hl2 hi hj6 c
          rw [upd_n _ _ m1, upd_n _ _ m2]; exact h6 b2 l2 hb2 hl2
    · simp only [f_X9_answer, f_X10_answer, noBid_t e2 hL6 ⟨⟨i, hi, rfl⟩, ⟨j, hj, rfl⟩⟩, cellB, stdB_f (show i * 6 + j < 48 by omega) ((h4 i j hi hj6).1).2 (h5 i j hi hj6).1 hst, fl_0 h e2m hL1 hL6 hi hj hst, ob_s, ov_s, lt_e, ↓reduceIte, eq_self, not_true_eq_false, not_false_eq_true, nz_1, nz_m1, nz_m2, nz_m3, nz_m4, nz_m5, nz_m6, nz_m7, nz_m8, nz_m9, nl_m1, nl_m2, nl_m3, nl_m4, nl_m5, nl_m6, nl_m7, nl_m8, nl_m9, ceB, rfB rwd5, rfM rwd5, rlB rwd5, rlM rwd5]
      exact qq_rf hA h _
end ST4
