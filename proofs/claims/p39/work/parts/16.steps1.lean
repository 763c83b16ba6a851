section ST1
variable {FE : (Nat → Int32) → Nat → (Nat → Int32) → Nat → Prop} {AW : (Nat → Int32) → (Nat → Int32) → (Nat → Int64) → (Nat → Int32) → (Nat → Int32) → (Nat → Int32) → Prop} {FD : SS → SS → Prop} {k : Nat} {u v : SS}
theorem upd_s (f : Nat → Int32) (k : Nat) (x : Int32) : upd f k x k = x := by simp [upd]
theorem upd_n (f : Nat → Int32) {k j : Nat} (x : Int32) (h : j ≠ k) : upd f k x j = f j := by simp [upd, h]
theorem eN_mk {m : Nat} {x c : Int32} (hm : m + 1 < 2 ^ 31) (hc : c = nI m) (h0 : (0 : Int32) ≤ x) (h1 : x ≤ c) : eN m x := by
  subst hc
  obtain ⟨i, hi, e⟩ := rg_mk (n := m + 1) hm (Int32.not_lt.mpr h0) ((le_nI hm).mp h1)
  exact ⟨i, by omega, e⟩
theorem n01 : ¬ (0 : Int32) = 1 := by decide
theorem le_tr1 {x : Int32} (h : (1 : Int32) ≤ x) : (0 : Int32) ≤ x := Int32.le_trans (by decide) h
theorem st_time (hA : FDok FD) (h : RR FE AW FD k u v) (n : Int32) : QQ (RR FE AW FD (k + 1)) (f_X9_time n u) (f_X10_time n v) := by
  obtain ⟨⟨t, L, ht, hL1, hL6, e0, e0m, e2, e2m, e1, e1c⟩, h2, h3, h4, h5, h6, h7, h8, h9, h10, h11, h12, h13, h14, h15, h16, h17, h18, h19⟩ := id h
  by_cases c1 : (1 : Int32) ≤ n
  · by_cases c2 : n ≤ (999999 : Int32) - nI t
    · have c3 : rg 1000000 n := by
        refine rg_mk (by decide) (Int32.not_lt.mpr (le_tr1 c1)) ?_
        rw [Int32.lt_iff_toInt_lt, nI_toInt (by decide)]
        rw [Int32.le_iff_toInt_le, show (999999 : Int32) = nI 999999 by decide, pk_sub_toInt (by decide) (by omega)] at c2
        omega
      obtain ⟨m, hm, rfl⟩ := c3
      have c4 : t + m ≤ 999999 := by
        rw [Int32.le_iff_toInt_le, show (999999 : Int32) = nI 999999 by decide, pk_sub_toInt (by decide) (by omega), nI_toInt (by omega)] at c2
        omega
      simp only [f_X9_time, f_X10_time, e0, e0m, c1, c2, ob_s, ov_s, lt_e, ↓reduceIte, eq_self, not_true_eq_false, not_false_eq_true, nz_1, nz_m1, nz_m2, nz_m3, nz_m4, nz_m5, nz_m6, nz_m7, nz_m8, nz_m9, nl_m1, nl_m2, nl_m3, nl_m4, nl_m5, nl_m6, nl_m7, nl_m8, nl_m9, ceB]
      refine ⟨_, _, _, _, rfl, rfl, ?_, rfl⟩
      have hop : Opn (sI u 0 (nI t + nI m)) → Opn u := by
        intro z
        rcases z with z | z
        · exact Or.inl z
        · refine Or.inr (fun z2 => z ?_)
          show gI u 1 < nI t + nI m
          rw [e0] at z2
          rcases e1c with e | ⟨c, hc, e⟩
          · rw [e, nI_add]; exact Int32.lt_of_lt_of_le lt_m1 (nI_pos' (by omega))
          · rw [e] at z2 ⊢; rw [nI_add]; rw [nI_ltI (by omega) (by omega)] at z2 ⊢; omega
      exact ⟨⟨t + m, L, c4, hL1, hL6, nI_add t m, nI_add t m, e2, e2m, e1, e1c⟩, h2, h3, h4, fun b l hb hl => ⟨(h5 b l hb hl).1, (h5 b l hb hl).2.1, fun z => (h5 b l hb hl).2.2 (z.elim (fun z => Or.inl (hop z)) Or.inr)⟩, h6, h7, h8, h9, h10, h11, ⟨fun z => h12.1 (hop z), (Raw_k h12).2⟩, h13, h14, h15, Or.inl rfl, fun _ => rfl, h18, fun z => (n01 z).elim⟩
    · simp only [f_X9_time, f_X10_time, e0, e0m, c1, c2, ob_s, ov_s, lt_e, ↓reduceIte, eq_self, not_true_eq_false, not_false_eq_true, nz_1, nz_m1, nz_m2, nz_m3, nz_m4, nz_m5, nz_m6, nz_m7, nz_m8, nz_m9, nl_m1, nl_m2, nl_m3, nl_m4, nl_m5, nl_m6, nl_m7, nl_m8, nl_m9, ceB, rfB rwd6, rfM rwd6, rlB rwd6, rlM rwd6]
      exact qq_rf hA h _
  · simp only [f_X9_time, f_X10_time, c1, ob_s, ov_s, lt_e, ↓reduceIte, eq_self, not_true_eq_false, not_false_eq_true, nz_1, nz_m1, nz_m2, nz_m3, nz_m4, nz_m5, nz_m6, nz_m7, nz_m8, nz_m9, nl_m1, nl_m2, nl_m3, nl_m4, nl_m5, nl_m6, nl_m7, nl_m8, nl_m9, ceB, rfB rwd4, rfM rwd4, rlB rwd4, rlM rwd4]
    exact qq_rf hA h _
theorem st_rate (hA : FDok FD) (h : RR FE AW FD k u v) (m : Int32) (w : Int32) : QQ (RR FE AW FD (k + 1)) (f_X9_rate m w u) (f_X10_rate m w v) := by
  obtain ⟨h1, h2, h3, h4, h5, h6, h7, h8, h9, h10, h11, h12, h13, h14, h15, h16, h17, h18, h19⟩ := id h
  by_cases c1 : m < 1
  · simp only [f_X9_rate, f_X10_rate, f_X9_rate_L10, f_X10_in, f_X9_inRange, c1, ob_s, ov_s, lt_e, ↓reduceIte, eq_self, not_true_eq_false, not_false_eq_true, nz_1, nz_m1, nz_m2, nz_m3, nz_m4, nz_m5, nz_m6, nz_m7, nz_m8, nz_m9, nl_m1, nl_m2, nl_m3, nl_m4, nl_m5, nl_m6, nl_m7, nl_m8, nl_m9, ceB, rfB rwd1, rfM rwd1, rlB rwd1, rlM rwd1]
    exact qq_rf hA h _
  · by_cases c2 : m < 4
    · have c3 : ¬ (3 : Int32) < m := Int32.not_lt.mpr ((le_nI (n := 3) (by decide)).mpr c2)
      have hm : rg 4 m := rg_mk (by decide) (fun z => c1 (Int32.lt_trans z (by decide))) c2
      rcases Opn_dec u with ho | ho
      · by_cases c4 : (1 : Int32) ≤ w
        · by_cases c5 : w ≤ (100000 : Int32)
          · have e : gA v 0 m.toNatClampNeg = gA u 2 m.toNatClampNeg := (h3 _ (rg_cl (by decide) hm)).1
            simp only [f_X9_rate, f_X10_rate, f_X9_rate_L10, f_X10_in, f_X9_inRange, c1, c2, c3, c4, c5, opB_t ho, opM_t h1 ho, oi_in (show 4 < 2 ^ 31 by decide) hm, e, ob_s, ov_s, lt_e, ↓reduceIte, eq_self, not_true_eq_false, not_false_eq_true, nz_1, nz_m1, nz_m2, nz_m3, nz_m4, nz_m5, nz_m6, nz_m7, nz_m8, nz_m9, nl_m1, nl_m2, nl_m3, nl_m4, nl_m5, nl_m6, nl_m7, nl_m8, nl_m9, ceB]
            refine ⟨_, _, _, _, rfl, rfl, ?_, rfl⟩
            refine ⟨h1, h2, fun i hi => ?_, h4, h5, h6, h7, h8, h9, h10, h11, Raw_k h12, h13, h14, h15, h16, h17, h18, fun z => absurd ((h17 ho).symm.trans z) (by decide)⟩
            show upd (gA v 0) _ _ i = upd (gA u 2) _ _ i ∧ eN 100000 (upd (gA u 2) _ _ i)
            by_cases c6 : i = m.toNatClampNeg
            · subst c6; rw [upd_s, upd_s]; exact ⟨rfl, eN_mk (by decide) (by decide) (le_tr1 c4) c5⟩
            · rw [upd_n _ _ c6, upd_n _ _ c6]; exact h3 i hi
          · simp only [f_X9_rate, f_X10_rate, f_X9_rate_L10, f_X10_in, f_X9_inRange, c1, c2, c3, c4, c5, opB_t ho, opM_t h1 ho, ob_s, ov_s, lt_e, ↓reduceIte, eq_self, not_true_eq_false, not_false_eq_true, nz_1, nz_m1, nz_m2, nz_m3, nz_m4, nz_m5, nz_m6, nz_m7, nz_m8, nz_m9, nl_m1, nl_m2, nl_m3, nl_m4, nl_m5, nl_m6, nl_m7, nl_m8, nl_m9, ceB, rfB rwd6, rfM rwd6, rlB rwd6, rlM rwd6]
            exact qq_rf hA h _
        · simp only [f_X9_rate, f_X10_rate, f_X9_rate_L10, f_X10_in, f_X9_inRange, c1, c2, c3, c4, opB_t ho, opM_t h1 ho, ob_s, ov_s, lt_e, ↓reduceIte, eq_self, not_true_eq_false, not_false_eq_true, nz_1, nz_m1, nz_m2, nz_m3, nz_m4, nz_m5, nz_m6, nz_m7, nz_m8, nz_m9, nl_m1, nl_m2, nl_m3, nl_m4, nl_m5, nl_m6, nl_m7, nl_m8, nl_m9, ceB, rfB rwd4, rfM rwd4, rlB rwd4, rlM rwd4]
          exact qq_rf hA h _
      · simp only [f_X9_rate, f_X10_rate, f_X9_rate_L10, f_X10_in, f_X9_inRange, c1, c2, c3, opB_f ho, opM_f h1 ho, ob_s, ov_s, lt_e, ↓reduceIte, eq_self, not_true_eq_false, not_false_eq_true, nz_1, nz_m1, nz_m2, nz_m3, nz_m4, nz_m5, nz_m6, nz_m7, nz_m8, nz_m9, nl_m1, nl_m2, nl_m3, nl_m4, nl_m5, nl_m6, nl_m7, nl_m8, nl_m9, ceB, rfB rwd3, rfM rwd3, rlB rwd3, rlM rwd3]
        exact qq_rf hA h _
    · have c3 : (3 : Int32) < m := Int32.not_le.mp (fun z => c2 ((le_nI (n := 3) (by decide)).mp z))
      simp only [f_X9_rate, f_X10_rate, f_X9_rate_L10, f_X10_in, f_X9_inRange, c1, c2, c3, ob_s, ov_s, lt_e, ↓reduceIte, eq_self, not_true_eq_false, not_false_eq_true, nz_1, nz_m1, nz_m2, nz_m3, nz_m4, nz_m5, nz_m6, nz_m7, nz_m8, nz_m9, nl_m1, nl_m2, nl_m3, nl_m4, nl_m5, nl_m6, nl_m7, nl_m8, nl_m9, ceB, rfB rwd1, rfM rwd1, rlB rwd1, rlM rwd1]
      exact qq_rf hA h _
theorem st_closing (hA : FDok FD) (h : RR FE AW FD k u v) (w : Int32) : QQ (RR FE AW FD (k + 1)) (f_X9_closing w u) (f_X10_closing w v) := by
  obtain ⟨⟨t, L, ht, hL1, hL6, e0, e0m, e2, e2m, e1, e1c⟩, h2, h3, h4, h5, h6, h7, h8, h9, h10, h11, h12, h13, h14, h15, h16, h17, h18, h19⟩ := id h
  rcases e1c with ec | ⟨c, hc, ec⟩
  · have em : gI v 1 = -1 := e1.trans ec
    have ho : Opn u := Or.inl ec
    by_cases c1 : nI t ≤ w
    · by_cases c2 : w ≤ (999999 : Int32)
      · obtain ⟨m, hm, rfl⟩ := eN_mk (m := 999999) (by decide) (by decide) (Int32.le_trans (nI_pos' (by omega)) c1) c2
        simp only [f_X9_closing, f_X10_closing, f_X9_inRange, e0, e0m, ec, em, lt_m1, c1, c2, ob_s, ov_s, lt_e, ↓reduceIte, eq_self, not_true_eq_false, not_false_eq_true, nz_1, nz_m1, nz_m2, nz_m3, nz_m4, nz_m5, nz_m6, nz_m7, nz_m8, nz_m9, nl_m1, nl_m2, nl_m3, nl_m4, nl_m5, nl_m6, nl_m7, nl_m8, nl_m9, ceB]
        refine ⟨_, _, _, _, rfl, rfl, ?_, rfl⟩
        exact ⟨⟨t, L, ht, hL1, hL6, e0, e0m, e2, e2m, rfl, Or.inr ⟨m, hm, rfl⟩⟩, h2, h3, h4, fun b l hb hl => ⟨(h5 b l hb hl).1, (h5 b l hb hl).2.1, fun _ => (h5 b l hb hl).2.2 (Or.inl ho)⟩, h6, h7, h8, h9, h10, h11, ⟨fun _ => h12.1 ho, (Raw_k h12).2⟩, h13, h14, h15, h16, fun _ => h17 ho, h18, fun z => absurd ((h17 ho).symm.trans z) (by decide)⟩
      · simp only [f_X9_closing, f_X10_closing, f_X9_inRange, e0, e0m, ec, em, lt_m1, c1, c2, ob_s, ov_s, lt_e, ↓reduceIte, eq_self, not_true_eq_false, not_false_eq_true, nz_1, nz_m1, nz_m2, nz_m3, nz_m4, nz_m5, nz_m6, nz_m7, nz_m8, nz_m9, nl_m1, nl_m2, nl_m3, nl_m4, nl_m5, nl_m6, nl_m7, nl_m8, nl_m9, ceB, rfB rwd6, rfM rwd6, rlB rwd6, rlM rwd6]
        exact qq_rf hA h _
    · simp only [f_X9_closing, f_X10_closing, f_X9_inRange, e0, e0m, ec, em, lt_m1, c1, ob_s, ov_s, lt_e, ↓reduceIte, eq_self, not_true_eq_false, not_false_eq_true, nz_1, nz_m1, nz_m2, nz_m3, nz_m4, nz_m5, nz_m6, nz_m7, nz_m8, nz_m9, nl_m1, nl_m2, nl_m3, nl_m4, nl_m5, nl_m6, nl_m7, nl_m8, nl_m9, ceB, rfB rwd4, rfM rwd4, rlB rwd4, rlM rwd4]
      exact qq_rf hA h _
  · have c1 : ¬ nI c = (-1 : Int32) := fun z => nI_pos (n := c) (by omega) (by rw [z]; exact lt_m1)
    have c2 : ¬ nI c < 0 := nI_pos (by omega)
    simp only [f_X9_closing, f_X10_closing, f_X9_inRange, e1, ec, c1, c2, ob_s, ov_s, lt_e, ↓reduceIte, eq_self, not_true_eq_false, not_false_eq_true, nz_1, nz_m1, nz_m2, nz_m3, nz_m4, nz_m5, nz_m6, nz_m7, nz_m8, nz_m9, nl_m1, nl_m2, nl_m3, nl_m4, nl_m5, nl_m6, nl_m7, nl_m8, nl_m9, ceB, rfB rwd3, rfM rwd3, rlB rwd3, rlM rwd3]
    exact qq_rf hA h _
theorem st_set (hA : FDok FD) (h : RR FE AW FD k u v) (m : Int32) (w : Int32) : QQ (RR FE AW FD (k + 1)) (f_X9_set m w u) (f_X10_set m w v) := by
  obtain ⟨h1, h2, h3, h4, h5, h6, h7, h8, h9, h10, h11, h12, h13, h14, h15, h16, h17, h18, h19⟩ := id h
  by_cases hm : rg 4 m
  · have c4 : m < (4 : Int32) := rg_hi (n := 4) (by decide) hm
    have hlo : ¬ m < 0 := rg_lo (by decide) hm
    have hin : f_X10_in m 0 3 v = some (1, v) := in_t (n := 3) (by decide) (by decide) hm v
    have e : gA v 8 m.toNatClampNeg = gA u 1 m.toNatClampNeg := (h2.1 _ (rg_cl (by decide) hm)).1
    by_cases c1 : (0 : Int32) ≤ w
    · by_cases c0 : m = 0
      · by_cases c2 : w ≤ (2 : Int32)
        · simp only [f_X9_set, f_X10_set, f_X9_set_L16, f_X9_set_L35, f_X10_set_L38, f_X9_inRange, hin, hlo, c4, c1, if_pos c0, c2, oi_in (show 4 < 2 ^ 31 by decide) hm, e, ob_s, ov_s, lt_e, ↓reduceIte, eq_self, not_true_eq_false, not_false_eq_true, nz_1, nz_m1, nz_m2, nz_m3, nz_m4, nz_m5, nz_m6, nz_m7, nz_m8, nz_m9, nl_m1, nl_m2, nl_m3, nl_m4, nl_m5, nl_m6, nl_m7, nl_m8, nl_m9, ceB]
          refine ⟨_, _, _, _, rfl, rfl, ?_, rfl⟩
          refine ⟨h1, ⟨fun i hi => ?_, ?_⟩, h3, h4, h5, h6, h7, h8, h9, h10, h11, Raw_k h12, h13, h14, h15, Or.inl rfl, fun _ => rfl, h18, fun z => (n01 z).elim⟩
          · show upd (gA v 8) _ _ i = upd (gA u 1) _ _ i ∧ eN 100 (upd (gA u 1) _ _ i)
            by_cases c6 : i = m.toNatClampNeg
            · subst c6; rw [upd_s, upd_s]; exact ⟨rfl, eN_mk (c := 100) (by decide) (by decide) c1 (Int32.le_trans c2 (by decide))⟩
            · rw [upd_n _ _ c6, upd_n _ _ c6]; exact h2.1 i hi
          · show eN 2 (upd (gA u 1) _ _ 0)
            by_cases c6 : 0 = m.toNatClampNeg
            · rw [← c6, upd_s]; exact eN_mk (by decide) (by decide) c1 c2
            · rw [upd_n _ _ c6]; exact h2.2
        · simp only [f_X9_set, f_X10_set, f_X9_set_L16, f_X9_set_L35, f_X10_set_L38, f_X9_inRange, hin, hlo, c4, c1, if_pos c0, c2, ob_s, ov_s, lt_e, ↓reduceIte, eq_self, not_true_eq_false, not_false_eq_true, nz_1, nz_m1, nz_m2, nz_m3, nz_m4, nz_m5, nz_m6, nz_m7, nz_m8, nz_m9, nl_m1, nl_m2, nl_m3, nl_m4, nl_m5, nl_m6, nl_m7, nl_m8, nl_m9, ceB, rfB rwd6, rfM rwd6, rlB rwd6, rlM rwd6]
          exact qq_rf hA h _
      · by_cases c2 : w ≤ (100 : Int32)
        · simp only [f_X9_set, f_X10_set, f_X9_set_L16, f_X9_set_L35, f_X10_set_L38, f_X9_inRange, hin, hlo, c4, c1, c0, c2, oi_in (show 4 < 2 ^ 31 by decide) hm, e, ob_s, ov_s, lt_e, ↓reduceIte, eq_self, not_true_eq_false, not_false_eq_true, nz_1, nz_m1, nz_m2, nz_m3, nz_m4, nz_m5, nz_m6, nz_m7, nz_m8, nz_m9, nl_m1, nl_m2, nl_m3, nl_m4, nl_m5, nl_m6, nl_m7, nl_m8, nl_m9, ceB]
          refine ⟨_, _, _, _, rfl, rfl, ?_, rfl⟩
          refine ⟨h1, ⟨fun i hi => ?_, ?_⟩, h3, h4, h5, h6, h7, h8, h9, h10, h11, Raw_k h12, h13, h14, h15, Or.inl rfl, fun _ => rfl, h18, fun z => (n01 z).elim⟩
          · show upd (gA v 8) _ _ i = upd (gA u 1) _ _ i ∧ eN 100 (upd (gA u 1) _ _ i)
            by_cases c6 : i = m.toNatClampNeg
            · subst c6; rw [upd_s, upd_s]; exact ⟨rfl, eN_mk (c := 100) (by decide) (by decide) c1 (Int32.le_trans c2 (by decide))⟩
            · rw [upd_n _ _ c6, upd_n _ _ c6]; exact h2.1 i hi
          · show eN 2 (upd (gA u 1) _ _ 0)
            by_cases c6 : 0 = m.toNatClampNeg
            · exact absurd c6 (fun z => c0 (by obtain ⟨i, hi, e⟩ := hm; rw [e, nI_clamp (by omega)] at z; rw [e, ← z]; rfl))
            · rw [upd_n _ _ c6]; exact h2.2
        · simp only [f_X9_set, f_X10_set, f_X9_set_L16, f_X9_set_L35, f_X10_set_L38, f_X9_inRange, hin, hlo, c4, c1, c0, c2, ob_s, ov_s, lt_e, ↓reduceIte, eq_self, not_true_eq_false, not_false_eq_true, nz_1, nz_m1, nz_m2, nz_m3, nz_m4, nz_m5, nz_m6, nz_m7, nz_m8, nz_m9, nl_m1, nl_m2, nl_m3, nl_m4, nl_m5, nl_m6, nl_m7, nl_m8, nl_m9, ceB, rfB rwd6, rfM rwd6, rlB rwd6, rlM rwd6]
          exact qq_rf hA h _
    · by_cases c0 : m = 0
      · simp only [f_X9_set, f_X10_set, f_X9_set_L16, f_X9_set_L35, f_X10_set_L38, f_X9_inRange, hin, hlo, c4, c1, if_pos c0, ob_s, ov_s, lt_e, ↓reduceIte, eq_self, not_true_eq_false, not_false_eq_true, nz_1, nz_m1, nz_m2, nz_m3, nz_m4, nz_m5, nz_m6, nz_m7, nz_m8, nz_m9, nl_m1, nl_m2, nl_m3, nl_m4, nl_m5, nl_m6, nl_m7, nl_m8, nl_m9, ceB, rfB rwd4, rfM rwd4, rlB rwd4, rlM rwd4]
        exact qq_rf hA h _
      · simp only [f_X9_set, f_X10_set, f_X9_set_L16, f_X9_set_L35, f_X10_set_L38, f_X9_inRange, hin, hlo, c4, c1, c0, ob_s, ov_s, lt_e, ↓reduceIte, eq_self, not_true_eq_false, not_false_eq_true, nz_1, nz_m1, nz_m2, nz_m3, nz_m4, nz_m5, nz_m6, nz_m7, nz_m8, nz_m9, nl_m1, nl_m2, nl_m3, nl_m4, nl_m5, nl_m6, nl_m7, nl_m8, nl_m9, ceB, rfB rwd4, rfM rwd4, rlB rwd4, rlM rwd4]
        exact qq_rf hA h _
  · have hin : f_X10_in m 0 3 v = some (0, v) := in_f (n := 3) (by decide) (by decide) hm v
    by_cases c1 : m < 0
    · simp only [f_X9_set, f_X10_set, f_X9_set_L16, f_X9_set_L35, f_X10_set_L38, f_X9_inRange, hin, c1, ob_s, ov_s, lt_e, ↓reduceIte, eq_self, not_true_eq_false, not_false_eq_true, nz_1, nz_m1, nz_m2, nz_m3, nz_m4, nz_m5, nz_m6, nz_m7, nz_m8, nz_m9, nl_m1, nl_m2, nl_m3, nl_m4, nl_m5, nl_m6, nl_m7, nl_m8, nl_m9, ceB, rfB rwd2, rfM rwd2, rlB rwd2, rlM rwd2]
      exact qq_rf hA h _
    · have c4 : ¬ m < (4 : Int32) := fun z => hm (rg_mk (n := 4) (by decide) c1 z)
      simp only [f_X9_set, f_X10_set, f_X9_set_L16, f_X9_set_L35, f_X10_set_L38, f_X9_inRange, hin, c1, c4, ob_s, ov_s, lt_e, ↓reduceIte, eq_self, not_true_eq_false, not_false_eq_true, nz_1, nz_m1, nz_m2, nz_m3, nz_m4, nz_m5, nz_m6, nz_m7, nz_m8, nz_m9, nl_m1, nl_m2, nl_m3, nl_m4, nl_m5, nl_m6, nl_m7, nl_m8, nl_m9, ceB, rfB rwd2, rfM rwd2, rlB rwd2, rlM rwd2]
      exact qq_rf hA h _
theorem bn_v (x : Int32) (h : bo x) : vp_nar .boolean x = x := by
  rcases h with h | h <;> subst h <;> decide
theorem br8 {s b : Int32} (hs : rg 6 s) (hb : rg 8 b) : rg 48 ((s * (8 : Int32)) + b) ∧ rg 48 (((8 : Int32) * s) + b) ∧ ((s * (8 : Int32)) + b).toNatClampNeg = s.toNatClampNeg * 8 + b.toNatClampNeg ∧ (((8 : Int32) * s) + b).toNatClampNeg = 8 * s.toNatClampNeg + b.toNatClampNeg := by
  obtain ⟨i, hi, rfl⟩ := hs
  obtain ⟨j, hj, rfl⟩ := hb
  have e1 : nI i * (8 : Int32) = nI (i * 8) := pk_mul i 8
  have e2 : (8 : Int32) * nI i = nI (8 * i) := pk_mul 8 i
  rw [e1, e2, nI_add, nI_add, nI_clamp (by omega), nI_clamp (by omega), nI_clamp (by omega), nI_clamp (by omega)]
  exact ⟨⟨_, by omega, rfl⟩, ⟨_, by omega, rfl⟩, rfl, rfl⟩
theorem br7 {b m : Int32} (hb : rg 8 b) (hm : rg 7 m) : rg 56 ((b * (7 : Int32)) + m) ∧ rg 56 (((7 : Int32) * b) + m) ∧ ((b * (7 : Int32)) + m).toNatClampNeg = b.toNatClampNeg * 7 + m.toNatClampNeg ∧ (((7 : Int32) * b) + m).toNatClampNeg = 7 * b.toNatClampNeg + m.toNatClampNeg := by
  obtain ⟨i, hi, rfl⟩ := hb
  obtain ⟨j, hj, rfl⟩ := hm
  have e1 : nI i * (7 : Int32) = nI (i * 7) := pk_mul i 7
  have e2 : (7 : Int32) * nI i = nI (7 * i) := pk_mul 7 i
  rw [e1, e2, nI_add, nI_add, nI_clamp (by omega), nI_clamp (by omega), nI_clamp (by omega), nI_clamp (by omega)]
  exact ⟨⟨_, by omega, rfl⟩, ⟨_, by omega, rfl⟩, rfl, rfl⟩
theorem st_bar (hA : FDok FD) (h : RR FE AW FD k u v) (s : Int32) (b : Int32) (n : Int32) (hn : bo n) : QQ (RR FE AW FD (k + 1)) (f_X9_bar s b n u) (f_X10_bar s b n v) := by
  obtain ⟨h1, h2, h3, h4, h5, h6, h7, h8, h9, h10, h11, h12, h13, h14, h15, h16, h17, h18, h19⟩ := id h
  by_cases hs : rg 6 s
  · by_cases hb : rg 8 b
    · obtain ⟨g1, g2, g3, g4⟩ := br8 hs hb
      have e : gA v 10 (((8 : Int32) * s) + b).toNatClampNeg = gA u 11 ((s * (8 : Int32)) + b).toNatClampNeg := by
        rw [g3, g4]; exact (h8 _ _ (rg_cl (by decide) hs) (rg_cl (by decide) hb)).1
      have hR : RR FE AW FD (k + 1) (tZ u 11 ((s * (8 : Int32)) + b) n) (sI (tZ v 10 (((8 : Int32) * s) + b) n) 16 0) := by
        refine ⟨h1, h2, h3, h4, h5, h6, h7, fun i j hi hj => ?_, h9, h10, h11, Raw_k h12, h13, h14, h15, Or.inl rfl, fun _ => rfl, h18, fun z => (n01 z).elim⟩
        show upd (gA v 10) (((8 : Int32) * s) + b).toNatClampNeg (vp_nar .boolean n) (8 * i + j) = upd (gA u 11) ((s * (8 : Int32)) + b).toNatClampNeg (vp_nar .boolean n) (i * 8 + j) ∧ bo (upd (gA u 11) ((s * (8 : Int32)) + b).toNatClampNeg (vp_nar .boolean n) (i * 8 + j))
        rw [g3, g4, bn_v n hn]
        have b8 := rg_cl (by decide) hb
        by_cases c6 : i = s.toNatClampNeg ∧ j = b.toNatClampNeg
        · rw [c6.1, c6.2, upd_s, upd_s]; exact ⟨rfl, hn⟩
        · rw [upd_n _ _ (by omega), upd_n _ _ (by omega)]; exact h8 i j hi hj
      by_cases c0 : gA u 11 ((s * (8 : Int32)) + b).toNatClampNeg = n
      · simp only [f_X9_bar, f_X10_bar, f_X9_bar_L14, f_X10_bar_L14, f_X5_putBar, noScorer_t hs, isScorer_t hs, noBidder_t hb, isBidder_t hb, oi_in (show 48 < 2 ^ 31 by decide) g1, oi_in (show 48 < 2 ^ 31 by decide) g2, e, c0, ob_s, ov_s, lt_e, ↓reduceIte, eq_self, not_true_eq_false, not_false_eq_true, nz_1, nz_m1, nz_m2, nz_m3, nz_m4, nz_m5, nz_m6, nz_m7, nz_m8, nz_m9, nl_m1, nl_m2, nl_m3, nl_m4, nl_m5, nl_m6, nl_m7, nl_m8, nl_m9, ceB]
        exact ⟨_, _, _, _, rfl, rfl, hR, rfl⟩
      · simp only [f_X9_bar, f_X10_bar, f_X9_bar_L14, f_X10_bar_L14, f_X5_putBar, noScorer_t hs, isScorer_t hs, noBidder_t hb, isBidder_t hb, oi_in (show 48 < 2 ^ 31 by decide) g1, oi_in (show 48 < 2 ^ 31 by decide) g2, e, c0, ob_s, ov_s, lt_e, ↓reduceIte, eq_self, not_true_eq_false, not_false_eq_true, nz_1, nz_m1, nz_m2, nz_m3, nz_m4, nz_m5, nz_m6, nz_m7, nz_m8, nz_m9, nl_m1, nl_m2, nl_m3, nl_m4, nl_m5, nl_m6, nl_m7, nl_m8, nl_m9, ceB]
        exact ⟨_, _, _, _, rfl, rfl, hR, rfl⟩
    · simp only [f_X9_bar, f_X10_bar, f_X9_bar_L14, f_X10_bar_L14, f_X5_putBar, noScorer_t hs, isScorer_t hs, noBidder_f hb, isBidder_f hb, ob_s, ov_s, lt_e, ↓reduceIte, eq_self, not_true_eq_false, not_false_eq_true, nz_1, nz_m1, nz_m2, nz_m3, nz_m4, nz_m5, nz_m6, nz_m7, nz_m8, nz_m9, nl_m1, nl_m2, nl_m3, nl_m4, nl_m5, nl_m6, nl_m7, nl_m8, nl_m9, ceB, rfB rwd1, rfM rwd1, rlB rwd1, rlM rwd1]
      exact qq_rf hA h _
  · simp only [f_X9_bar, f_X10_bar, f_X9_bar_L14, f_X10_bar_L14, f_X5_putBar, noScorer_f hs, isScorer_f hs, ob_s, ov_s, lt_e, ↓reduceIte, eq_self, not_true_eq_false, not_false_eq_true, nz_1, nz_m1, nz_m2, nz_m3, nz_m4, nz_m5, nz_m6, nz_m7, nz_m8, nz_m9, nl_m1, nl_m2, nl_m3, nl_m4, nl_m5, nl_m6, nl_m7, nl_m8, nl_m9, ceB, rfB rwd1, rfM rwd1, rlB rwd1, rlM rwd1]
    exact qq_rf hA h _
theorem st_most (hA : FDok FD) (h : RR FE AW FD k u v) (b : Int32) (w : Int32) : QQ (RR FE AW FD (k + 1)) (f_X9_most b w u) (f_X10_most b w v) := by
  obtain ⟨h1, h2, h3, h4, h5, h6, h7, h8, h9, h10, h11, h12, h13, h14, h15, h16, h17, h18, h19⟩ := id h
  by_cases hb : rg 8 b
  · have e : gA v 16 b.toNatClampNeg = gA u 20 b.toNatClampNeg := (h11.1 _ (rg_cl (by decide) hb)).1
    by_cases c1 : (0 : Int32) ≤ w
    · by_cases c2 : w ≤ (6 : Int32)
      · simp only [f_X9_most, f_X10_most, f_X9_inRange, noBidder_t hb, isBidder_t hb, c1, c2, oi_in (show 8 < 2 ^ 31 by decide) hb, e, ob_s, ov_s, lt_e, ↓reduceIte, eq_self, not_true_eq_false, not_false_eq_true, nz_1, nz_m1, nz_m2, nz_m3, nz_m4, nz_m5, nz_m6, nz_m7, nz_m8, nz_m9, nl_m1, nl_m2, nl_m3, nl_m4, nl_m5, nl_m6, nl_m7, nl_m8, nl_m9, ceB]
        refine ⟨_, _, _, _, rfl, rfl, ?_, rfl⟩
        refine ⟨h1, h2, h3, h4, h5, h6, h7, h8, h9, h10, ⟨fun i hi => ?_, h11.2⟩, Raw_k h12, h13, h14, h15, Or.inl rfl, fun _ => rfl, h18, fun z => (n01 z).elim⟩
        show upd (gA v 16) _ _ i = upd (gA u 20) _ _ i ∧ eN 6 (upd (gA u 20) _ _ i)
        by_cases c6 : i = b.toNatClampNeg
        · subst c6; rw [upd_s, upd_s]; exact ⟨rfl, eN_mk (c := 6) (by decide) (by decide) c1 c2⟩
        · rw [upd_n _ _ c6, upd_n _ _ c6]; exact h11.1 i hi
      · simp only [f_X9_most, f_X10_most, f_X9_inRange, noBidder_t hb, isBidder_t hb, c1, c2, ob_s, ov_s, lt_e, ↓reduceIte, eq_self, not_true_eq_false, not_false_eq_true, nz_1, nz_m1, nz_m2, nz_m3, nz_m4, nz_m5, nz_m6, nz_m7, nz_m8, nz_m9, nl_m1, nl_m2, nl_m3, nl_m4, nl_m5, nl_m6, nl_m7, nl_m8, nl_m9, ceB, rfB rwd6, rfM rwd6, rlB rwd6, rlM rwd6]
        exact qq_rf hA h _
    · simp only [f_X9_most, f_X10_most, f_X9_inRange, noBidder_t hb, isBidder_t hb, c1, ob_s, ov_s, lt_e, ↓reduceIte, eq_self, not_true_eq_false, not_false_eq_true, nz_1, nz_m1, nz_m2, nz_m3, nz_m4, nz_m5, nz_m6, nz_m7, nz_m8, nz_m9, nl_m1, nl_m2, nl_m3, nl_m4, nl_m5, nl_m6, nl_m7, nl_m8, nl_m9, ceB, rfB rwd4, rfM rwd4, rlB rwd4, rlM rwd4]
      exact qq_rf hA h _
  · simp only [f_X9_most, f_X10_most, f_X9_inRange, noBidder_f hb, isBidder_f hb, ob_s, ov_s, lt_e, ↓reduceIte, eq_self, not_true_eq_false, not_false_eq_true, nz_1, nz_m1, nz_m2, nz_m3, nz_m4, nz_m5, nz_m6, nz_m7, nz_m8, nz_m9, nl_m1, nl_m2, nl_m3, nl_m4, nl_m5, nl_m6, nl_m7, nl_m8, nl_m9, ceB, rfB rwd1, rfM rwd1, rlB rwd1, rlM rwd1]
    exact qq_rf hA h _
theorem st_rebate (hA : FDok FD) (h : RR FE AW FD k u v) (b : Int32) (m : Int32) (w : Int32) : QQ (RR FE AW FD (k + 1)) (f_X9_rebate b m w u) (f_X10_rebate b m w v) := by
  obtain ⟨h1, h2, h3, h4, h5, h6, h7, h8, h9, h10, h11, h12, h13, h14, h15, h16, h17, h18, h19⟩ := id h
  by_cases hb : rg 8 b
  · by_cases c1 : m < (1 : Int32)
    · simp only [f_X9_rebate, f_X10_rebate, f_X9_rebate_L22, f_X9_rebate_L41, f_X10_rebate_L22, f_X10_rebate_L41, f_X8_putRebate, noBidder_t hb, isBidder_t hb, c1, ob_s, ov_s, lt_e, ↓reduceIte, eq_self, not_true_eq_false, not_false_eq_true, nz_1, nz_m1, nz_m2, nz_m3, nz_m4, nz_m5, nz_m6, nz_m7, nz_m8, nz_m9, nl_m1, nl_m2, nl_m3, nl_m4, nl_m5, nl_m6, nl_m7, nl_m8, nl_m9, ceB, rfB rwd4, rfM rwd4, rlB rwd4, rlM rwd4]
      exact qq_rf hA h _
    · by_cases c2 : (0 : Int32) ≤ w
      · by_cases c3 : (6 : Int32) < m
        · simp only [f_X9_rebate, f_X10_rebate, f_X9_rebate_L22, f_X9_rebate_L41, f_X10_rebate_L22, f_X10_rebate_L41, f_X8_putRebate, noBidder_t hb, isBidder_t hb, c1, c2, c3, ob_s, ov_s, lt_e, ↓reduceIte, eq_self, not_true_eq_false, not_false_eq_true, nz_1, nz_m1, nz_m2, nz_m3, nz_m4, nz_m5, nz_m6, nz_m7, nz_m8, nz_m9, nl_m1, nl_m2, nl_m3, nl_m4, nl_m5, nl_m6, nl_m7, nl_m8, nl_m9, ceB, rfB rwd6, rfM rwd6, rlB rwd6, rlM rwd6]
          exact qq_rf hA h _
        · by_cases c4 : w ≤ (50 : Int32)
          · have hm : rg 7 m := rg_mk (by decide) (fun z => c1 (Int32.lt_trans z (by decide))) ((le_nI (n := 6) (by decide)).mp (Int32.not_lt.mp c3))
            obtain ⟨g1, g2, g3, g4⟩ := br7 hb hm
            have e : gA v 17 (((7 : Int32) * b) + m).toNatClampNeg = gA u 22 ((b * (7 : Int32)) + m).toNatClampNeg := by
              rw [g3, g4]; exact (h11.2 _ _ (rg_cl (by decide) hb) (rg_cl (by decide) hm)).1
            simp only [f_X9_rebate, f_X10_rebate, f_X9_rebate_L22, f_X9_rebate_L41, f_X10_rebate_L22, f_X10_rebate_L41, f_X8_putRebate, noBidder_t hb, isBidder_t hb, c1, c2, c3, c4, oi_in (show 56 < 2 ^ 31 by decide) g1, oi_in (show 56 < 2 ^ 31 by decide) g2, e, ob_s, ov_s, lt_e, ↓reduceIte, eq_self, not_true_eq_false, not_false_eq_true, nz_1, nz_m1, nz_m2, nz_m3, nz_m4, nz_m5, nz_m6, nz_m7, nz_m8, nz_m9, nl_m1, nl_m2, nl_m3, nl_m4, nl_m5, nl_m6, nl_m7, nl_m8, nl_m9, ceB]
            refine ⟨_, _, _, _, rfl, rfl, ?_, rfl⟩
            refine ⟨h1, h2, h3, h4, h5, h6, h7, h8, h9, h10, ⟨h11.1, fun i j hi hj => ?_⟩, Raw_k h12, h13, h14, h15, Or.inl rfl, fun _ => rfl, h18, fun z => (n01 z).elim⟩
            show upd (gA v 17) (((7 : Int32) * b) + m).toNatClampNeg w (7 * i + j) = upd (gA u 22) ((b * (7 : Int32)) + m).toNatClampNeg w (i * 7 + j) ∧ eN 50 (upd (gA u 22) ((b * (7 : Int32)) + m).toNatClampNeg w (i * 7 + j))
            rw [g3, g4]
            have m7 := rg_cl (by decide) hm
            by_cases c6 : i = b.toNatClampNeg ∧ j = m.toNatClampNeg
            · rw [c6.1, c6.2, upd_s, upd_s]; exact ⟨rfl, eN_mk (c := 50) (by decide) (by decide) c2 c4⟩
            · rw [upd_n _ _ (by omega), upd_n _ _ (by omega)]; exact h11.2 i j hi hj
          · simp only [f_X9_rebate, f_X10_rebate, f_X9_rebate_L22, f_X9_rebate_L41, f_X10_rebate_L22, f_X10_rebate_L41, f_X8_putRebate, noBidder_t hb, isBidder_t hb, c1, c2, c3, c4, ob_s, ov_s, lt_e, ↓reduceIte, eq_self, not_true_eq_false, not_false_eq_true, nz_1, nz_m1, nz_m2, nz_m3, nz_m4, nz_m5, nz_m6, nz_m7, nz_m8, nz_m9, nl_m1, nl_m2, nl_m3, nl_m4, nl_m5, nl_m6, nl_m7, nl_m8, nl_m9, ceB, rfB rwd6, rfM rwd6, rlB rwd6, rlM rwd6]
            exact qq_rf hA h _
      · simp only [f_X9_rebate, f_X10_rebate, f_X9_rebate_L22, f_X9_rebate_L41, f_X10_rebate_L22, f_X10_rebate_L41, f_X8_putRebate, noBidder_t hb, isBidder_t hb, c1, c2, ob_s, ov_s, lt_e, ↓reduceIte, eq_self, not_true_eq_false, not_false_eq_true, nz_1, nz_m1, nz_m2, nz_m3, nz_m4, nz_m5, nz_m6, nz_m7, nz_m8, nz_m9, nl_m1, nl_m2, nl_m3, nl_m4, nl_m5, nl_m6, nl_m7, nl_m8, nl_m9, ceB, rfB rwd4, rfM rwd4, rlB rwd4, rlM rwd4]
        exact qq_rf hA h _
  · simp only [f_X9_rebate, f_X10_rebate, f_X9_rebate_L22, f_X9_rebate_L41, f_X10_rebate_L22, f_X10_rebate_L41, f_X8_putRebate, noBidder_f hb, isBidder_f hb, ob_s, ov_s, lt_e, ↓reduceIte, eq_self, not_true_eq_false, not_false_eq_true, nz_1, nz_m1, nz_m2, nz_m3, nz_m4, nz_m5, nz_m6, nz_m7, nz_m8, nz_m9, nl_m1, nl_m2, nl_m3, nl_m4, nl_m5, nl_m6, nl_m7, nl_m8, nl_m9, ceB, rfB rwd1, rfM rwd1, rlB rwd1, rlM rwd1]
    exact qq_rf hA h _
end ST1
