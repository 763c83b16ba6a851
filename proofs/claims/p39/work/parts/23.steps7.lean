section ST7
variable {FE : (Nat → Int32) → Nat → (Nat → Int32) → Nat → Prop} {AW : (Nat → Int32) → (Nat → Int32) → (Nat → Int64) → (Nat → Int32) → (Nat → Int32) → (Nat → Int32) → Prop} {FD : SS → SS → Prop} {k : Nat} {u v : SS}
theorem nwB_step {m j F q : Nat} {b3 stop w : Int32} (hm : m ≤ 8) (e21 : gI u 21 = nI m) (e24 : gI u 24 = w) (hj : j < m) (hp : (if nI m ≤ b3 + (1 : Int32) then (0 : Int32) else b3 + (1 : Int32)) = nI ((q + j) % m)) : f_X4_nextWithRoom_L5 (F + 1) stop b3 (nI j) u = if nI ((q + j) % m) = stop then some (-1, u) else if gA u 31 ((q + j) % m) < w then f_X4_nextWithRoom_L5 F stop (nI ((q + j) % m)) (nI (j + 1)) u else some (nI ((q + j) % m), u) := by
  have hx : (q + j) % m < m := Nat.mod_lt _ (by omega)
  show b_X4_nextWithRoom_L5 (f_X4_nextWithRoom_L5 F) stop b3 (nI j) u = _
  unfold b_X4_nextWithRoom_L5
  rw [e21, if_neg (nI_ge hj (by omega))]
  have hL : (if nI m ≤ b3 + (1 : Int32) then f_X4_nextWithRoom_L31 (f_X4_nextWithRoom_L5 F) stop (nI j) (0 : Int32) u else f_X4_nextWithRoom_L31 (f_X4_nextWithRoom_L5 F) stop (nI j) (b3 + (1 : Int32)) u) = f_X4_nextWithRoom_L31 (f_X4_nextWithRoom_L5 F) stop (nI j) (nI ((q + j) % m)) u := by
    by_cases c : nI m ≤ b3 + (1 : Int32)
    · rw [if_pos c] at hp ⊢; rw [hp]
    · rw [if_neg c] at hp ⊢; rw [hp]
  rw [hL]
  unfold f_X4_nextWithRoom_L31
  rw [oi_nI (by decide) (show (q + j) % m < 8 by omega), nI_clamp (show (q + j) % m < 2 ^ 31 by omega), e24, lt_e, nI_1]
theorem nw_next {m x q j : Nat} (hm : m ≤ 8) (hx : x = (q + j) % m) (h0 : 0 < m) : (if nI m ≤ nI x + (1 : Int32) then (0 : Int32) else nI x + (1 : Int32)) = nI ((q + (j + 1)) % m) := by
  have hlt : x < m := by rw [hx]; exact Nat.mod_lt _ h0
  have e : (q + (j + 1)) % m = (x + 1) % m := by
    rw [hx, Nat.mod_add_mod, Nat.add_assoc]
  rw [nI_1, e]
  by_cases c : m ≤ x + 1
  · have c2 : x + 1 = m := by omega
    rw [if_pos (nI_le c (by omega)), c2, Nat.mod_self]; rfl
  · rw [if_neg (nI_ge (by omega) (by omega)), Nat.mod_eq_of_lt (by omega)]
theorem nwM_step {m j q F : Nat} {w lat : Int32} (hm : m ≤ 8) (hq : q ≤ 8) (e26 : gI v 26 = nI m) (e27 : gI v 27 = lat) (hl : ∀ j : Nat, lat + nI (j + 1) = nI (q + j)) (e28 : gI v 28 = -1) (hj : j < m) : f_X10_call_L38 (F + 1) w (nI (j + 1)) v = if gA v 33 ((q + j) % m) < w then f_X10_call_L38 F w (nI (j + 1 + 1)) v else f_X10_call_L38 F w (nI (j + 1 + 1)) (sI v 28 (nI ((q + j) % m))) := by
  have hx : (q + j) % m < m := Nat.mod_lt _ (by omega)
  show b_X10_call_L38 (f_X10_call_L38 F) w (nI (j + 1)) v = _
  unfold b_X10_call_L38
  rw [e26, e27, e28, hl, if_neg (nI_nlt (by omega) (by omega)), if_neg nl_m1, if_neg (nI_ne0 (by omega) (by omega)), pk_rem (by omega) (by omega) (by omega), lt_e, oi_nI (by decide) (show (q + j) % m < 8 by omega), nI_clamp (show (q + j) % m < 2 ^ 31 by omega)]
  unfold f_X10_call_L81
  simp only [lt_e, sI_same e28, nI_1]
theorem nw_call {m q : Nat} {w lat : Int32} (hm : m ≤ 8) (hq : q ≤ 8) (e21 : gI u 21 = nI m) (e26 : gI v 26 = nI m) (e24 : gI u 24 = w) (hR : ∀ i, i < m → gA v 33 i = gA u 31 i) (e27 : gI v 27 = lat) (hl : ∀ j : Nat, lat + nI (j + 1) = nI (q + j)) (e28 : gI v 28 = -1) : ∀ (k j F F2 : Nat) (b3 : Int32), j + k = m → k < F → k < F2 → (j < m → (if nI m ≤ b3 + (1 : Int32) then (0 : Int32) else b3 + (1 : Int32)) = nI ((q + j) % m)) → ∃ r : Int32, f_X4_nextWithRoom_L5 F (-1) b3 (nI j) u = some (r, u) ∧ f_X10_call_L38 F2 w (nI (j + 1)) v = f_X10_call_L90 w (sI v 28 r) ∧ (r = -1 ∨ ∃ p, p < m ∧ r = nI p) := by
  intro k
  induction k with
  | zero =>
    intro j F F2 b3 h1 h2 h3 h4
    match F, F2, h2, h3 with
    | F + 1, F2 + 1, _, _ =>
      refine ⟨-1, ?_, ?_, Or.inl rfl⟩
      · show b_X4_nextWithRoom_L5 (f_X4_nextWithRoom_L5 F) (-1) b3 (nI j) u = _
        unfold b_X4_nextWithRoom_L5
        rw [e21, if_pos (nI_le (by omega) (by omega))]
      · show b_X10_call_L38 (f_X10_call_L38 F2) w (nI (j + 1)) v = _
        unfold b_X10_call_L38
        rw [e26, if_pos (nI_lt (by omega) (by omega)), sI_same e28]
  | succ k ih =>
    intro j F F2 b3 h1 h2 h3 h4
    match F, F2, h2, h3 with
    | F + 1, F2 + 1, h2, h3 =>
      have hj : j < m := by omega
      have hx : (q + j) % m < m := Nat.mod_lt _ (by omega)
      have d1 : ¬ nI ((q + j) % m) = (-1 : Int32) := fun z => nI_pos (n := (q + j) % m) (by omega) (by rw [z]; exact lt_m1)
      rw [nwB_step hm e21 e24 hj (h4 hj), nwM_step hm hq e26 e27 hl e28 hj, if_neg d1, hR _ hx]
      by_cases c : gA u 31 ((q + j) % m) < w
      · rw [if_pos c, if_pos c]
        exact ih (j + 1) F F2 _ (by omega) (by omega) (by omega) (fun _ => nw_next hm rfl (by omega))
      · rw [if_neg c, if_neg c]
        refine ⟨nI ((q + j) % m), rfl, ?_, Or.inr ⟨_, hx, rfl⟩⟩
        match F2, h3 with
        | F2 + 1, _ =>
          show b_X10_call_L38 (f_X10_call_L38 F2) w (nI (j + 1 + 1)) (sI v 28 (nI ((q + j) % m))) = _
          unfold b_X10_call_L38
          have d2 : (0 : Int32) ≤ gI (sI v 28 (nI ((q + j) % m))) 28 := by rw [sIe]; exact nI_pos' (by omega)
          rw [if_pos d2]
          split <;> rfl
theorem nw_lat {m : Nat} (hm : m ≤ 8) {x : Int32} (h : x = -1 ∨ ∃ i : Nat, i < m ∧ x = nI i) : ∃ q : Nat, q ≤ 8 ∧ (∀ j : Nat, x + nI (j + 1) = nI (q + j)) ∧ (0 < m → (if nI m ≤ x + (1 : Int32) then (0 : Int32) else x + (1 : Int32)) = nI ((q + 0) % m)) := by
  rcases h with rfl | ⟨i, hi, rfl⟩
  · refine ⟨0, by omega, fun j => ?_, fun h => ?_⟩
    · rw [Int32.add_comm, pk_m1, Nat.zero_add]
    · rw [show (-1 : Int32) + (1 : Int32) = nI 0 by decide, if_neg (nI_ge h (by omega)), Nat.add_zero, Nat.zero_mod]
  · refine ⟨i + 1, by omega, fun j => ?_, fun h => ?_⟩
    · rw [nI_add, show i + (j + 1) = i + 1 + j by omega]
    · rw [nw_next (q := i) (j := 0) hm (by rw [Nat.add_zero, Nat.mod_eq_of_lt hi]) h]
/-- decline: the same, up to the first place of the call -/
theorem nwD_step {m j q F h0 : Nat} {w : Int32} (hm : m ≤ 8) (hq : q = h0 + 1) (hq8 : q ≤ 8) (e26 : gI v 26 = nI m) (e30 : gI v 30 = w) (e28 : gI v 28 = -1) (hj : j + 1 < m) : f_X10_decline_L42 (F + 1) (nI h0) (nI (j + 1)) v = if nI ((q + j) % m) = gI v 29 then some (-9, v) else if gA v 33 ((q + j) % m) < w then f_X10_decline_L42 F (nI h0) (nI (j + 1 + 1)) v else f_X10_decline_L42 F (nI h0) (nI (j + 1 + 1)) (sI v 28 (nI ((q + j) % m))) := by
  have hx : (q + j) % m < m := Nat.mod_lt _ (by omega)
  have ea : nI h0 + nI (j + 1) = nI (q + j) := by rw [nI_add, show h0 + (j + 1) = q + j by omega]
  show b_X10_decline_L42 (f_X10_decline_L42 F) (nI h0) (nI (j + 1)) v = _
  unfold b_X10_decline_L42
  rw [e26, e28, ea, if_neg (nI_ge hj (by omega)), if_neg nl_m1, if_neg (nI_ne0 (by omega) (by omega)), pk_rem (by omega) (by omega) (by omega), lt_e, oi_nI (by decide) (show (q + j) % m < 8 by omega), nI_clamp (show (q + j) % m < 2 ^ 31 by omega), e30]
  unfold f_X10_decline_L96
  simp only [lt_e, sI_same e28, nI_1]
theorem nw_mod {m q s h0 : Nat} (hq : q = h0 + 1) (h1 : h0 < m) (h2 : s < m) (h3 : s ≠ h0) : ∃ j, j < m - 1 ∧ (q + j) % m = s := by
  rcases Nat.lt_or_ge h0 s with c | c
  · exact ⟨s - h0 - 1, by omega, by rw [show q + (s - h0 - 1) = s by omega, Nat.mod_eq_of_lt h2]⟩
  · exact ⟨s + m - h0 - 1, by omega, by rw [show q + (s + m - h0 - 1) = s + m by omega, Nat.add_mod_right, Nat.mod_eq_of_lt h2]⟩
theorem nw_dec {m q h0 s : Nat} {w : Int32} (hm : m ≤ 8) (hq : q = h0 + 1) (hh : h0 < m) (hs : s < m) (e21 : gI u 21 = nI m) (e26 : gI v 26 = nI m) (e24 : gI u 24 = w) (e30 : gI v 30 = w) (hR : ∀ i, i < m → gA v 33 i = gA u 31 i) (e29 : gI v 29 = nI s) (e28 : gI v 28 = -1) : ∀ (k j F F2 : Nat) (b3 : Int32), j + (k + 1) = m → k + 1 < F → k + 1 < F2 → (if nI m ≤ b3 + (1 : Int32) then (0 : Int32) else b3 + (1 : Int32)) = nI ((q + j) % m) → (∀ i, i < j → (q + i) % m ≠ s) → ∃ r : Int32, f_X4_nextWithRoom_L5 F (nI s) b3 (nI j) u = some (r, u) ∧ f_X10_decline_L42 F2 (nI h0) (nI (j + 1)) v = f_X10_decline_L105 (sI v 28 r) ∧ (r = -1 ∨ ∃ p, p < m ∧ r = nI p) := by
  have L9 : f_X10_decline_L105 v = some (-9, v) := by
    unfold f_X10_decline_L105
    rw [e28, if_neg nl_m1]
  intro k
  induction k with
  | zero =>
    intro j F F2 b3 h1 h2 h3 h4 h5
    have hx : (q + j) % m = h0 := by rw [show q + j = h0 + m by omega, Nat.add_mod_right, Nat.mod_eq_of_lt hh]
    have hs0 : s = h0 := Classical.byContradiction (fun z => by
      obtain ⟨i, hi, e⟩ := nw_mod hq hh hs z
      exact h5 i (by omega) e)
    match F, F2, h2, h3 with
    | F + 1, F2 + 1, _, _ =>
      refine ⟨-1, ?_, ?_, Or.inl rfl⟩
      · rw [nwB_step hm e21 e24 (by omega) h4, hx, hs0, if_pos rfl]
      · show b_X10_decline_L42 (f_X10_decline_L42 F2) (nI h0) (nI (j + 1)) v = _
        unfold b_X10_decline_L42
        rw [e26, if_pos (nI_le (by omega) (by omega)), sI_same e28]
  | succ k ih =>
    intro j F F2 b3 h1 h2 h3 h4 h5
    match F, F2, h2, h3 with
    | F + 1, F2 + 1, h2, h3 =>
      have hx : (q + j) % m < m := Nat.mod_lt _ (by omega)
      rw [nwB_step hm e21 e24 (by omega) h4, nwD_step hm hq (by omega) e26 e30 e28 (by omega), e29, hR _ hx]
      by_cases c0 : (q + j) % m = s
      · have c1 : nI ((q + j) % m) = nI s := by rw [c0]
        rw [if_pos c1, if_pos c1]
        exact ⟨-1, rfl, by rw [sI_same e28, L9], Or.inl rfl⟩
      · have c1 : ¬ nI ((q + j) % m) = nI s := fun z => c0 ((nI_eq (by omega) (by omega)).mp z)
        rw [if_neg c1, if_neg c1]
        by_cases c : gA u 31 ((q + j) % m) < w
        · rw [if_pos c, if_pos c]
          exact ih (j + 1) F F2 _ (by omega) (by omega) (by omega) (nw_next hm rfl (by omega)) (fun i hi => by
            by_cases e : i = j
            · rw [e]; exact c0
            · exact h5 i (by omega))
        · rw [if_neg c, if_neg c]
          refine ⟨nI ((q + j) % m), rfl, ?_, Or.inr ⟨_, hx, rfl⟩⟩
          match F2, h3 with
          | F2 + 1, _ =>
            show b_X10_decline_L42 (f_X10_decline_L42 F2) (nI h0) (nI (j + 1 + 1)) (sI v 28 (nI ((q + j) % m))) = _
            unfold b_X10_decline_L42
            have d2 : (0 : Int32) ≤ gI (sI v 28 (nI ((q + j) % m))) 28 := by rw [sIe]; exact nI_pos' (by omega)
            rw [if_pos d2]
            split <;> rfl
theorem st_call (hA : FDok FD) (hA5 : FDfw FD) (h : RR FE AW FD k u v) (n : Int32) : QQ (RR FE AW FD (k + 1)) (f_X9_call n u) (f_X10_call n v) := by
  by_cases c1 : (1 : Int32) ≤ n
  · by_cases c2 : n ≤ (999 : Int32)
    · obtain ⟨m, hm, e21, e26, hM, hinj, f1, f2, f3, f4, f5⟩ := h.2.2.2.2.2.2.2.2.2.2.2.2.1
      obtain ⟨q, hq, hl, hq0⟩ := nw_lat hm f4
      obtain ⟨r, r1, r2, r3⟩ := nw_call (u := sI u 24 n) (v := sI (sI v 28 (-1)) 30 n) (w := n) (lat := gI u 22) (q := q) hm hq e21 e26 rfl (fun i hi => (hM i hi).2.2) f1 hl rfl m 0 FU FU (gI u 22) (by omega) (Nat.lt_trans (by omega) FU_ge) (Nat.lt_trans (by omega) FU_ge) hq0
      have r1 : f_X4_nextWithRoom (gI u 22) (-1) (sI u 24 n) = some (r, sI u 24 n) := r1
      have r2 : f_X10_call_L38 FU n (1 : Int32) (sI (sI v 28 (-1)) 30 n) = f_X10_call_L90 n (sI (sI (sI v 28 (-1)) 30 n) 28 r) := r2
      rcases r3 with rfl | ⟨p, hp, rfl⟩
      · simp (decide := true) only [f_X9_call, f_X10_call, f_X9_inRange, f_X4_beginCall, f_X4_hand, f_X10_call_L90, c1, c2, r1, r2, sIe, sIn, sJe, sJn, tAe, tAn, tZe, tZn, tLe, tLn, gI_tA, gI_tZ, gI_tL, gI_sJ, gA_sI, gA_sJ, gA_tL, gJ_sI, gJ_tA, gJ_tZ, gJ_tL, gL_sI, gL_sJ, gL_tA, gL_tZ, nar_0, nar_1, ob_s, ov_s, lt_e, ↓reduceIte, eq_self, not_true_eq_false, not_false_eq_true, nz_1, nz_m1, nz_m2, nz_m3, nz_m4, nz_m5, nz_m6, nz_m7, nz_m8, nz_m9, nl_m1, nl_m2, nl_m3, nl_m4, nl_m5, nl_m6, nl_m7, nl_m8, nl_m9, ceB]
        refine ⟨_, _, _, _, rfl, rfl, RR_fw hA5 h (fun i hi => by repeat (first | rw [gI_sI, if_neg (by omega)] | rw [gI_tA])) (fun i hi => by repeat (first | rw [gI_sI, if_neg (by omega)] | rw [gI_tA])) rfl (fun a a1 a2 => by repeat (first | rw [gA_sI] | rw [gA_tA, if_neg (by omega)])) (fun a a1 a2 => by repeat (first | rw [gA_sI] | rw [gA_tA, if_neg (by omega)])) ?_, rfl⟩
        exact ⟨m, hm, e21, e26, hM, hinj, f1, rfl, rfl, f4, Or.inl rfl⟩
      · have d1 : ¬ nI p = (-1 : Int32) := fun z => nI_pos (n := p) (by omega) (by rw [z]; exact lt_m1)
        have d2 : (0 : Int32) ≤ nI p := nI_pos' (by omega)
        simp (decide := true) only [f_X9_call, f_X10_call, f_X9_inRange, f_X4_beginCall, f_X4_hand, f_X10_call_L90, c1, c2, r1, r2, d1, d2, oi_nI (show 8 < 2 ^ 31 by decide) (show p < 8 by omega), nI_clamp (show p < 2 ^ 31 by omega), (hM p hp).1, sIe, sIn, sJe, sJn, tAe, tAn, tZe, tZn, tLe, tLn, gI_tA, gI_tZ, gI_tL, gI_sJ, gA_sI, gA_sJ, gA_tL, gJ_sI, gJ_tA, gJ_tZ, gJ_tL, gL_sI, gL_sJ, gL_tA, gL_tZ, nar_0, nar_1, ob_s, ov_s, lt_e, ↓reduceIte, eq_self, not_true_eq_false, not_false_eq_true, nz_1, nz_m1, nz_m2, nz_m3, nz_m4, nz_m5, nz_m6, nz_m7, nz_m8, nz_m9, nl_m1, nl_m2, nl_m3, nl_m4, nl_m5, nl_m6, nl_m7, nl_m8, nl_m9, ceB]
        refine ⟨_, _, _, _, rfl, rfl, RR_fw hA5 h (fun i hi => by repeat (first | rw [gI_sI, if_neg (by omega)] | rw [gI_tA])) (fun i hi => by repeat (first | rw [gI_sI, if_neg (by omega)] | rw [gI_tA])) rfl (fun a a1 a2 => by repeat (first | rw [gA_sI] | rw [gA_tA, if_neg (by omega)])) (fun a a1 a2 => by repeat (first | rw [gA_sI] | rw [gA_tA, if_neg (by omega)])) ?_, rfl⟩
        refine ⟨m, hm, e21, e26, fun i hi => ⟨(hM i hi).1, (hM i hi).2.1, ?_⟩, hinj, rfl, rfl, rfl, Or.inr ⟨p, hp, rfl⟩, Or.inr ⟨⟨p, hp, rfl⟩, rfl, ⟨p, hp, rfl⟩⟩⟩
        show upd (gA v 33) (nI p).toNatClampNeg (gA v 33 p - n) i = upd (gA u 31) (nI p).toNatClampNeg (gA u 31 p - n) i
        rw [nI_clamp (by omega), (hM p hp).2.2]
        by_cases c : i = p
        · rw [c, upd_s, upd_s]
        · rw [upd_n _ _ c, upd_n _ _ c]; exact (hM i hi).2.2
    · simp only [f_X9_call, f_X10_call, f_X9_inRange, f_X4_beginCall, f_X4_hand, f_X10_call_L90, c1, c2, ob_s, ov_s, lt_e, ↓reduceIte, eq_self, not_true_eq_false, not_false_eq_true, nz_1, nz_m1, nz_m2, nz_m3, nz_m4, nz_m5, nz_m6, nz_m7, nz_m8, nz_m9, nl_m1, nl_m2, nl_m3, nl_m4, nl_m5, nl_m6, nl_m7, nl_m8, nl_m9, ceB, rfB rwd6, rfM rwd6, rlB rwd6, rlM rwd6]
      exact qq_rf hA h _
  · simp only [f_X9_call, f_X10_call, f_X9_inRange, f_X4_beginCall, f_X4_hand, f_X10_call_L90, c1, ob_s, ov_s, lt_e, ↓reduceIte, eq_self, not_true_eq_false, not_false_eq_true, nz_1, nz_m1, nz_m2, nz_m3, nz_m4, nz_m5, nz_m6, nz_m7, nz_m8, nz_m9, nl_m1, nl_m2, nl_m3, nl_m4, nl_m5, nl_m6, nl_m7, nl_m8, nl_m9, ceB, rfB rwd4, rfM rwd4, rlB rwd4, rlM rwd4]
    exact qq_rf hA h _
theorem st_decline (hA : FDok FD) (hA5 : FDfw FD) (h : RR FE AW FD k u v) : QQ (RR FE AW FD (k + 1)) (f_X9_decline u) (f_X10_decline v) := by
  obtain ⟨m, hm, e21, e26, hM, hinj, f1, f2, f3, f4, f5⟩ := h.2.2.2.2.2.2.2.2.2.2.2.2.1
  rcases f5 with z | ⟨⟨h0, hh, z⟩, z2, ⟨s, hs, z3⟩⟩
  · simp (decide := true) only [f_X9_decline, f_X10_decline, f_X4_passOn, f_X4_hand, f_X10_decline_L105, f2, z, sIe, sIn, sJe, sJn, tAe, tAn, tZe, tZn, tLe, tLn, gI_tA, gI_tZ, gI_tL, gI_sJ, gA_sI, gA_sJ, gA_tL, gJ_sI, gJ_tA, gJ_tZ, gJ_tL, gL_sI, gL_sJ, gL_tA, gL_tZ, nar_0, nar_1, ob_s, ov_s, lt_e, ↓reduceIte, eq_self, not_true_eq_false, not_false_eq_true, nz_1, nz_m1, nz_m2, nz_m3, nz_m4, nz_m5, nz_m6, nz_m7, nz_m8, nz_m9, nl_m1, nl_m2, nl_m3, nl_m4, nl_m5, nl_m6, nl_m7, nl_m8, nl_m9, ceB, rfB rwd3, rfM rwd3, rlB rwd3, rlM rwd3]
    exact qq_rf hA h _
  · have c0 : ¬ gI u 20 = (-1 : Int32) := fun y => nI_pos (n := h0) (by omega) (by rw [← z, y]; exact lt_m1)
    have d0 : (0 : Int32) ≤ nI h0 := nI_pos' (by omega)
    have hR : ∀ i, i < m → gA (sI (tA v 33 (nI h0) (gA v 33 h0 + gI u 24)) 28 (-1)) 33 i = gA (tA u 31 (nI h0) (gA u 31 h0 + gI u 24)) 31 i := fun i hi => by
      show upd (gA v 33) (nI h0).toNatClampNeg (gA v 33 h0 + gI u 24) i = upd (gA u 31) (nI h0).toNatClampNeg (gA u 31 h0 + gI u 24) i
      rw [nI_clamp (by omega), (hM h0 hh).2.2]
      by_cases c : i = h0
      · rw [c, upd_s, upd_s]
      · rw [upd_n _ _ c, upd_n _ _ c]; exact (hM i hi).2.2
    obtain ⟨r, r1, r2, r3⟩ := nw_dec (u := tA u 31 (nI h0) (gA u 31 h0 + gI u 24)) (v := sI (tA v 33 (nI h0) (gA v 33 h0 + gI u 24)) 28 (-1)) (w := gI u 24) (q := h0 + 1) hm rfl hh hs e21 e26 rfl f3 hR (z2.trans z3) rfl (m - 1) 0 FU FU (nI h0) (by omega) (Nat.lt_trans (by omega) FU_ge) (Nat.lt_trans (by omega) FU_ge) (nw_next (q := h0) (j := 0) hm (by rw [Nat.add_zero, Nat.mod_eq_of_lt hh]) (by omega)) (fun i hi => absurd hi (by omega))
    have r1 : f_X4_nextWithRoom (nI h0) (nI s) (tA u 31 (nI h0) (gA u 31 h0 + gI u 24)) = some (r, tA u 31 (nI h0) (gA u 31 h0 + gI u 24)) := r1
    have r2 : f_X10_decline_L42 FU (nI h0) (1 : Int32) (sI (tA v 33 (nI h0) (gA v 33 h0 + gI u 24)) 28 (-1)) = f_X10_decline_L105 (sI (sI (tA v 33 (nI h0) (gA v 33 h0 + gI u 24)) 28 (-1)) 28 r) := r2
    have z4 : gI v 28 = nI h0 := f2.trans z
    have d1 : ¬ nI h0 = (-1 : Int32) := fun y => c0 (z.trans y)
    have oh : ∀ {β : Type} (x : Option β), oi (nI h0) 8 x = x := fun x => oi_nI (by decide) (by omega)
    have ch : (nI h0).toNatClampNeg = h0 := nI_clamp (by omega)
    rcases r3 with rfl | ⟨p, hp, rfl⟩
    · simp (decide := true) only [f_X9_decline, f_X10_decline, f_X4_passOn, f_X4_hand, f_X10_decline_L105, z, z4, d0, d1, oh, f3, z3, r1, r2, ch, sIe, sIn, sJe, sJn, tAe, tAn, tZe, tZn, tLe, tLn, gI_tA, gI_tZ, gI_tL, gI_sJ, gA_sI, gA_sJ, gA_tL, gJ_sI, gJ_tA, gJ_tZ, gJ_tL, gL_sI, gL_sJ, gL_tA, gL_tZ, nar_0, nar_1, ob_s, ov_s, lt_e, ↓reduceIte, eq_self, not_true_eq_false, not_false_eq_true, nz_1, nz_m1, nz_m2, nz_m3, nz_m4, nz_m5, nz_m6, nz_m7, nz_m8, nz_m9, nl_m1, nl_m2, nl_m3, nl_m4, nl_m5, nl_m6, nl_m7, nl_m8, nl_m9, ceB]
      refine ⟨_, _, _, _, rfl, rfl, RR_fw hA5 h (fun i hi => by repeat (first | rw [gI_sI, if_neg (by omega)] | rw [gI_tA])) (fun i hi => by repeat (first | rw [gI_sI, if_neg (by omega)] | rw [gI_tA])) rfl (fun a a1 a2 => by repeat (first | rw [gA_sI] | rw [gA_tA, if_neg (by omega)])) (fun a a1 a2 => by repeat (first | rw [gA_sI] | rw [gA_tA, if_neg (by omega)])) ?_, rfl⟩
      exact ⟨m, hm, e21, e26, fun i hi => ⟨(hM i hi).1, (hM i hi).2.1, hR i hi⟩, hinj, f1, rfl, f3, f4, Or.inl rfl⟩
    · have d3 : ¬ nI p = (-1 : Int32) := fun z => nI_pos (n := p) (by omega) (by rw [z]; exact lt_m1)
      have d2 : (0 : Int32) ≤ nI p := nI_pos' (by omega)
      have op : ∀ {β : Type} (x : Option β), oi (nI p) 8 x = x := fun x => oi_nI (by decide) (by omega)
      have cp : (nI p).toNatClampNeg = p := nI_clamp (by omega)
      have hR2 := hR p hp
      simp (decide := true) only [ch, sIe, sIn, sJe, sJn, tAe, tAn, tZe, tZn, tLe, tLn, gI_tA, gI_tZ, gI_tL, gI_sJ, gA_sI, gA_sJ, gA_tL, gJ_sI, gJ_tA, gJ_tZ, gJ_tL, gL_sI, gL_sJ, gL_tA, gL_tZ, nar_0, nar_1, ob_s, ov_s, lt_e, ↓reduceIte, eq_self, not_true_eq_false, not_false_eq_true, nz_1, nz_m1, nz_m2, nz_m3, nz_m4, nz_m5, nz_m6, nz_m7, nz_m8, nz_m9, nl_m1, nl_m2, nl_m3, nl_m4, nl_m5, nl_m6, nl_m7, nl_m8, nl_m9, ceB] at hR2
      simp (decide := true) only [f_X9_decline, f_X10_decline, f_X4_passOn, f_X4_hand, f_X10_decline_L105, z, z4, d0, d1, oh, f3, z3, r1, r2, ch, d3, d2, op, cp, (hM p hp).1, hR2, sIe, sIn, sJe, sJn, tAe, tAn, tZe, tZn, tLe, tLn, gI_tA, gI_tZ, gI_tL, gI_sJ, gA_sI, gA_sJ, gA_tL, gJ_sI, gJ_tA, gJ_tZ, gJ_tL, gL_sI, gL_sJ, gL_tA, gL_tZ, nar_0, nar_1, ob_s, ov_s, lt_e, ↓reduceIte, eq_self, not_true_eq_false, not_false_eq_true, nz_1, nz_m1, nz_m2, nz_m3, nz_m4, nz_m5, nz_m6, nz_m7, nz_m8, nz_m9, nl_m1, nl_m2, nl_m3, nl_m4, nl_m5, nl_m6, nl_m7, nl_m8, nl_m9, ceB]
      refine ⟨_, _, _, _, rfl, rfl, RR_fw hA5 h (fun i hi => by repeat (first | rw [gI_sI, if_neg (by omega)] | rw [gI_tA])) (fun i hi => by repeat (first | rw [gI_sI, if_neg (by omega)] | rw [gI_tA])) rfl (fun a a1 a2 => by repeat (first | rw [gA_sI] | rw [gA_tA, if_neg (by omega)])) (fun a a1 a2 => by repeat (first | rw [gA_sI] | rw [gA_tA, if_neg (by omega)])) ?_, rfl⟩
      refine ⟨m, hm, e21, e26, fun i hi => ⟨(hM i hi).1, (hM i hi).2.1, ?_⟩, hinj, rfl, rfl, f3, Or.inr ⟨p, hp, rfl⟩, Or.inr ⟨⟨p, hp, rfl⟩, z2, ⟨s, hs, z3⟩⟩⟩
      have hRi := hR i hi
      simp (decide := true) only [sIe, sIn, sJe, sJn, tAe, tAn, tZe, tZn, tLe, tLn, gI_tA, gI_tZ, gI_tL, gI_sJ, gA_sI, gA_sJ, gA_tL, gJ_sI, gJ_tA, gJ_tZ, gJ_tL, gL_sI, gL_sJ, gL_tA, gL_tZ, nar_0, nar_1] at hRi ⊢
      rw [ch] at hRi ⊢
      rw [cp]
      by_cases c : i = p
      · rw [c, upd_s, upd_s]
      · rw [upd_n _ _ c, upd_n _ _ c]; exact hRi
end ST7
