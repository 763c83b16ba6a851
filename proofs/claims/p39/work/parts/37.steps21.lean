section ST21
variable {k n : Nat} {u v w x : SS}
theorem quM_T (h : RT k u v) (b l n : Int32) : TO (fun p : Int32 × SS => MK v p.2) (f_X10_quality b l n v) := by
  obtain ⟨⟨t, L, ht, hL1, hL6, e0, e0m, e2, e2m, e1, e1c⟩, -⟩ := id h
  unfold f_X10_quality f_X10_quality_L15
  rcases in_c b 8 with ⟨i, hi, rfl⟩ | hb
  rotate_left
  · rw [isBidder_f hb, ob_s, if_pos rfl]; exact rfM3 rwd1 (MK_r v)
  rw [isBidder_t ⟨i, hi, rfl⟩, ob_s, if_neg nz_1]
  rcases cl_c l L with ⟨j, hj, rfl⟩ | hl
  rotate_left
  · rw [isLot_f e2m hL1 hL6 hl, ob_s, if_pos rfl]; exact rfM3 rwd1 (MK_r v)
  rw [isLot_t e2m hL1 hL6 ⟨j, hj, rfl⟩, ob_s, if_neg nz_1]
  have inT2 : TO (fun p : Int32 × SS => p.2 = v) (f_X10_in n (0 : Int32) (1 : Int32) v) := by
    unfold f_X10_in
    exact to_c (fun _ => to_s rfl) (fun _ => to_c (fun _ => to_s rfl) (fun _ => to_s rfl))
  refine to_b inT2 (fun a w hw => ?_)
  have hw : w = v := hw
  subst hw
  refine to_c (fun _ => rfM3 rwd2 (MK_r w)) (fun _ => ?_)
  rw [cellM]
  refine to_i (by decide) ⟨8 * j + i, by omega, rfl⟩ (to_c (fun _ => rfM3 rwd5 (MK_r w)) (fun _ => ?_))
  refine to_v (fqT h (show 8 * j + i < 48 by omega) _) (fun y hy => ?_)
  obtain ⟨q, s, c, c1, c6, s6, e4, e5⟩ := hy
  rw [e4, e5, nI_l (by omega), nI_l (by omega), ← iL_n s]
  obtain ⟨g, g0, g1, g2, eg⟩ := dvT (z := (s : Int)) (m := c) (by omega) (by omega) (by omega) (by omega) y
  rw [eg, ob_s, lN_i, lt_e]
  exact to_c (fun _ => to_n (nI_ne0 g0 (by omega)) (to_s (QK_mk q))) (fun _ => to_n (nI_ne0 g0 (by omega)) (to_s (QK_mk q)))
theorem st_qualityT (h : RT k u v) (b l n : Int32) : QN (RT (k + 1)) (f_X9_quality b l n u) (f_X10_quality b l n v) := qn_fr h (quB_T h b l n) (quM_T h b l n)
/-! fractions of the reference -/
theorem QE_o {t d : Int64} (h : QE t d) : ∃ (z : Int) (m : Nat), t = iL z ∧ d = lN m ∧ -1000000000 ≤ z ∧ z ≤ 1000000000 ∧ 1 ≤ m ∧ m ≤ 1000000000 := by
  obtain ⟨⟨a, b⟩, c, d2⟩ := h
  obtain ⟨m, hm⟩ := Int.eq_ofNat_of_zero_le (show 0 ≤ d.toInt by omega)
  exact ⟨t.toInt, m, (iL_o t).symm, by rw [← iL_n, ← hm, iL_o], a, b, by omega, by omega⟩
theorem QE_i {z : Int} {m : Nat} (h1 : -1000000000 ≤ z) (h2 : z ≤ 1000000000) (h3 : 1 ≤ m) (h4 : m ≤ 1000000000) : QE (iL z) (lN m) := by
  refine ⟨?_, ?_⟩
  · rw [iL_t (by omega) (by omega)]; exact ⟨h1, h2⟩
  · rw [← iL_n, iL_t (by omega) (by omega)]; omega
theorem QE_01 : QE 0 1 := by refine ⟨⟨?_, ?_⟩, ?_, ?_⟩ <;> decide
theorem updL_s (f : Nat → Int64) (k : Nat) (x : Int64) : vp_updL f k x k = x := by simp [vp_updL]
theorem updL_n (f : Nat → Int64) {k j : Nat} (x : Int64) (h : j ≠ k) : vp_updL f k x j = f j := by simp [vp_updL, h]
def ST (h : Nat) (w : SS) : Prop := ∀ j : Nat, j < h → QE (gL w 2 j) (gL w 3 j)
/-- what a piece of work leaves alone -/
def WF (w y : SS) : Prop := (∀ i : Nat, i ≠ 8 → i ≠ 13 → gI y i = gI w i) ∧ (∀ a : Nat, gA y a = gA w a) ∧ gL y 0 = gL w 0 ∧ gL y 1 = gL w 1
theorem WF_r (w : SS) : WF w w := ⟨fun _ _ _ => rfl, fun _ => rfl, rfl, rfl⟩
theorem WF_I {i : Nat} {z : Int32} (hi : i = 8 ∨ i = 13) (h : WF u w) : WF u (sI w i z) := ⟨fun j a b => by rw [sIn (by omega)]; exact h.1 j a b, h.2.1, h.2.2.1, h.2.2.2⟩
theorem WF_L {a : Nat} {i : Int32} {z : Int64} (ha : a = 2 ∨ a = 3) (h : WF u w) : WF u (tL w a i z) := ⟨h.1, h.2.1, by rw [tLn (by omega)]; exact h.2.2.1, by rw [tLn (by omega)]; exact h.2.2.2⟩
/-- worked: one less held -/
def WD1 (h : Nat) (w y : SS) : Prop := WF w y ∧ gI y 8 = nI (h + 1) ∧ bo (gI y 13) ∧ ST (h + 1) y
/-- before a result is put: h below it -/
def W0 (h : Nat) (w y : SS) : Prop := WF w y ∧ gI y 8 = nI (h + 1) ∧ bo (gI y 13) ∧ ST h y
theorem w392 {h : Nat} (hh : h + 2 ≤ 100) {q0 b12 : Int64} (hw : W0 h w x) (hq : gI x 13 = 0 → QE q0 b12) (hq1 : ¬ gI x 13 = 0 → q0 = 0) : TO (WD1 h w) (f_X10_work_L392 b12 q0 (nI h) x) := by
  obtain ⟨f, e8, b13, st⟩ := hw
  unfold f_X10_work_L392
  refine to_i (by decide) ⟨h, by omega, rfl⟩ (to_l ?_)
  rw [gI_tL, gI_tL, e8, show nI (h + 1) - (1 : Int32) = nI h from nI_pred h]
  have fin : ∀ d : Int64, QE q0 d → TO (WD1 h w) (oi (nI h) 100 (lt (tL (tL x 2 (nI h) q0) 3 (nI h) d) fun u13 => some u13)) := by
    intro d hd
    refine to_i (by decide) ⟨h, by omega, rfl⟩ (to_l (to_s ⟨WF_L (by omega) (WF_L (by omega) f), e8, b13, fun j hj => ?_⟩))
    rw [tLn (show (2 : Nat) ≠ 3 by decide), tLe, tLe, tLn (show (3 : Nat) ≠ 2 by decide), nI_clamp (by omega)]
    by_cases z : j = h
    · rw [z, updL_s, updL_s]; exact hd
    · rw [updL_n _ _ z, updL_n _ _ z]; exact st j (by omega)
  exact to_c (fun c => fin b12 (hq c)) (fun c => by rw [hq1 c] at fin ⊢; exact fin 1 QE_01)
theorem w366 {h : Nat} (hh : h + 2 ≤ 100) {b10 b12 : Int64} {q : Int32} (hw : W0 h w x) (hb : bo q) (hq : q = 0 → QE b10 b12) : TO (WD1 h w) (f_X10_work_L366 b10 b12 q x) := by
  unfold f_X10_work_L366
  have e8 : gI (sI x 13 q) 8 - (1 : Int32) = nI h := by rw [sIn (by decide), hw.2.1]; exact nI_pred h
  have hw2 : W0 h w (sI x 13 q) := ⟨WF_I (by omega) hw.1, by rw [sIn (by decide)]; exact hw.2.1, by rw [sIe]; exact hb, hw.2.2.2⟩
  refine to_n (fun z => z hb) (to_l ?_)
  rw [e8, sIe]
  refine to_c (fun c => ?_) (fun c => ?_)
  · exact w392 hh hw2 (fun _ => hq c) (fun z => absurd (by rw [sIe]; exact c) z)
  · exact w392 hh hw2 (fun z => absurd (by rw [sIe] at z; exact z) c) (fun _ => rfl)
theorem w303 {h : Nat} (hh : h + 2 ≤ 100) {z : Int} {m : Nat} (hw : W0 h w x) (h1 : -(2 ^ 62) ≤ z) (h2 : z ≤ 2 ^ 62) (hm : 0 < m) (hm2 : m < 2 ^ 63) : TO (WD1 h w) (f_X10_work_L303 (iL z) (lN m) x) := by
  unfold f_X10_work_L303 f_X10_work_L361
  obtain ⟨g, g0, g1, g2, eg⟩ := dvT h1 h2 hm hm2 x
  have gn : ¬ lN g = 0 := fun y => by
    have := (pk_lEQ (b := 0) g2 (by decide)).mp y
    omega
  rw [eg, ob_s]
  refine to_n gn (to_l (to_n gn (to_l ?_)))
  have bad : TO (WD1 h w) (f_X10_work_L366 (iL z / lN g) (lN m / lN g) (1 : Int32) x) := w366 hh hw (Or.inr rfl) (fun y => absurd y nz_1)
  refine to_c (fun _ => to_c (fun _ => bad) (fun c1 => to_c (fun _ => bad) (fun c2 => to_c (fun c3 => ?_) (fun _ => bad)))) (fun _ => bad)
  refine w366 hh hw (Or.inl rfl) (fun _ => ?_)
  have t1 : (1000000000 : Int64).toInt = 1000000000 := by decide
  have t2 : (-1000000000 : Int64).toInt = -1000000000 := by decide
  have q1 : (iL z / lN g).toInt ≤ 1000000000 := by
    rw [← t1]; exact Int64.le_iff_toInt_le.mp (Int64.not_lt.mp (fun y => c1 ((lg_cmp_gt _ _).mpr y)))
  have q2 : -1000000000 ≤ (iL z / lN g).toInt := by
    rw [← t2]; exact Int64.le_iff_toInt_le.mp (Int64.not_lt.mp (fun y => c2 ((lg_cmp_lt _ _).mpr y)))
  have q3 : (lN m / lN g).toInt ≤ 1000000000 := by
    rw [← t1]; exact Int64.le_iff_toInt_le.mp ((lg_cmp_le _ _).mp c3)
  have q4 : 1 ≤ (lN m / lN g).toInt := by
    rw [pk_lDiv hm2 g0 g2, pk_lT (Nat.lt_of_le_of_lt (Nat.div_le_self _ _) hm2)]
    have := (Nat.le_div_iff_mul_le g0 (x := 1) (y := m)).mpr (by omega)
    omega
  exact ⟨⟨q2, q1⟩, q4, q3⟩
theorem mulB {a b : Int} (h1 : -1000000000 ≤ a) (h2 : a ≤ 1000000000) (h3 : -1000000000 ≤ b) (h4 : b ≤ 1000000000) : -1000000000000000000 ≤ a * b ∧ a * b ≤ 1000000000000000000 := by
  have q : (a * b).natAbs ≤ 1000000000 * 1000000000 := by
    rw [Int.natAbs_mul]
    exact Nat.mul_le_mul (by omega) (by omega)
  omega
theorem mulN {a b : Nat} (h1 : 1 ≤ a) (h2 : a ≤ 1000000000) (h3 : 1 ≤ b) (h4 : b ≤ 1000000000) : 0 < a * b ∧ a * b ≤ 1000000000000000000 := ⟨Nat.mul_pos h1 h3, Nat.mul_le_mul h2 h4⟩
theorem wkT {h : Nat} (hh : h + 2 ≤ 100) (a : Int32) (e8 : gI w 8 = nI (h + 2)) (b13 : bo (gI w 13)) (st : ST (h + 2) w) : TO (WD1 h w) (f_X10_work a w) := by
  unfold f_X10_work
  have e1 : nI (h + 2) - (1 : Int32) = nI (h + 1) := nI_pred (h + 1)
  have e2 : nI (h + 2) - (2 : Int32) = nI h := pk_sub (a := h + 2) (b := 2) (by omega)
  rw [e8, e1, e2, nI_clamp (show h < 2 ^ 31 by omega), nI_clamp (show h + 1 < 2 ^ 31 by omega)]
  obtain ⟨z1, m2, t1, t2, z1a, z1b, m2a, m2b⟩ := QE_o (st h (by omega))
  obtain ⟨z3, m4, t3, t4, z3a, z3b, m4a, m4b⟩ := QE_o (st (h + 1) (by omega))
  rw [t1, t2, t3, t4]
  refine to_i (by decide) ⟨h, by omega, rfl⟩ (to_l (to_i (by decide) ⟨h, by omega, rfl⟩ (to_l (to_i (by decide) ⟨h + 1, by omega, rfl⟩ (to_l (to_i (by decide) ⟨h + 1, by omega, rfl⟩ (to_l (to_l ?_))))))))
  have hw : W0 h w (sI w 8 (nI (h + 1))) := ⟨WF_I (by omega) (WF_r w), sIe, by rw [sIn (by decide)]; exact b13, fun j hj => st j (by omega)⟩
  have A : ∀ y : SS, W0 h w y → TO (WD1 h w) (f_X10_work_L303 (iL z1) (lN m2) y) := fun y hy => w303 hh hy (by omega) (by omega) (by omega) (by omega)
  have B : ∀ y : SS, W0 h w y → TO (WD1 h w) (f_X10_work_L303 (iL z3) (lN m4) y) := fun y hy => w303 hh hy (by omega) (by omega) (by omega) (by omega)
  have L79 : TO (WD1 h w) (f_X10_work_L79 a (iL z1) (lN m2) (iL z3) (lN m4) (sI w 8 (nI (h + 1)))) := by
    unfold f_X10_work_L79 f_X10_work_L124 f_X10_work_L137 f_X10_work_L151
    have L0 : TO (WD1 h w) (if (0 : Int32) = 0 then (if (0 : Int32) = 0 then f_X10_work_L303 (iL z3) (lN m4) (sI w 8 (nI (h + 1))) else f_X10_work_L303 (iL z3) (lN m2) (sI w 8 (nI (h + 1)))) else (if (0 : Int32) = 0 then f_X10_work_L303 (iL z1) (lN m4) (sI w 8 (nI (h + 1))) else f_X10_work_L303 (iL z1) (lN m2) (sI w 8 (nI (h + 1))))) := by
      rw [if_pos rfl, if_pos rfl]; exact B _ hw
    have L1 : TO (WD1 h w) (if (1 : Int32) = 0 then (if (1 : Int32) = 0 then f_X10_work_L303 (iL z3) (lN m4) (sI w 8 (nI (h + 1))) else f_X10_work_L303 (iL z3) (lN m2) (sI w 8 (nI (h + 1)))) else (if (1 : Int32) = 0 then f_X10_work_L303 (iL z1) (lN m4) (sI w 8 (nI (h + 1))) else f_X10_work_L303 (iL z1) (lN m2) (sI w 8 (nI (h + 1))))) := by
      rw [if_neg nz_1, if_neg nz_1]; exact A _ hw
    exact to_c (fun _ => to_c (fun _ => L0) (fun _ => L1)) (fun _ => to_c (fun _ => L0) (fun _ => L1))
  refine to_c (fun _ => L79) (fun _ => to_c (fun _ => L79) (fun _ => to_c (fun _ => ?_) (fun _ => to_c (fun _ => ?_) (fun _ => ?_))))
  · rw [iL_m, lN_mul]
    have q := mulB z1a z1b z3a z3b
    have p := mulN m2a m2b m4a m4b
    exact to_l (to_l (w303 hh hw (by omega) (by omega) p.1 (by omega)))
  · have D : ∀ q : Int32, bo q → TO (WD1 h w) (f_X10_work_L204 (iL z1) (lN m2) (iL z3) (lN m4) q (sI w 8 (nI (h + 1)))) := by
      intro q hb
      unfold f_X10_work_L204
      have hw2 : W0 h w (sI (sI w 8 (nI (h + 1))) 13 q) := ⟨WF_I (by omega) hw.1, by rw [sIn (by decide)]; exact hw.2.1, by rw [sIe]; exact hb, hw.2.2.2⟩
      refine to_n (fun z => z hb) (to_l ?_)
      have D2 : ∀ z : Int, -1000000000000000000 ≤ z → z ≤ 1000000000000000000 → TO (WD1 h w) (f_X10_work_L226 (lN m2) (iL z3) (iL z) (sI (sI w 8 (nI (h + 1))) 13 q)) := by
        intro z za zb
        unfold f_X10_work_L226 f_X10_work_L260
        have t0 : (0 : Int64).toInt = 0 := by decide
        refine to_c (fun _ => w303 (m := 1) hh hw2 (by omega) (by omega) (by omega) (by omega)) (fun c0 => ?_)
        have n0 : z3 ≠ 0 := fun y => c0 ((lg_cmp_eq _ _).mpr (by rw [y]; rfl))
        refine to_c (fun c => ?_) (fun c => ?_)
        · have p0 : 0 ≤ z3 := by
            have q := Int64.le_iff_toInt_le.mp ((lg_cmp_ge _ _).mp c)
            rw [iL_t (by omega) (by omega), t0] at q; exact q
          obtain ⟨b, rfl⟩ := Int.eq_ofNat_of_zero_le p0
          rw [iL_n, lN_mul]
          have p := mulN m2a m2b (show 1 ≤ b by omega) (show b ≤ 1000000000 by omega)
          exact w303 hh hw2 (by omega) (by omega) p.1 (by omega)
        · have p0 : z3 < 0 := by
            by_cases q : z3 < 0
            · exact q
            · have q : 0 ≤ z3 := by omega
              exact absurd ((lg_cmp_ge _ _).mpr (Int64.le_iff_toInt_le.mpr (by rw [iL_t (by omega) (by omega), t0]; exact q))) c
          obtain ⟨b, hb⟩ := Int.eq_ofNat_of_zero_le (show 0 ≤ -z3 by omega)
          have e : -(lN m2) * iL z3 = lN (m2 * b) := by
            rw [← iL_n, iL_g, iL_m, ← iL_n, Int.neg_mul, ← Int.mul_neg, hb, Int.natCast_mul]
          rw [e]
          have p := mulN m2a m2b (show 1 ≤ b by omega) (show b ≤ 1000000000 by omega)
          exact w303 hh hw2 (by omega) (by omega) p.1 (by omega)
      refine to_c (fun _ => ?_) (fun _ => ?_)
      · rw [← iL_n m4, iL_m]
        have q := mulB z1a z1b (show -1000000000 ≤ (m4 : Int) by omega) (show (m4 : Int) ≤ 1000000000 by omega)
        exact D2 _ q.1 q.2
      · rw [← iL_n m4, iL_g, iL_m]
        have q := mulB (show -1000000000 ≤ -z1 by omega) (show -z1 ≤ 1000000000 by omega) (show -1000000000 ≤ (m4 : Int) by omega) (show (m4 : Int) ≤ 1000000000 by omega)
        exact D2 _ q.1 q.2
    unfold f_X10_work_L199
    exact to_c (fun _ => to_c (fun _ => D _ (Or.inr rfl)) (fun _ => D _ (Or.inl rfl))) (fun _ => D _ (Or.inr rfl))
  · have p := mulN m2a m2b m4a m4b
    have q1 := mulB z1a z1b (show -1000000000 ≤ (m4 : Int) by omega) (show (m4 : Int) ≤ 1000000000 by omega)
    have q2 := mulB z3a z3b (show -1000000000 ≤ (m2 : Int) by omega) (show (m2 : Int) ≤ 1000000000 by omega)
    unfold f_X10_work_L294
    rw [lN_mul, ← iL_n m2, ← iL_n m4, iL_m, iL_m, iL_a, iL_s]
    exact to_c (fun _ => to_l (w303 hh hw (by omega) (by omega) p.1 (by omega))) (fun _ => to_l (w303 hh hw (by omega) (by omega) p.1 (by omega)))
end ST21
