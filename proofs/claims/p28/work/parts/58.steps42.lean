section ST42
variable {k n : Nat} {u v v2 w x y : SS}
/-! the names of the class -/
theorem prN_f {c : Nat} (f : FW u w) : prN w c = prN u c := by
  unfold prN p0N ctN isN
  rw [f.2 6 (by decide) (by decide) (by decide) (by decide), f.2 1 (by decide) (by decide) (by decide) (by decide), f.2 8 (by decide) (by decide) (by decide) (by decide), f.2 9 (by decide) (by decide) (by decide) (by decide), f.2 2 (by decide) (by decide) (by decide) (by decide), f.2 7 (by decide) (by decide) (by decide) (by decide)]
theorem rcmp {s c s2 c2 : Nat} (hc : 1 ≤ c) (hc2 : 1 ≤ c2) : (s / Nat.gcd c s) * (c2 / Nat.gcd c2 s2) ≤ (s2 / Nat.gcd c2 s2) * (c / Nat.gcd c s) ↔ s * c2 ≤ s2 * c := by
  have g0 : 0 < Nat.gcd c s := Nat.gcd_pos_of_pos_left _ hc
  have g2 : 0 < Nat.gcd c2 s2 := Nat.gcd_pos_of_pos_left _ hc2
  have e1 : Nat.gcd c s * (s / Nat.gcd c s) = s := Nat.mul_div_cancel' (Nat.gcd_dvd_right c s)
  have e2 : Nat.gcd c s * (c / Nat.gcd c s) = c := Nat.mul_div_cancel' (Nat.gcd_dvd_left c s)
  have e3 : Nat.gcd c2 s2 * (s2 / Nat.gcd c2 s2) = s2 := Nat.mul_div_cancel' (Nat.gcd_dvd_right c2 s2)
  have e4 : Nat.gcd c2 s2 * (c2 / Nat.gcd c2 s2) = c2 := Nat.mul_div_cancel' (Nat.gcd_dvd_left c2 s2)
  revert e1 e2 e3 e4 g0 g2
  generalize Nat.gcd c s = g
  generalize Nat.gcd c2 s2 = h
  generalize s / g = q
  generalize c / g = d
  generalize s2 / h = r
  generalize c2 / h = t
  intro g0 g2 e1 e2 e3 e4
  rw [← e1, ← e2, ← e3, ← e4]
  have a1 : g * q * (h * t) = g * h * (q * t) := by
    rw [Nat.mul_assoc, Nat.mul_assoc, ← Nat.mul_assoc q h t, Nat.mul_comm q h, Nat.mul_assoc h q t]
  have a2 : h * r * (g * d) = g * h * (r * d) := by
    rw [Nat.mul_comm g h, Nat.mul_assoc, Nat.mul_assoc, ← Nat.mul_assoc r g d, Nat.mul_comm r g, Nat.mul_assoc g r d]
  rw [a1, a2]
  exact (Nat.mul_le_mul_left_iff (Nat.mul_pos g0 g2)).symm
/-- prices laid out for those in -/
def PRA (u : SS) (l : Nat) (a : Int32) (m : Nat) (w : SS) : Prop := ∀ b : Nat, b < m → INC u l a b → gA w 17 b = nI (prN u (b * 6 + l))
/-- what is summed up -/
def SV (u0 : SS) (l : Nat) (a : Int32) (y : SS) : Prop := 1 ≤ (gv u0 l a 8).2.2.2.1 → gJ y 0 = lN (gv u0 l a 8).1 ∧ gJ y 1 = lN (gv u0 l a 8).2.1 ∧ gJ y 2 = lN ((gv u0 l a 8).2.2.1 / Nat.gcd (gv u0 l a 8).2.2.2.1 (gv u0 l a 8).2.2.1) ∧ gJ y 3 = lN ((gv u0 l a 8).2.2.2.1 / Nat.gcd (gv u0 l a 8).2.2.2.1 (gv u0 l a 8).2.2.1) ∧ gJ y 4 = lN ((gv u0 l a 8).2.2.2.2.1 / Nat.gcd (gv u0 l a 8).2.2.2.2.2 (gv u0 l a 8).2.2.2.2.1) ∧ gJ y 5 = lN ((gv u0 l a 8).2.2.2.2.2 / Nat.gcd (gv u0 l a 8).2.2.2.2.2 (gv u0 l a 8).2.2.2.2.1) ∧ gI y 12 = nI (gv u0 l a 8).2.2.2.1
theorem suV (h : RT k u v) {l : Nat} (hl : l < 6) (a : Int32) (hin : INA u l a 8 w) (hp : PRA u l a 8 w) (hq : QLT u l a 8 w) : TO (fun y => SU w y ∧ SV u l a y) (f_X7_sumUp w) := by
  unfold f_X7_sumUp
  refine to_l (to_l (to_l (to_l (to_l ?_))))
  have r01 : (0 : Nat) / Nat.gcd 1 0 = 0 := Nat.zero_div _
  have r11 : (1 : Nat) / Nat.gcd 1 0 = 1 := by rw [Nat.gcd_zero_right]
  refine loopR (fun F (x : Int64 × Int32 × SS) => f_X7_sumUp_L31 F x.1 x.2.1 x.2.2) (fun i x => x.2.1 = nI i ∧ SU w x.2.2 ∧ x.1 = lN (gv u l a i).2.2.1 ∧ gJ x.2.2 0 = lN (if (gv u l a i).2.2.2.1 = 0 then 9223372036854775807 else (gv u l a i).1) ∧ gJ x.2.2 1 = lN (gv u l a i).2.1 ∧ gJ x.2.2 4 = lN ((gv u l a i).2.2.2.2.1 / Nat.gcd (gv u l a i).2.2.2.2.2 (gv u l a i).2.2.2.2.1) ∧ gJ x.2.2 5 = lN ((gv u l a i).2.2.2.2.2 / Nat.gcd (gv u l a i).2.2.2.2.2 (gv u l a i).2.2.2.2.1) ∧ gI x.2.2 12 = nI (gv u l a i).2.2.2.1) _ 8 ?_ (F := FU) (x := ((0 : Int64), (0 : Int32), sJ (sJ (sI (sJ (sJ w 0 9223372036854775807) 1 0) 12 0) 4 0) 5 1)) (Nat.lt_trans (by decide) FU_ge) ⟨rfl, SU_J (SU_J (SU_I (SU_J (SU_J ⟨fun _ _ _ => rfl, fun _ => rfl, fun _ => rfl⟩)))), rfl, ?_, ?_, ?_, ?_, ?_⟩
  rotate_left
  · show gJ (sJ (sJ (sI (sJ (sJ w 0 9223372036854775807) 1 0) 12 0) 4 0) 5 1) 0 = lN (if (gv u l a 0).2.2.2.1 = 0 then 9223372036854775807 else (gv u l a 0).1)
    rw [if_pos (show (gv u l a 0).2.2.2.1 = 0 from rfl), sJn (by decide), sJn (by decide), gJ_sI, sJn (by decide), sJe]; rfl
  · show gJ (sJ (sJ (sI (sJ (sJ w 0 9223372036854775807) 1 0) 12 0) 4 0) 5 1) 1 = lN 0
    rw [sJn (by decide), sJn (by decide), gJ_sI, sJe]; rfl
  · show gJ (sJ (sJ (sI (sJ (sJ w 0 9223372036854775807) 1 0) 12 0) 4 0) 5 1) 4 = lN (0 / Nat.gcd 1 0)
    rw [sJn (by decide), sJe, r01]; rfl
  · show gJ (sJ (sJ (sI (sJ (sJ w 0 9223372036854775807) 1 0) 12 0) 4 0) 5 1) 5 = lN (1 / Nat.gcd 1 0)
    rw [sJe, r11]; rfl
  · show gI (sJ (sJ (sI (sJ (sJ w 0 9223372036854775807) 1 0) 12 0) 4 0) 5 1) 12 = nI 0
    rw [gI_sJ, gI_sJ, sIe]; rfl
  intro F x i hi hI hc
  obtain ⟨b1, b3, y⟩ := x
  obtain ⟨e, f, e1, j0, j1, j4, j5, i12⟩ := hI
  have e : b3 = nI i := e
  have e1 : b1 = lN (gv u l a i).2.2.1 := e1
  subst e
  subst e1
  have f : SU w y := f
  have j0 : gJ y 0 = lN (if (gv u l a i).2.2.2.1 = 0 then 9223372036854775807 else (gv u l a i).1) := j0
  have j1 : gJ y 1 = lN (gv u l a i).2.1 := j1
  have j4 : gJ y 4 = lN ((gv u l a i).2.2.2.2.1 / Nat.gcd (gv u l a i).2.2.2.2.2 (gv u l a i).2.2.2.2.1) := j4
  have j5 : gJ y 5 = lN ((gv u l a i).2.2.2.2.2 / Nat.gcd (gv u l a i).2.2.2.2.2 (gv u l a i).2.2.2.2.1) := j5
  have i12 : gI y 12 = nI (gv u l a i).2.2.2.1 := i12
  obtain ⟨l1, l2, l3, l4, l5, l6, l7⟩ := gv_le h hl a i hi
  show TO _ (b_X7_sumUp_L31 (f_X7_sumUp_L31 F) (lN (gv u l a i).2.2.1) (nI i) y)
  unfold b_X7_sumUp_L31 f_X7_sumUp_L148
  by_cases c8 : i = 8
  · subst c8
    rw [if_pos (show (8 : Int32) ≤ nI 8 by decide)]
    by_cases c0 : (gv u l a 8).2.2.2.1 = 0
    · refine to_v (puL _ _ y) (fun z hz => to_l (to_l (to_s ⟨SU_J (SU_J (SU_P f hz.1 hz.2)), fun q => ?_⟩)))
      omega
    have su9 : (gv u l a 8).2.2.1 ≤ 879998400 := mul_b l3 l4 rfl
    have e : (if (1 : Int32) < nI (gv u l a 8).2.2.2.1 then nI (gv u l a 8).2.2.2.1 else (1 : Int32)) = nI (gv u l a 8).2.2.2.1 := by
      by_cases z : (gv u l a 8).2.2.2.1 ≤ 1
      · rw [if_neg (show ¬ (1 : Int32) < nI (gv u l a 8).2.2.2.1 from nI_nlt (a := 1) z (by decide)), show (gv u l a 8).2.2.2.1 = 1 by omega]; rfl
      · rw [if_pos (show (1 : Int32) < nI (gv u l a 8).2.2.2.1 from nI_lt (a := 1) (by omega) (by omega))]
    rw [i12, e, nI_l (by omega)]
    obtain ⟨z, ez, p1, p2, p3, p4, p5, p6⟩ := puE (a := (gv u l a 8).2.2.1) (b := (gv u l a 8).2.2.2.1) (by omega) (by omega) (by omega) y
    rw [ez, ov_s, lt_e, lt_e]
    refine to_s ⟨SU_J (SU_J (SU_P f p1 p6)), fun _ => ⟨?_, ?_, ?_, ?_, ?_, ?_, ?_⟩⟩
    · rw [sJn (by decide), sJn (by decide), p5 0 (by decide) (by decide), j0, if_neg c0]
    · rw [sJn (by decide), sJn (by decide), p5 1 (by decide) (by decide), j1]
    · rw [sJn (by decide), sJe, p3]
    · rw [sJe, sJn (by decide), p4]
    · rw [sJn (by decide), sJn (by decide), p5 4 (by decide) (by decide), j4]
    · rw [sJn (by decide), sJn (by decide), p5 5 (by decide) (by decide), j5]
    · rw [gI_sJ, gI_sJ, p1.1 12 (by decide), i12]
  have hi2 : i < 8 := by omega
  rw [if_neg (show ¬ (8 : Int32) ≤ nI i from nI_ge (b := 8) hi2 (by decide)), oi_nI (by decide) hi2, nI_clamp (show i < 2 ^ 31 by omega), f.2.1 16]
  by_cases ic : INC u l a i
  rotate_left
  · rw [(hin i hi2).2 ic, if_pos rfl, lt_e, nI_1]
    refine hc (lN (gv u l a i).2.2.1, nI (i + 1), y) hi2 ?_
    rw [gv_f ic]
    exact ⟨rfl, f, rfl, j0, j1, j4, j5, i12⟩
  obtain ⟨q0, q1⟩ := hq i hi2
  have p2 := pr_le (BD_of h hi2 hl)
  obtain ⟨s1, s2, s3⟩ := qSC h hi2 hl a
  have ep : (gA w 17 i).toInt64 = lN (prN u (i * 6 + l)) := by rw [hp i hi2 ic, nI_l (by omega)]
  have y17 : gA y 17 = gA w 17 := f.2.1 17
  rw [(hin i hi2).1 ic, if_neg nz_1, oi_nI (by decide) hi2, y17, ep, lt_e, oi_nI (by decide) hi2, gA_sJ, y17, ep, lt_e, oi_nI (by decide) hi2, gA_sJ, gA_sJ, y17, ep, lN_add, lt_e, lt_e, oi_nI (by decide) hi2, oi_nI (by decide) hi2]
  have X9 : (if (gv u l a i).2.2.2.1 = 0 then 9223372036854775807 else (gv u l a i).1) < 2 ^ 63 := by split <;> omega
  have m0 : (if lN (prN u (i * 6 + l)) < gJ y 0 then lN (prN u (i * 6 + l)) else gJ y 0) = lN (if (gv u l a i).2.2.2.1 = 0 ∨ prN u (i * 6 + l) < (gv u l a i).1 then prN u (i * 6 + l) else (gv u l a i).1) := by
    rw [j0]
    by_cases z : (gv u l a i).2.2.2.1 = 0
    · rw [if_pos z, if_pos (Or.inl z), if_pos ((pk_lLT (by omega) (by decide)).mpr (by omega))]
    · rw [if_neg z]
      by_cases z2 : prN u (i * 6 + l) < (gv u l a i).1
      · rw [if_pos ((pk_lLT (by omega) (by omega)).mpr z2), if_pos (Or.inr z2)]
      · rw [if_neg (fun q => z2 ((pk_lLT (by omega) (by omega)).mp q)), if_neg (fun q => q.elim z z2)]
  have m1 : (if lN (prN u (i * 6 + l)) < gJ (sJ y 0 (if lN (prN u (i * 6 + l)) < gJ y 0 then lN (prN u (i * 6 + l)) else gJ y 0)) 1 then gJ (sJ y 0 (if lN (prN u (i * 6 + l)) < gJ y 0 then lN (prN u (i * 6 + l)) else gJ y 0)) 1 else lN (prN u (i * 6 + l))) = lN (if (gv u l a i).2.1 < prN u (i * 6 + l) then prN u (i * 6 + l) else (gv u l a i).2.1) := by
    rw [sJn (by decide), j1]
    by_cases z : prN u (i * 6 + l) < (gv u l a i).2.1
    · rw [if_pos ((pk_lLT (by omega) (by omega)).mpr z), if_neg (by omega)]
    · rw [if_neg (fun q => z ((pk_lLT (by omega) (by omega)).mp q))]
      by_cases z2 : (gv u l a i).2.1 < prN u (i * 6 + l)
      · rw [if_pos z2]
      · rw [if_neg z2, show prN u (i * 6 + l) = (gv u l a i).2.1 by omega]
  rw [m1, m0]
  generalize hz : sI (sJ (sJ y 0 (lN (if (gv u l a i).2.2.2.1 = 0 ∨ prN u (i * 6 + l) < (gv u l a i).1 then prN u (i * 6 + l) else (gv u l a i).1))) 1 (lN (if (gv u l a i).2.1 < prN u (i * 6 + l) then prN u (i * 6 + l) else (gv u l a i).2.1))) 12 (gI (sJ (sJ y 0 (lN (if (gv u l a i).2.2.2.1 = 0 ∨ prN u (i * 6 + l) < (gv u l a i).1 then prN u (i * 6 + l) else (gv u l a i).1))) 1 (lN (if (gv u l a i).2.1 < prN u (i * 6 + l) then prN u (i * 6 + l) else (gv u l a i).2.1))) 12 + (1 : Int32)) = z
  have fz : SU w z := by rw [← hz]; exact SU_I (SU_J (SU_J f))
  have z0 : gJ z 0 = lN (if (gv u l a i).2.2.2.1 = 0 ∨ prN u (i * 6 + l) < (gv u l a i).1 then prN u (i * 6 + l) else (gv u l a i).1) := by
    rw [← hz, gJ_sI, sJn (by decide), sJe]
  have z1 : gJ z 1 = lN (if (gv u l a i).2.1 < prN u (i * 6 + l) then prN u (i * 6 + l) else (gv u l a i).2.1) := by
    rw [← hz, gJ_sI, sJe]
  have z4 : gJ z 4 = gJ y 4 := by rw [← hz, gJ_sI, sJn (by decide), sJn (by decide)]
  have z5 : gJ z 5 = gJ y 5 := by rw [← hz, gJ_sI, sJn (by decide), sJn (by decide)]
  have z12 : gI z 12 = nI ((gv u l a i).2.2.2.1 + 1) := by
    rw [← hz, sIe, gI_sJ, gI_sJ, i12, nI_1]
  have zL0 : gL z 0 i = lN (qS u l a (i * 6 + l) / Nat.gcd (qC u l a (i * 6 + l)) (qS u l a (i * 6 + l))) := by rw [fz.2.2 0]; exact q0
  have zL1 : gL z 1 i = lN (qC u l a (i * 6 + l) / Nat.gcd (qC u l a (i * 6 + l)) (qS u l a (i * 6 + l))) := by rw [fz.2.2 1]; exact q1
  have d1 : qS u l a (i * 6 + l) / Nat.gcd (qC u l a (i * 6 + l)) (qS u l a (i * 6 + l)) ≤ 600 := Nat.le_trans (Nat.div_le_self _ _) s1
  have d2 : qC u l a (i * 6 + l) / Nat.gcd (qC u l a (i * 6 + l)) (qS u l a (i * 6 + l)) ≤ 6 := Nat.le_trans (Nat.div_le_self _ _) s3
  have d3 : (gv u l a i).2.2.2.2.1 / Nat.gcd (gv u l a i).2.2.2.2.2 (gv u l a i).2.2.2.2.1 ≤ 600 := Nat.le_trans (Nat.div_le_self _ _) l5
  have d4 : (gv u l a i).2.2.2.2.2 / Nat.gcd (gv u l a i).2.2.2.2.2 (gv u l a i).2.2.2.2.1 ≤ 6 := Nat.le_trans (Nat.div_le_self _ _) l7
  have b1 := Nat.mul_le_mul d1 d4
  have b2 := Nat.mul_le_mul d3 d2
  rw [zL0, zL1, z4, z5, j4, j5, lN_mul, lN_mul]
  have cmp : lg_cmp (lN (qS u l a (i * 6 + l) / Nat.gcd (qC u l a (i * 6 + l)) (qS u l a (i * 6 + l)) * ((gv u l a i).2.2.2.2.2 / Nat.gcd (gv u l a i).2.2.2.2.2 (gv u l a i).2.2.2.2.1))) (lN ((gv u l a i).2.2.2.2.1 / Nat.gcd (gv u l a i).2.2.2.2.2 (gv u l a i).2.2.2.2.1 * (qC u l a (i * 6 + l) / Nat.gcd (qC u l a (i * 6 + l)) (qS u l a (i * 6 + l))))) ≤ 0 ↔ qS u l a (i * 6 + l) * (gv u l a i).2.2.2.2.2 ≤ (gv u l a i).2.2.2.2.1 * qC u l a (i * 6 + l) := by
    rw [lg_cmp_le]
    exact (pk_lLE (by omega) (by omega)).trans (rcmp s2 l6)
  have fin : ∀ (q : SS) (s d : Nat), SU w q → gJ q 0 = gJ z 0 → gJ q 1 = gJ z 1 → gI q 12 = gI z 12 → gJ q 4 = lN (s / Nat.gcd d s) → gJ q 5 = lN (d / Nat.gcd d s) → (s, d) = (if (gv u l a i).2.2.2.2.1 * qC u l a (i * 6 + l) < qS u l a (i * 6 + l) * (gv u l a i).2.2.2.2.2 then (qS u l a (i * 6 + l), qC u l a (i * 6 + l)) else ((gv u l a i).2.2.2.2.1, (gv u l a i).2.2.2.2.2)) → TO (fun y => SU w y ∧ SV u l a y) (lt (nI i + (1 : Int32)) fun x10 => f_X7_sumUp_L31 F (lN ((gv u l a i).2.2.1 + prN u (i * 6 + l))) x10 q) := by
    intro q s d fq g0 g1 g12 g4 g5 esd
    rw [lt_e, nI_1]
    refine hc (lN ((gv u l a i).2.2.1 + prN u (i * 6 + l)), nI (i + 1), q) hi2 ?_
    rw [gv_t ic, ← esd]
    refine ⟨rfl, fq, rfl, ?_, ?_, g4, g5, ?_⟩
    · show gJ q 0 = lN (if (gv u l a i).2.2.2.1 + 1 = 0 then 9223372036854775807 else (if (gv u l a i).2.2.2.1 = 0 ∨ prN u (i * 6 + l) < (gv u l a i).1 then prN u (i * 6 + l) else (gv u l a i).1))
      rw [if_neg (Nat.succ_ne_zero _), g0, z0]
    · exact g1.trans z1
    · exact g12.trans z12
  by_cases cq : qS u l a (i * 6 + l) * (gv u l a i).2.2.2.2.2 ≤ (gv u l a i).2.2.2.2.1 * qC u l a (i * 6 + l)
  · rw [if_pos (cmp.mpr cq)]
    exact fin z _ _ fz rfl rfl rfl (z4.trans j4) (z5.trans j5) (by rw [if_neg (by omega)])
  · rw [if_neg (fun q => cq (cmp.mp q)), oi_nI (by decide) hi2, lt_e, oi_nI (by decide) hi2, gL_sJ, zL1, lt_e]
    refine fin _ (qS u l a (i * 6 + l)) (qC u l a (i * 6 + l)) (SU_J (SU_J fz)) ?_ ?_ ?_ ?_ ?_ (by rw [if_pos (by omega)])
    · rw [sJn (by decide), sJn (by decide)]
    · rw [sJn (by decide), sJn (by decide)]
    · rw [gI_sJ, gI_sJ]
    · rw [sJn (by decide), sJe]
    · rw [sJe]
/-- a lot laid out -/
def LV (u : SS) (l : Nat) (a : Int32) (y : SS) : Prop := FW u y ∧ INA u l a 8 y ∧ PRA u l a 8 y ∧ QLT u l a 8 y ∧ SV u l a y
theorem la90V (h : RT k u v) {l : Nat} (hl : l < 6) (a : Int32) (f : FW u w) (sl : SLA u l a w) (hin : INA u l a 8 w) (hp : PRA u l a 8 w) : TO (LV u l a) (f_X7_lay_L90 FU (nI l) (0 : Int32) w) := by
  refine loopR (fun F (x : Int32 × SS) => f_X7_lay_L90 F (nI l) x.1 x.2) (fun i x => x.1 = nI i ∧ FW u x.2 ∧ gA x.2 12 = gA w 12 ∧ QLT u l a i x.2 ∧ gA x.2 16 = gA w 16 ∧ gA x.2 17 = gA w 17) _ 8 ?_ (F := FU) (x := ((0 : Int32), w)) (Nat.lt_trans (by decide) FU_ge) ⟨rfl, f, rfl, fun b hb => absurd hb (by omega), rfl, rfl⟩
  intro F x i hi hI hc2
  obtain ⟨b3, y⟩ := x
  obtain ⟨e, f, e12, q, e16, e17⟩ := hI
  have e : b3 = nI i := e
  subst e
  have f : FW u y := f
  have e12 : gA y 12 = gA w 12 := e12
  have e16 : gA y 16 = gA w 16 := e16
  have e17 : gA y 17 = gA w 17 := e17
  have q : QLT u l a i y := q
  show TO _ (b_X7_lay_L90 (f_X7_lay_L90 F) (nI l) (nI i) y)
  unfold b_X7_lay_L90
  by_cases c8 : i = 8
  · subst c8
    rw [if_pos (show (8 : Int32) ≤ nI 8 by decide)]
    have iy : INA u l a 8 y := fun b hb => by rw [e16]; exact hin b hb
    have py : PRA u l a 8 y := fun b hb ib => by rw [e17]; exact hp b hb ib
    refine to_v (suV h hl a iy py q) (fun z hz => to_s ⟨FW_s f hz.1, fun b hb => ?_, fun b hb ib => ?_, fun b hb => ?_, hz.2⟩)
    · rw [hz.1.2.1 16]; exact iy b hb
    · rw [hz.1.2.1 17]; exact py b hb ib
    · rw [hz.1.2.2 0, hz.1.2.2 1]; exact q b hb
  have hi2 : i < 8 := by omega
  rw [if_neg (show ¬ (8 : Int32) ≤ nI i from nI_ge (b := 8) hi2 (by decide)), ceB, ob_s, cellB]
  obtain ⟨z, ez, p, j6, j7, gl⟩ := weE h hi2 hl a f (fun s hs => by rw [e12]; exact sl s hs)
  rw [ez, ov_s, oi_nI (by decide) hi2, lt_e, oi_nI (by decide) hi2, lt_e, lt_e, nI_1, j6]
  have j7b : gJ (tL z 0 (nI i) (lN (qS u l a (i * 6 + l) / Nat.gcd (qC u l a (i * 6 + l)) (qS u l a (i * 6 + l))))) 7 = lN (qC u l a (i * 6 + l) / Nat.gcd (qC u l a (i * 6 + l)) (qS u l a (i * 6 + l))) := j7
  rw [j7b]
  refine hc2 (nI (i + 1), _) hi2 ⟨rfl, FW_L (FW_L (FW_t f (PF_w p))), ?_, fun b hb => ?_, ?_, ?_⟩
  · show gA z 12 = _
    rw [p.2 12]; exact e12
  · show gL (tL (tL z 0 (nI i) _) 1 (nI i) _) 0 b = _ ∧ gL (tL (tL z 0 (nI i) _) 1 (nI i) _) 1 b = _
    rw [tLn (show (0 : Nat) ≠ 1 by decide), tLe, tLe, tLn (show (1 : Nat) ≠ 0 by decide), nI_clamp (by omega), gl 0, gl 1]
    by_cases c : b = i
    · subst c; rw [updL_s, updL_s]; exact ⟨rfl, rfl⟩
    · rw [updL_n _ _ c, updL_n _ _ c]; exact q b (by omega)
  · show gA z 16 = _
    rw [p.2 16]; exact e16
  · show gA z 17 = _
    rw [p.2 17]; exact e17
theorem laV (h : RT k u v) {l : Nat} (hl : l < 6) (a : Int32) : TO (LV u l a) (f_X7_lay (nI l) a u) := by
  refine loopR (fun F (x : Int32 × SS) => f_X7_lay_L3 F (nI l) a x.1 x.2) (fun i x => x.1 = nI i ∧ FW u x.2 ∧ INA u l a i x.2 ∧ PRA u l a i x.2) _ 8 ?_ (F := FU) (x := ((0 : Int32), u)) (Nat.lt_trans (by decide) FU_ge) ⟨rfl, FW_r u, fun b hb => absurd hb (by omega), fun b hb => absurd hb (by omega)⟩
  intro F x i hi hI hc2
  obtain ⟨b3, y⟩ := x
  obtain ⟨e, f, q, pq⟩ := hI
  have e : b3 = nI i := e
  subst e
  have f : FW u y := f
  have q : INA u l a i y := q
  have pq : PRA u l a i y := pq
  show TO _ (b_X7_lay_L3 (f_X7_lay_L3 F) (nI l) a (nI i) y)
  unfold b_X7_lay_L3 f_X7_lay_L44 f_X7_lay_L45 f_X7_lay_L72
  by_cases c8 : i = 8
  · subst c8
    rw [if_pos (show (8 : Int32) ≤ nI 8 by decide)]
    refine to_v (fsE (u := u) (l := l) (a := a) (f.2 11 (by decide) (by decide) (by decide) (by decide)) q) (fun z hz => la90V h hl a (FW_z f hz.1) hz.2 (fun b hb => ?_) (fun b hb ib => ?_))
    · rw [hz.1.2.1 16 (by decide)]; exact q b hb
    · rw [hz.1.2.1 17 (by decide)]; exact pq b hb ib
  have hi2 : i < 8 := by omega
  have r8 : rg 8 (nI i) := ⟨i, hi2, rfl⟩
  have c48 : i * 6 + l < 48 := by omega
  rw [if_neg (show ¬ (8 : Int32) ≤ nI i from nI_ge (b := 8) hi2 (by decide)), ceB, ob_s, cellB]
  have L72 : ∀ (p : Int32) (z : SS), FW u z → INA u l a (i + 1) z → PRA u l a i z → (INC u l a i → p = nI (prN u (i * 6 + l))) → TO (LV u l a) (oi (nI i) 8 (lt (tA z 17 (nI i) p) fun u17 => lt (nI i + (1 : Int32)) fun x18 => f_X7_lay_L3 F (nI l) a x18 u17)) := by
    intro p z hz iz pz hp
    refine to_i (by decide) r8 (to_l ?_)
    rw [lt_e, nI_1]
    refine hc2 (nI (i + 1), _) hi2 ⟨rfl, FW_A (by omega) hz, fun b hb => ?_, fun b hb ib => ?_⟩
    · show (INC u l a b → gA (tA z 17 (nI i) p) 16 b = 1) ∧ (¬ INC u l a b → gA (tA z 17 (nI i) p) 16 b = 0)
      rw [tAn (by decide)]; exact iz b hb
    · show gA (tA z 17 (nI i) p) 17 b = _
      rw [tAe, nI_clamp (by omega)]
      by_cases c : b = i
      · subst c; rw [upd_s]; exact hp ib
      · rw [upd_n _ _ c]; exact pz b (by omega) ib
  have L45 : ∀ p : Int32, bo p → (INC u l a i → p = 1) → (¬ INC u l a i → p = 0) → TO (LV u l a) (oi (nI i) 8 (lt (tZ y 16 (nI i) p) fun u16 => oi (nI (i * 6 + l)) 48 (if (gA u16 3 (nI (i * 6 + l)).toNatClampNeg) = 0 then (oi (nI i) 8 (lt (tA u16 17 (nI i) (0 : Int32)) fun u17 => lt (nI i + (1 : Int32)) fun x18 => f_X7_lay_L3 F (nI l) a x18 u17)) else (ob (f_X1_priceAt (nI (i * 6 + l)) u16) fun r21 u20 => (oi (nI i) 8 (lt (tA u20 17 (nI i) r21) fun u17 => lt (nI i + (1 : Int32)) fun x18 => f_X7_lay_L3 F (nI l) a x18 u17)))))) := by
    intro p hp p1 p0
    have hz2 : FW u (tZ y 16 (nI i) p) := FW_Z (by omega) f
    have iz : INA u l a (i + 1) (tZ y 16 (nI i) p) := by
      intro b hb
      rw [tZe, nI_clamp (by omega), nar_bo hp]
      by_cases z : b = i
      · subst z; rw [upd_s]; exact ⟨p1, p0⟩
      · rw [upd_n _ _ z]; exact q b (by omega)
    have pz : PRA u l a i (tZ y 16 (nI i) p) := fun b hb ib => by rw [tZn (by decide)]; exact pq b hb ib
    refine to_i (by decide) r8 (to_l (to_i (by decide) ⟨_, c48, rfl⟩ (to_c (fun c3 => L72 _ _ hz2 iz pz (fun ib => ?_)) (fun _ => ?_))))
    · exfalso
      rw [nI_clamp (show i * 6 + l < 2 ^ 31 by omega), hz2.2 3 (by decide) (by decide) (by decide) (by decide), ib.2.1] at c3
      exact nz_1 c3
    · rw [prB c48 (BD_c (RT_b h (FW_b hz2)) c48), ob_s]
      exact L72 _ _ hz2 iz pz (fun _ => by rw [prN_f hz2])
  by_cases ca : nI i = a
  · rw [if_pos ca]; exact L45 _ (Or.inl rfl) (fun z => absurd ca z.1) (fun _ => rfl)
  rw [if_neg ca]
  have hy := RT_b h (FW_b f)
  rcases Std_c y (i * 6 + l) with s | s
  · rw [stdB_t c48 s, ob_s, if_neg nz_1]; exact L45 _ (Or.inr rfl) (fun _ => rfl) (fun z => absurd ⟨ca, (Std_f f).mp s⟩ z)
  · have a1 := hy.2.2.2.1 i l hi2 hl
    have b1 := hy.2.2.2.2.1 i l hi2 hl
    rw [stdB_f c48 a1.1.2 b1.1 s, ob_s, if_pos rfl]; exact L45 _ (Or.inl rfl) (fun z => absurd ((Std_f f).mpr z.2) s) (fun _ => rfl)
/-- the names of the class for one who is in -/
theorem LV_HN (h : RT k u v) {b l : Nat} (hb : b < 8) (hl : l < 6) {a : Int32} (hin : INC u l a b) (lv : LV u l a y) : HN (NM u l a b) b y := by
  obtain ⟨f, i8, p8, q8, sv⟩ := lv
  have cn1 := gv_1 hin 8 hb
  obtain ⟨l1, l2, l3, l4, l5, l6, l7⟩ := gv_le h hl a 8 (Nat.le_refl 8)
  obtain ⟨j0, j1, j2, j3, j4, j5, i12⟩ := sv cn1
  have su9 : (gv u l a 8).2.2.1 ≤ 879998400 := mul_b l3 l4 rfl
  have pb := pr_le (BD_of h hb hl)
  obtain ⟨s1, s2, s3⟩ := qSC h hb hl a
  obtain ⟨q0, q1⟩ := q8 b hb
  have one : ∀ s : Nat, s ≤ 1000000000 → fb ((s : Int), 1) := fun s hs => ⟨by show -1000000000 ≤ (s : Int); omega, by show (s : Int) ≤ 1000000000; omega, Nat.le_refl 1, by show 1 ≤ 1000000000; omega⟩
  refine ⟨⟨?_, rfl⟩, ⟨?_, rfl⟩, ⟨?_, rfl⟩, ⟨?_, j3⟩, ⟨?_, q1⟩, ⟨?_, j5⟩, ⟨?_, rfl⟩, fun r hr => ?_⟩
  · rw [p8 b hb hin, nI_l (by omega)]; exact (iL_n _).symm
  · rw [j0]; exact (iL_n _).symm
  · rw [j1]; exact (iL_n _).symm
  · rw [j2]; exact (iL_n _).symm
  · rw [q0]; exact (iL_n _).symm
  · rw [j4]; exact (iL_n _).symm
  · rw [i12, nI_l (by omega)]; exact (iL_n _).symm
  · match r, hr with
    | 0, _ => exact one _ (by omega)
    | 1, _ => exact one _ (by omega)
    | 2, _ => exact one _ (by omega)
    | 3, _ => exact rdN_b (by omega) cn1 (by omega)
    | 4, _ => exact rdN_b (by omega) s2 (by omega)
    | 5, _ => exact rdN_b (by omega) l6 (by omega)
    | 6, _ => exact one _ (by omega)
end ST42
