section ST38
variable {k n : Nat} {u v w x y : SS}
/-! the value of a row of codes: fractions z / m on a stack; nothing once it is broken -/
theorem nix_t {c : Int32} {r : Nat} (hr : r < 7) (h : f_X10_nameOf c w = some (nI r, w)) : nix c = some r := by
  obtain ⟨r2, e1, e2, -⟩ := nm2 c w uM0
  have e : r2 = nI r := (Prod.mk.inj (Option.some.inj (e1.symm.trans h))).1
  unfold nix
  rw [e2, e]
  show (if nI r < 0 then none else some (nn (nI r))) = some r
  rw [if_neg (nI_pos (by omega)), nn_nI (by omega)]
theorem nix_f {c : Int32} (h : f_X10_nameOf c w = some (-1, w)) : nix c = none := by
  obtain ⟨r2, e1, e2, -⟩ := nm2 c w uM0
  have e : r2 = -1 := (Prod.mk.inj (Option.some.inj (e1.symm.trans h))).1
  unfold nix
  rw [e2, e]
  show (if (-1 : Int32) < 0 then none else some (nn (-1))) = none
  rw [if_pos lt_m1]
theorem nix_o {q : Int32} (h : oB q ∨ q = 60 ∨ q = 62) : nix q = none := by
  have c : q.toInt < 97 ∨ 113 < q.toInt := by
    rcases h with (z | z | z | z) | z | z <;> rw [z] <;> decide
  refine nix_f (w := uM0) ?_
  unfold f_X10_nameOf
  rw [if_pos c]
theorem neg_o {q : Int32} (h : oB q ∨ q = 60 ∨ q = 62) : ¬ (0 : Int32) ≤ -q := by
  rcases h with (z | z | z | z) | z | z <;> rw [z] <;> decide
theorem neg_n {c : Int32} {r : Nat} (hr : r < 7) (h : f_X10_nameOf c w = some (nI r, w)) : ¬ (0 : Int32) ≤ -c := by
  by_cases hc : c.toInt < 97 ∨ 113 < c.toInt
  · unfold f_X10_nameOf at h
    rw [if_pos hc] at h
    have e := (Prod.mk.inj (Option.some.inj h)).1
    exact absurd lt_m1 (by rw [e]; exact nI_pos (by omega))
  · have t113 : (113 : Int32).toInt = 113 := by decide
    obtain ⟨m, hm, rfl⟩ := nI_of2 (x := c) (M := (113 : Int32)) (n := 113) (by decide) (fun z => hc (Or.inl (by have := Int32.lt_iff_toInt_lt.mp z; rw [show (0 : Int32).toInt = 0 by decide] at this; omega))) (Int32.le_iff_toInt_le.mpr (by rw [t113]; omega))
    have h97 : 97 ≤ m := by
      rw [nI_toInt (by omega)] at hc; omega
    have d : ∀ m : Nat, m < 114 → 97 ≤ m → ¬ (0 : Int32) ≤ -(nI m) := by decide
    exact d m (by omega) h97
theorem evl_s (N : Nat → Fq) (D : List Int32) (c : Int32) : evl N (D ++ [c]) = ecd N (evl N D) c := by
  unfold evl; rw [List.foldl_append]; rfl
theorem dpl_s (D : List Int32) (c : Int32) : dpl (D ++ [c]) = dpc (dpl D) c := by
  unfold dpl; rw [List.foldl_append]; rfl
theorem red_b {z : Int} {m : Nat} {f : Fq} (hm : 0 < m) (h : red z m = some f) : fb f := by
  unfold red at h
  by_cases c : 1000000000 < (z.tdiv (Nat.gcd m z.natAbs : Int)).natAbs ∨ 1000000000 < m / Nat.gcd m z.natAbs
  · rw [if_pos c] at h; cases h
  · rw [if_neg c] at h
    have e := Option.some.inj h
    subst e
    have g0 : 0 < Nat.gcd m z.natAbs := Nat.gcd_pos_of_pos_left _ hm
    have g1 : Nat.gcd m z.natAbs ≤ m := Nat.gcd_le_left _ hm
    have q : 1 ≤ m / Nat.gcd m z.natAbs := (Nat.le_div_iff_mul_le g0).mpr (by omega)
    refine ⟨?_, ?_, q, by show m / Nat.gcd m z.natAbs ≤ 1000000000; omega⟩
    · show -1000000000 ≤ z.tdiv _; omega
    · show z.tdiv _ ≤ 1000000000; omega
theorem fop_b {q : Int32} {p r f : Fq} (a6 : fb p) (a3 : fb r) (hf : fop q p r = some f) : fb f := by
  have m1 := (mulN a6.2.2.1 a6.2.2.2 a3.2.2.1 a3.2.2.2).1
  have m2 : 0 < p.2 := by have := a6.2.2.1; omega
  have m3 : 0 < r.2 := by have := a3.2.2.1; omega
  unfold fop at hf
  split at hf
  · exact red_b m1 hf
  split at hf
  · exact red_b m1 hf
  split at hf
  · exact red_b m1 hf
  split at hf
  · split at hf
    · cases hf
    · rename_i n0
      have mr : 0 < p.2 * r.1.natAbs := Nat.mul_pos m2 (by omega)
      split at hf
      · exact red_b mr hf
      · exact red_b mr hf
  split at hf
  · split at hf
    · exact red_b m2 hf
    · exact red_b m3 hf
  · split at hf
    · exact red_b m2 hf
    · exact red_b m3 hf
theorem dvZ {z : Int} {m : Nat} (h1 : -(2 ^ 62) ≤ z) (h2 : z ≤ 2 ^ 62) (hm : 0 < m) (hm2 : m < 2 ^ 63) (u : SS) : f_X10_divisor (iL z) (lN m) u = some (lN (Nat.gcd m z.natAbs), u) := by
  have fu : 2 * 63 < FU := Nat.lt_trans (by decide) FU_ge
  unfold f_X10_divisor f_X10_divisor_L12
  have z0 : (0 : Int64).toInt = 0 := by decide
  by_cases c : 0 ≤ lg_cmp (iL z) 0
  · have c2 : 0 ≤ z := by
      have q := Int64.le_iff_toInt_le.mp ((lg_cmp_ge _ _).mp c)
      rw [iL_t (by omega) (by omega), z0] at q; exact q
    obtain ⟨a, rfl⟩ := Int.eq_ofNat_of_zero_le c2
    rw [if_pos c, iL_n, dvN 63 a m FU (by omega) hm2 hm2 fu]
    rfl
  · have c2 : z < 0 := by
      by_cases q : z < 0
      · exact q
      · have q : 0 ≤ z := by omega
        exact absurd ((lg_cmp_ge _ _).mpr (Int64.le_iff_toInt_le.mpr (by rw [iL_t (by omega) (by omega), z0]; exact q))) c
    obtain ⟨a, ha⟩ := Int.eq_ofNat_of_zero_le (show 0 ≤ -z by omega)
    rw [if_neg c, iL_g, ha, iL_n, dvN 63 a m FU (by omega) hm2 hm2 fu]
    have : z.natAbs = a := by omega
    rw [this]
theorem iL_d {z : Int} {g : Nat} (h1 : -(2 ^ 62) ≤ z) (h2 : z ≤ 2 ^ 62) (hg : g < 2 ^ 63) : iL z / lN g = iL (z.tdiv (g : Int)) := by
  rw [← iL_n]
  have a1 : (Int64.minValue).toInt = -9223372036854775808 := by decide
  have a2 : (Int64.maxValue).toInt = 9223372036854775807 := by decide
  exact (Int64.ofInt_tdiv (by rw [a1]; omega) (by rw [a2]; omega) (by rw [a1]; omega) (by rw [a2]; omega)).symm
/-- a result is put at h -/
def ptv (h : Nat) (o : Option Fq) (y : SS) : SS := match o with
  | some f => tL (tL (sI y 13 0) 2 (nI h) (iL f.1)) 3 (nI h) (lN f.2)
  | none => tL (tL (sI y 13 1) 2 (nI h) 0) 3 (nI h) 1
theorem sI_2 (u : SS) (k : Nat) (a b : Int32) : sI (sI u k a) k b = sI u k b := by
  obtain ⟨f, r⟩ := u
  have e : va_up (va_up f k a) k b = va_up f k b := by
    funext j
    show (if j = k then b else (if j = k then a else f j)) = (if j = k then b else f j)
    by_cases c : j = k
    · rw [if_pos c, if_pos c]
    · rw [if_neg c, if_neg c, if_neg c]
  show (va_up (va_up f k a) k b, r) = (va_up f k b, r)
  rw [e]
theorem ptv_13 {h : Nat} {o : Option Fq} {q : Int32} : ptv h o (sI y 13 q) = ptv h o y := by
  cases o with
  | none => show tL (tL (sI (sI y 13 q) 13 1) 2 (nI h) 0) 3 (nI h) 1 = _; rw [sI_2]; rfl
  | some f => show tL (tL (sI (sI y 13 q) 13 0) 2 (nI h) (iL f.1)) 3 (nI h) (lN f.2) = _; rw [sI_2]; rfl
theorem v366 {h : Nat} (hh : h + 2 ≤ 100) (e8 : gI y 8 = nI (h + 1)) (a b : Int64) : f_X10_work_L366 a b 0 y = some (tL (tL (sI y 13 0) 2 (nI h) a) 3 (nI h) b) ∧ f_X10_work_L366 a b 1 y = some (tL (tL (sI y 13 1) 2 (nI h) 0) 3 (nI h) 1) := by
  unfold f_X10_work_L366 f_X10_work_L392
  have e9 : ∀ q : Int32, gI (sI y 13 q) 8 - (1 : Int32) = nI h := fun q => by rw [sIn (by decide), e8]; exact nI_pred h
  constructor
  · rw [if_neg (fun z => z (Or.inl rfl)), lt_e, sIe, if_pos rfl, e9, oi_nI (by decide) (show h < 100 by omega), lt_e, gI_tL, sIe, if_pos rfl, gI_tL, e9, oi_nI (by decide) (show h < 100 by omega), lt_e]
  · rw [if_neg (fun z => z (Or.inr rfl)), lt_e, sIe, if_neg nz_1, e9, oi_nI (by decide) (show h < 100 by omega), lt_e, gI_tL, sIe, if_neg nz_1, gI_tL, e9, oi_nI (by decide) (show h < 100 by omega), lt_e]
theorem v303 {h : Nat} {z : Int} {m : Nat} (hh : h + 2 ≤ 100) (e8 : gI y 8 = nI (h + 1)) (h1 : -(2 ^ 62) ≤ z) (h2 : z ≤ 2 ^ 62) (hm : 0 < m) (hm2 : m < 2 ^ 63) : f_X10_work_L303 (iL z) (lN m) y = some (ptv h (if gI y 13 = 0 then red z m else none) y) := by
  unfold f_X10_work_L303 f_X10_work_L361
  have g0 : 0 < Nat.gcd m z.natAbs := Nat.gcd_pos_of_pos_left _ hm
  have g1 : Nat.gcd m z.natAbs ≤ m := Nat.gcd_le_left _ hm
  have gn : ¬ lN (Nat.gcd m z.natAbs) = 0 := fun y => by
    have := (pk_lEQ (b := 0) (by omega) (by decide)).mp y
    omega
  rw [dvZ h1 h2 hm hm2, ob_s, if_neg gn, lt_e, if_neg gn, lt_e, iL_d h1 h2 (by omega), pk_lDiv hm2 g0 (by omega)]
  have q0 : (z.tdiv (Nat.gcd m z.natAbs : Int)).natAbs ≤ z.natAbs := by
    rw [Int.natAbs_tdiv]; exact Nat.div_le_self _ _
  have q1 : m / Nat.gcd m z.natAbs ≤ m := Nat.div_le_self _ _
  have t1 : (1000000000 : Int64).toInt = 1000000000 := by decide
  have t2 : (-1000000000 : Int64).toInt = -1000000000 := by decide
  have tz : (iL (z.tdiv (Nat.gcd m z.natAbs : Int))).toInt = z.tdiv (Nat.gcd m z.natAbs : Int) := iL_t (by omega) (by omega)
  have tm : (lN (m / Nat.gcd m z.natAbs)).toInt = ((m / Nat.gcd m z.natAbs : Nat) : Int) := pk_lT (by omega)
  have c1 : (0 : Int32) < lg_cmp (iL (z.tdiv (Nat.gcd m z.natAbs : Int))) 1000000000 ↔ 1000000000 < z.tdiv (Nat.gcd m z.natAbs : Int) := by
    rw [lg_cmp_gt, Int64.lt_iff_toInt_lt, t1, tz]
  have c2 : lg_cmp (iL (z.tdiv (Nat.gcd m z.natAbs : Int))) (-1000000000) < 0 ↔ z.tdiv (Nat.gcd m z.natAbs : Int) < -1000000000 := by
    rw [lg_cmp_lt, Int64.lt_iff_toInt_lt, t2, tz]
  have c3 : lg_cmp (lN (m / Nat.gcd m z.natAbs)) 1000000000 ≤ 0 ↔ m / Nat.gcd m z.natAbs ≤ 1000000000 := by
    rw [lg_cmp_le, Int64.le_iff_toInt_le, t1, tm]; omega
  obtain ⟨g, b⟩ := v366 (y := y) hh e8 (iL (z.tdiv (Nat.gcd m z.natAbs : Int))) (lN (m / Nat.gcd m z.natAbs))
  rw [g, b]
  by_cases b13 : gI y 13 = 0
  · rw [if_pos b13, if_pos b13]
    by_cases d1 : 1000000000 < z.tdiv (Nat.gcd m z.natAbs : Int)
    · rw [if_pos (c1.mpr d1)]
      have : red z m = none := if_pos (Or.inl (by omega))
      rw [this]; rfl
    rw [if_neg (fun q => d1 (c1.mp q))]
    by_cases d2 : z.tdiv (Nat.gcd m z.natAbs : Int) < -1000000000
    · rw [if_pos (c2.mpr d2)]
      have : red z m = none := if_pos (Or.inl (by omega))
      rw [this]; rfl
    rw [if_neg (fun q => d2 (c2.mp q))]
    by_cases d3 : m / Nat.gcd m z.natAbs ≤ 1000000000
    · rw [if_pos (c3.mpr d3)]
      have : red z m = some (z.tdiv (Nat.gcd m z.natAbs : Int), m / Nat.gcd m z.natAbs) := if_neg (by omega)
      rw [this]; rfl
    · rw [if_neg (fun q => d3 (c3.mp q))]
      have : red z m = none := if_pos (Or.inr (by omega))
      rw [this]; rfl
  · rw [if_neg b13, if_neg b13]; rfl
/-- a piece of work of the reference, to the letter -/
theorem wkV {h : Nat} {q : Int32} {p r : Fq} (hh : h + 2 ≤ 100) (hq : oB q ∨ q = 60 ∨ q = 62) (e8 : gI w 8 = nI (h + 2)) (b13 : bo (gI w 13)) (hp : fb p) (hr : fb r) (p2 : gL w 2 h = iL p.1) (p3 : gL w 3 h = lN p.2) (r2 : gL w 2 (h + 1) = iL r.1) (r3 : gL w 3 (h + 1) = lN r.2) : f_X10_work q w = some (ptv h (if gI w 13 = 0 then fop q p r else none) (sI w 8 (nI (h + 1)))) := by
  obtain ⟨p1, p4, p5, p6⟩ := hp
  obtain ⟨r1, r4, r5, r6⟩ := hr
  have e1 : nI (h + 2) - (1 : Int32) = nI (h + 1) := nI_pred (h + 1)
  have e2 : nI (h + 2) - (2 : Int32) = nI h := pk_sub (a := h + 2) (b := 2) (by omega)
  unfold f_X10_work
  rw [e8, e1, e2, nI_clamp (show h < 2 ^ 31 by omega), nI_clamp (show h + 1 < 2 ^ 31 by omega), p2, p3, r2, r3, oi_nI (by decide) (show h < 100 by omega), lt_e, oi_nI (by decide) (show h < 100 by omega), lt_e, oi_nI (by decide) (show h + 1 < 100 by omega), lt_e, oi_nI (by decide) (show h + 1 < 100 by omega), lt_e, lt_e]
  have s8 : gI (sI w 8 (nI (h + 1))) 8 = nI (h + 1) := sIe
  have s13 : gI (sI w 8 (nI (h + 1))) 13 = gI w 13 := sIn (by decide)
  have mp := mulB p1 p4 (show -1000000000 ≤ (r.2 : Int) by omega) (show (r.2 : Int) ≤ 1000000000 by omega)
  have mr := mulB r1 r4 (show -1000000000 ≤ (p.2 : Int) by omega) (show (p.2 : Int) ≤ 1000000000 by omega)
  have mm := mulN p5 p6 r5 r6
  have mz := mulB p1 p4 r1 r4
  have V : ∀ (z : Int) (m : Nat), -(2 ^ 62) ≤ z → z ≤ 2 ^ 62 → 0 < m → m < 2 ^ 63 → f_X10_work_L303 (iL z) (lN m) (sI w 8 (nI (h + 1))) = some (ptv h (if gI w 13 = 0 then red z m else none) (sI w 8 (nI (h + 1)))) := by
    intro z m a b c d
    rw [v303 hh s8 a b c d, s13]
  have cmp1 : iL p.1 * lN r.2 = iL (p.1 * r.2) := by rw [← iL_n, iL_m]
  have cmp2 : iL r.1 * lN p.2 = iL (r.1 * p.2) := by rw [← iL_n, iL_m]
  have t1 : (iL (p.1 * r.2)).toInt = p.1 * r.2 := iL_t (by omega) (by omega)
  have t2 : (iL (r.1 * p.2)).toInt = r.1 * p.2 := iL_t (by omega) (by omega)
  have gt : (0 : Int32) < lg_cmp (iL (p.1 * r.2)) (iL (r.1 * p.2)) ↔ r.1 * p.2 < p.1 * r.2 := by
    rw [lg_cmp_gt, Int64.lt_iff_toInt_lt, t1, t2]
  have lt' : lg_cmp (iL (p.1 * r.2)) (iL (r.1 * p.2)) < 0 ↔ p.1 * r.2 < r.1 * p.2 := by
    rw [lg_cmp_lt, Int64.lt_iff_toInt_lt, t1, t2]
  have A := V p.1 p.2 (by omega) (by omega) (by omega) (by omega)
  have B := V r.1 r.2 (by omega) (by omega) (by omega) (by omega)
  rcases hq with (c | c | c | c) | c | c
  · subst c
    rw [if_neg (by decide), if_neg (by decide), if_pos rfl, lt_e, lt_e, iL_m, lN_mul, V _ _ (by omega) (by omega) mm.1 (by omega)]
    rfl
  · subst c
    rw [if_neg (by decide), if_neg (by decide), if_neg (by decide), if_pos rfl, s13]
    have t0 : (0 : Int64).toInt = 0 := by decide
    have tr : (iL r.1).toInt = r.1 := iL_t (by omega) (by omega)
    have z0 : lg_cmp (iL r.1) 0 = 0 ↔ r.1 = 0 := by
      rw [lg_cmp_eq, ← Int64.toInt_inj, tr, t0]
    have zp : (0 : Int32) ≤ lg_cmp (iL r.1) 0 ↔ 0 ≤ r.1 := by
      rw [lg_cmp_ge, Int64.le_iff_toInt_le, tr, t0]
    have D : ∀ o : Int32, bo o → (o = 0 → ¬ r.1 = 0 ∧ gI w 13 = 0) → (¬ o = 0 → r.1 = 0 ∨ ¬ gI w 13 = 0) → f_X10_work_L204 (iL p.1) (lN p.2) (iL r.1) (lN r.2) o (sI w 8 (nI (h + 1))) = some (ptv h (if gI w 13 = 0 then fop 47 p r else none) (sI w 8 (nI (h + 1)))) := by
      intro o ho o0 o1
      unfold f_X10_work_L204 f_X10_work_L226 f_X10_work_L260
      have V2 : ∀ (z : Int) (m : Nat), -(2 ^ 62) ≤ z → z ≤ 2 ^ 62 → 0 < m → m < 2 ^ 63 → f_X10_work_L303 (iL z) (lN m) (sI (sI w 8 (nI (h + 1))) 13 o) = some (ptv h (if o = 0 then red z m else none) (sI w 8 (nI (h + 1)))) := by
        intro z m a b c d
        rw [v303 (y := sI (sI w 8 (nI (h + 1))) 13 o) hh (by rw [sIn (by decide)]; exact s8) a b c d, sIe, ptv_13]
      rw [if_neg (fun z => z ho), lt_e]
      by_cases c0 : r.1 = 0
      · have on : ¬ o = 0 := fun z => (o0 z).1 c0
        have f0 : fop 47 p r = none := by
          unfold fop
          rw [if_neg (by decide), if_neg (by decide), if_neg (by decide), if_pos rfl, if_pos c0]
        have v1 : ∀ z : Int, -(2 ^ 62) ≤ z → z ≤ 2 ^ 62 → f_X10_work_L303 (iL z) (1 : Int64) (sI (sI w 8 (nI (h + 1))) 13 o) = some (ptv h none (sI w 8 (nI (h + 1)))) := by
          intro z a b
          have := V2 z 1 a b (by decide) (by decide)
          rw [if_neg on] at this; exact this
        rw [if_pos (zp.mpr (by omega)), if_pos (z0.mpr c0), cmp1, v1 _ (by omega) (by omega), f0]
        split <;> rfl
      · by_cases c1 : 0 ≤ r.1
        · obtain ⟨b, hb⟩ := Int.eq_ofNat_of_zero_le c1
          have nb : r.1.natAbs = b := by omega
          have p' := mulN p5 p6 (show 1 ≤ b by omega) (show b ≤ 1000000000 by omega)
          have fe : fop 47 p r = red (p.1 * r.2) (p.2 * b) := by
            unfold fop
            rw [if_neg (by decide), if_neg (by decide), if_neg (by decide), if_pos rfl, if_neg c0, if_neg (by omega), nb]
          have eb : lN p.2 * iL r.1 = lN (p.2 * b) := by rw [hb, iL_n, lN_mul]
          rw [if_pos (zp.mpr c1), if_neg (fun z => c0 (z0.mp z)), if_pos (zp.mpr c1), cmp1, eb, V2 _ _ (by omega) (by omega) p'.1 (by omega), fe]
          by_cases q0 : o = 0
          · rw [if_pos q0, if_pos (o0 q0).2]
          · rw [if_neg q0, if_neg ((o1 q0).resolve_left c0)]
        · obtain ⟨b, hb⟩ := Int.eq_ofNat_of_zero_le (show 0 ≤ -r.1 by omega)
          have nb : r.1.natAbs = b := by omega
          have p' := mulN p5 p6 (show 1 ≤ b by omega) (show b ≤ 1000000000 by omega)
          have fe : fop 47 p r = red (-p.1 * r.2) (p.2 * b) := by
            unfold fop
            rw [if_neg (by decide), if_neg (by decide), if_neg (by decide), if_pos rfl, if_neg c0, if_pos (by omega), nb]
          have eb : -(lN p.2) * iL r.1 = lN (p.2 * b) := by
            rw [← iL_n, iL_g, iL_m, ← iL_n, Int.neg_mul, ← Int.mul_neg, hb, Int.natCast_mul]
          have ep : -(iL p.1) * lN r.2 = iL (-p.1 * r.2) := by rw [← iL_n, iL_g, iL_m]
          have mq : -1000000000000000000 ≤ -p.1 * r.2 ∧ -p.1 * r.2 ≤ 1000000000000000000 := mulB (show -1000000000 ≤ -p.1 by omega) (show -p.1 ≤ 1000000000 by omega) (show -1000000000 ≤ (r.2 : Int) by omega) (show (r.2 : Int) ≤ 1000000000 by omega)
          rw [if_neg (fun z => c1 (zp.mp z)), if_neg (fun z => c0 (z0.mp z)), if_neg (fun z => c1 (zp.mp z)), ep, eb, V2 _ _ (by omega) (by omega) p'.1 (by omega), fe]
          by_cases q0 : o = 0
          · rw [if_pos q0, if_pos (o0 q0).2]
          · rw [if_neg q0, if_neg ((o1 q0).resolve_left c0)]
    unfold f_X10_work_L199
    by_cases b0 : gI w 13 = 0
    · rw [if_pos b0]
      by_cases c0 : r.1 = 0
      · rw [if_pos (z0.mpr c0), D 1 (Or.inr rfl) (fun z => absurd z nz_1) (fun _ => Or.inl c0), if_pos b0]
      · rw [if_neg (fun z => c0 (z0.mp z)), D 0 (Or.inl rfl) (fun _ => ⟨c0, b0⟩) (fun z => absurd rfl z), if_pos b0]
    · rw [if_neg b0, D 1 (Or.inr rfl) (fun z => absurd z nz_1) (fun _ => Or.inr b0), if_neg b0]
  · subst c
    unfold f_X10_work_L294
    rw [if_neg (by decide), if_neg (by decide), if_neg (by decide), if_neg (by decide), if_pos rfl, lt_e, cmp1, cmp2, iL_a, lN_mul, V _ _ (by omega) (by omega) mm.1 (by omega)]
    rfl
  · subst c
    unfold f_X10_work_L294
    rw [if_neg (by decide), if_neg (by decide), if_neg (by decide), if_neg (by decide), if_neg (by decide), lt_e, cmp1, cmp2, iL_s, lN_mul, V _ _ (by omega) (by omega) mm.1 (by omega)]
    rfl
  · subst c
    unfold f_X10_work_L79 f_X10_work_L124 f_X10_work_L137 f_X10_work_L151
    have fe : fop 60 p r = (if p.1 * r.2 ≤ r.1 * p.2 then red p.1 p.2 else red r.1 r.2) := by
      unfold fop
      rw [if_neg (by decide), if_neg (by decide), if_neg (by decide), if_neg (by decide), if_pos rfl]
    rw [if_pos rfl, if_pos rfl, cmp1, cmp2, fe]
    by_cases d : p.1 * r.2 ≤ r.1 * p.2
    · rw [if_neg (fun z => by have := gt.mp z; omega), if_neg nz_1, if_neg nz_1, if_pos d, A]
    · rw [if_pos (gt.mpr (by omega)), if_pos rfl, if_pos rfl, if_neg d, B]
  · subst c
    unfold f_X10_work_L79 f_X10_work_L124 f_X10_work_L137 f_X10_work_L151
    have fe : fop 62 p r = (if r.1 * p.2 ≤ p.1 * r.2 then red p.1 p.2 else red r.1 r.2) := by
      unfold fop
      rw [if_neg (by decide), if_neg (by decide), if_neg (by decide), if_neg (by decide), if_neg (by decide)]
    rw [if_neg (by decide), if_pos rfl, if_neg (by decide), cmp1, cmp2, fe]
    by_cases d : r.1 * p.2 ≤ p.1 * r.2
    · rw [if_neg (fun z => by have := lt'.mp z; omega), if_neg nz_1, if_neg nz_1, if_pos d, A]
    · rw [if_pos (lt'.mpr (by omega)), if_pos rfl, if_pos rfl, if_neg d, B]
/-- the reference has worked the codes T with the names N -/
def rwv : List Fq → SS → Prop
  | [], _ => True
  | f :: S, w => gL w 2 S.length = iL f.1 ∧ gL w 3 S.length = lN f.2 ∧ fb f ∧ rwv S w
theorem rwv_e : ∀ {S : List Fq} {w z : SS}, (∀ j, j < S.length → gL z 2 j = gL w 2 j ∧ gL z 3 j = gL w 3 j) → rwv S w → rwv S z
  | [], _, _, _, _ => trivial
  | f :: S, w, z, h, hr => ⟨by rw [(h S.length (by show S.length < S.length + 1; omega)).1]; exact hr.1, by rw [(h S.length (by show S.length < S.length + 1; omega)).2]; exact hr.2.1, hr.2.2.1, rwv_e (fun j hj => h j (by show j < S.length + 1; omega)) hr.2.2.2⟩
theorem okc_a {T : List Int32} {c : Int32} (h : ∀ q ∈ T, okc q) (hc : okc c) : ∀ q ∈ T ++ [c], okc q := by
  intro q hq
  rcases List.mem_append.mp hq with z | z
  · exact h q z
  · rw [List.mem_singleton.mp z]; exact hc
def EVv (N : Nat → Fq) (T : List Int32) (w : SS) : Prop := (∀ j : Nat, j < 7 → gL w 0 j = iL (N j).1 ∧ gL w 1 j = lN (N j).2 ∧ fb (N j)) ∧ (∃ h : Nat, dpl T = some h ∧ gI w 8 = nI h ∧ h ≤ 100) ∧ ((∃ S : List Fq, evl N T = some S ∧ dpl T = some S.length ∧ gI w 13 = 0 ∧ rwv S w) ∨ (evl N T = none ∧ gI w 13 = 1)) ∧ ∀ c ∈ T, okc c
theorem evP {N : Nat → Fq} {T : List Int32} {c : Int32} {f : Fq} {t d : Int64} (hok : okc c) (hd : ∀ h : Nat, dpc (some h) c = some (h + 1)) (he : ∀ S : List Fq, ecd N (some S) c = some (f :: S)) (hf : fb f) (et : t = iL f.1) (em : d = lN f.2) (ev : EVv N T w) (e : f_X10_push t d w = some y) : EVv N (T ++ [c]) y := by
  obtain ⟨nmv, ⟨h, eh, e8, h100⟩, hv, hT⟩ := ev
  unfold f_X10_push at e
  by_cases hl : h < 100
  · rw [e8, oi_nI (by decide) hl, lt_e, gI_tL, e8, oi_nI (by decide) hl, lt_e, gI_tL, gI_tL, e8, nI_1, lt_e, lt_e] at e
    have e := Option.some.inj e
    subst e
    refine ⟨fun j hj => ?_, ⟨h + 1, by rw [dpl_s, eh, hd], ?_, by omega⟩, ?_, okc_a hT hok⟩
    · rw [gL_sI, gL_sI, gL_sI, gL_sI, tLn (by decide), tLn (by decide), tLn (by decide), tLn (by decide)]; exact nmv j hj
    · rw [sIn (by decide), sIe]
    · rcases hv with ⟨S, es, ds, e13, hr⟩ | ⟨es, e13⟩
      · have hS : h = S.length := by rw [eh] at ds; exact Option.some.inj ds
        subst hS
        refine Or.inl ⟨f :: S, by rw [evl_s, es, he], by rw [dpl_s, ds, hd]; rfl, e13, ?_, ?_, hf, rwv_e (fun j hj => ?_) hr⟩
        · rw [gL_sI, gL_sI, tLn (show (2 : Nat) ≠ 3 by decide), tLe, nI_clamp (by omega), updL_s, et]
        · rw [gL_sI, gL_sI, tLe, tLn (show (3 : Nat) ≠ 2 by decide), nI_clamp (by omega), updL_s, em]
        · rw [gL_sI, gL_sI, gL_sI, gL_sI, tLn (show (2 : Nat) ≠ 3 by decide), tLe, tLe, tLn (show (3 : Nat) ≠ 2 by decide), nI_clamp (by omega), updL_n _ _ (by omega), updL_n _ _ (by omega)]; exact ⟨rfl, rfl⟩
      · exact Or.inr ⟨by rw [evl_s, es]; rfl, e13⟩
  · exfalso
    have : h = 100 := by omega
    subst this
    rw [e8] at e
    have : oi (nI 100) 100 (lt (tL w 2 (nI 100) t) fun u1 => oi (gI u1 8) 100 (lt (tL u1 3 (gI u1 8) d) fun u2 => lt (sI u2 8 ((gI u2 8) + (1 : Int32))) fun u3 => lt (sI u3 14 ((gI u3 14) + (1 : Int32))) fun u4 => some u4)) = none := by
      unfold oi
      exact if_pos (by decide)
    rw [this] at e
    cases e
theorem EOK_v (N : Nat → Fq) : EOK (EVv N) := by
  refine ⟨?_, ?_, ?_, ?_⟩
  · intro T w z h8 h13 hL ev
    obtain ⟨nmv, ⟨h, eh, e8, h100⟩, hv, hT⟩ := ev
    refine ⟨fun j hj => by rw [hL 0, hL 1]; exact nmv j hj, ⟨h, eh, by rw [h8]; exact e8, h100⟩, ?_, hT⟩
    rcases hv with ⟨S, es, ds, e13, hr⟩ | ⟨es, e13⟩
    · exact Or.inl ⟨S, es, ds, by rw [h13]; exact e13, rwv_e (fun j _ => by rw [hL 2, hL 3]; exact ⟨rfl, rfl⟩) hr⟩
    · exact Or.inr ⟨es, by rw [h13]; exact e13⟩
  · intro T w y t ht ev e
    have p0 : (0 : Int32) ≤ nI t := nI_pos' (by omega)
    refine evP (f := ((t : Int), 1)) (Or.inl ⟨p0, by rw [nI_toInt (by omega)]; omega⟩) (fun h => ?_) (fun S => ?_) ⟨by show -1000000000 ≤ (t : Int); omega, by show (t : Int) ≤ 1000000000; omega, Nat.le_refl 1, show 1 ≤ 1000000000 by decide⟩ (iL_n t).symm rfl ev e
    · show (if (0 : Int32) ≤ nI t then some (h + 1) else _) = _
      rw [if_pos p0]
    · show (if (0 : Int32) ≤ nI t then some (((nI t).toInt, 1) :: S) else _) = _
      rw [if_pos p0, nI_toInt (by omega)]
  · intro T w y c r hr hc nm ev e
    have nv := ev.1 r hr
    refine evP (f := N r) (Or.inr ⟨neg_n hr hc, Or.inl ⟨r, hr, by rw [Int32.neg_neg]; exact nix_t hr hc⟩⟩) (fun h => ?_) (fun S => ?_) nv.2.2 nv.1 nv.2.1 ev e
    · show (if (0 : Int32) ≤ -c then some (h + 1) else _) = _
      rw [if_neg (neg_n hr hc), Int32.neg_neg, nix_t hr hc]
    · show (if (0 : Int32) ≤ -c then some (((-c).toInt, 1) :: S) else _) = _
      rw [if_neg (neg_n hr hc), Int32.neg_neg, nix_t hr hc]
  · intro T w y q h hq hh e8 b13 st ev e
    obtain ⟨nmv, ⟨h2, eh, e8b, h100⟩, hv, hT⟩ := ev
    have hT2 : ∀ c ∈ T ++ [-q], okc c := okc_a hT (Or.inr ⟨neg_o hq, Or.inr (by rw [Int32.neg_neg]; exact hq)⟩)
    have e2 : h2 = h + 2 := (nI_eq (by omega) (by omega)).mp (e8b.symm.trans e8)
    subst e2
    have dq : dpl (T ++ [-q]) = some (h + 1) := by
      rw [dpl_s, eh]
      show (if (0 : Int32) ≤ -q then some (h + 2 + 1) else _) = _
      rw [if_neg (neg_o hq), Int32.neg_neg, nix_o hq]
    obtain ⟨z1, m2, t1, t2, z1a, z1b, m2a, m2b⟩ := QE_o (st h (by omega))
    obtain ⟨z3, m4, t3, t4, z3a, z3b, m4a, m4b⟩ := QE_o (st (h + 1) (by omega))
    have key : ∀ (p r : Fq), fb p → fb r → gL w 2 h = iL p.1 → gL w 3 h = lN p.2 → gL w 2 (h + 1) = iL r.1 → gL w 3 (h + 1) = lN r.2 → y = ptv h (if gI w 13 = 0 then fop q p r else none) (sI w 8 (nI (h + 1))) := by
      intro p r hp hr a b c d
      have := wkV hh hq e8 b13 hp hr a b c d
      rw [e] at this
      exact Option.some.inj this
    have fr : ∀ o : Option Fq, (∀ j : Nat, gL (ptv h o (sI w 8 (nI (h + 1)))) 0 j = gL w 0 j ∧ gL (ptv h o (sI w 8 (nI (h + 1)))) 1 j = gL w 1 j) ∧ gI (ptv h o (sI w 8 (nI (h + 1)))) 8 = nI (h + 1) ∧ ∀ j : Nat, j < h → gL (ptv h o (sI w 8 (nI (h + 1)))) 2 j = gL w 2 j ∧ gL (ptv h o (sI w 8 (nI (h + 1)))) 3 j = gL w 3 j := by
      intro o
      cases o with
      | none =>
        show (∀ j, gL (tL (tL (sI (sI w 8 (nI (h + 1))) 13 1) 2 (nI h) 0) 3 (nI h) 1) 0 j = _ ∧ gL (tL (tL (sI (sI w 8 (nI (h + 1))) 13 1) 2 (nI h) 0) 3 (nI h) 1) 1 j = _) ∧ gI (tL (tL (sI (sI w 8 (nI (h + 1))) 13 1) 2 (nI h) 0) 3 (nI h) 1) 8 = _ ∧ ∀ j, j < h → gL (tL (tL (sI (sI w 8 (nI (h + 1))) 13 1) 2 (nI h) 0) 3 (nI h) 1) 2 j = _ ∧ gL (tL (tL (sI (sI w 8 (nI (h + 1))) 13 1) 2 (nI h) 0) 3 (nI h) 1) 3 j = _
        refine ⟨fun j => ?_, ?_, fun j hj => ?_⟩
        · rw [tLn (by decide), tLn (by decide), tLn (by decide), tLn (by decide)]; exact ⟨rfl, rfl⟩
        · rw [gI_tL, gI_tL, sIn (by decide), sIe]
        · rw [tLn (show (2 : Nat) ≠ 3 by decide), tLe, tLe, tLn (show (3 : Nat) ≠ 2 by decide), nI_clamp (by omega), updL_n _ _ (by omega), updL_n _ _ (by omega)]; exact ⟨rfl, rfl⟩
      | some f =>
        show (∀ j, gL (tL (tL (sI (sI w 8 (nI (h + 1))) 13 0) 2 (nI h) (iL f.1)) 3 (nI h) (lN f.2)) 0 j = _ ∧ gL (tL (tL (sI (sI w 8 (nI (h + 1))) 13 0) 2 (nI h) (iL f.1)) 3 (nI h) (lN f.2)) 1 j = _) ∧ gI (tL (tL (sI (sI w 8 (nI (h + 1))) 13 0) 2 (nI h) (iL f.1)) 3 (nI h) (lN f.2)) 8 = _ ∧ ∀ j, j < h → gL (tL (tL (sI (sI w 8 (nI (h + 1))) 13 0) 2 (nI h) (iL f.1)) 3 (nI h) (lN f.2)) 2 j = _ ∧ gL (tL (tL (sI (sI w 8 (nI (h + 1))) 13 0) 2 (nI h) (iL f.1)) 3 (nI h) (lN f.2)) 3 j = _
        refine ⟨fun j => ?_, ?_, fun j hj => ?_⟩
        · rw [tLn (by decide), tLn (by decide), tLn (by decide), tLn (by decide)]; exact ⟨rfl, rfl⟩
        · rw [gI_tL, gI_tL, sIn (by decide), sIe]
        · rw [tLn (show (2 : Nat) ≠ 3 by decide), tLe, tLe, tLn (show (3 : Nat) ≠ 2 by decide), nI_clamp (by omega), updL_n _ _ (by omega), updL_n _ _ (by omega)]; exact ⟨rfl, rfl⟩
    rcases hv with ⟨S, es, ds, e13, hr⟩ | ⟨es, e13⟩
    · have hS : S.length = h + 2 := by rw [eh] at ds; exact (Option.some.inj ds).symm
      match S, hS, hr, es, ds with
      | r :: p :: S2, hS, hr, es, ds =>
        have l2 : S2.length = h := by
          have : S2.length + 1 + 1 = h + 2 := hS
          omega
        obtain ⟨a1, a2, a3, a4, a5, a6, a7⟩ := hr
        have a1 : gL w 2 (S2.length + 1) = iL r.1 := a1
        have a2 : gL w 3 (S2.length + 1) = lN r.2 := a2
        rw [l2] at a1 a2 a4 a5
        have ey := key p r a6 a3 a4 a5 a1 a2
        rw [if_pos e13] at ey
        have eE : evl N (T ++ [-q]) = (fop q p r).map (fun f => f :: S2) := by
          rw [evl_s, es]
          show (if (0 : Int32) ≤ -q then _ else _) = _
          rw [if_neg (neg_o hq), Int32.neg_neg, nix_o hq]
        obtain ⟨f0, f8, f2⟩ := fr (fop q p r)
        rw [← ey] at f0 f8 f2
        refine ⟨fun j hj => by rw [(f0 j).1, (f0 j).2]; exact nmv j hj, ⟨h + 1, dq, f8, by omega⟩, ?_, hT2⟩
        cases hf : fop q p r with
        | none =>
          rw [hf] at ey eE
          refine Or.inr ⟨eE, ?_⟩
          rw [ey]
          show gI (tL (tL (sI (sI w 8 (nI (h + 1))) 13 1) 2 (nI h) 0) 3 (nI h) 1) 13 = 1
          rw [gI_tL, gI_tL, sIe]
        | some f =>
          rw [hf] at ey eE
          have bf : fb f := fop_b a6 a3 hf
          refine Or.inl ⟨f :: S2, eE, by rw [dq]; show some (h + 1) = some (S2.length + 1); rw [l2], ?_, ?_, ?_, bf, rwv_e (fun j hj => f2 j (by omega)) a7⟩
          · rw [ey]
            show gI (tL (tL (sI (sI w 8 (nI (h + 1))) 13 0) 2 (nI h) (iL f.1)) 3 (nI h) (lN f.2)) 13 = 0
            rw [gI_tL, gI_tL, sIe]
          · rw [ey, l2]
            show gL (tL (tL (sI (sI w 8 (nI (h + 1))) 13 0) 2 (nI h) (iL f.1)) 3 (nI h) (lN f.2)) 2 h = _
            rw [tLn (show (2 : Nat) ≠ 3 by decide), tLe, nI_clamp (by omega), updL_s]
          · rw [ey, l2]
            show gL (tL (tL (sI (sI w 8 (nI (h + 1))) 13 0) 2 (nI h) (iL f.1)) 3 (nI h) (lN f.2)) 3 h = _
            rw [tLe, nI_clamp (by omega), updL_s]
    · have ey := key (z1, m2) (z3, m4) ⟨z1a, z1b, m2a, m2b⟩ ⟨z3a, z3b, m4a, m4b⟩ t1 t2 t3 t4
      rw [if_neg (by rw [e13]; exact nz_1)] at ey
      obtain ⟨f0, f8, f2⟩ := fr none
      rw [← ey] at f0 f8 f2
      refine ⟨fun j hj => by rw [(f0 j).1, (f0 j).2]; exact nmv j hj, ⟨h + 1, dq, f8, by omega⟩, Or.inr ⟨by rw [evl_s, es]; rfl, ?_⟩, hT2⟩
      rw [ey]
      show gI (tL (tL (sI (sI w 8 (nI (h + 1))) 13 1) 2 (nI h) 0) 3 (nI h) 1) 13 = 1
      rw [gI_tL, gI_tL, sIe]
end ST38
