section ST39
variable {k n : Nat} {u v w x y : SS}
/-! the class works a row of codes: the same value -/
theorem iL_abs {z : Int} (h1 : -(2 ^ 62) ≤ z) (h2 : z ≤ 2 ^ 62) : (if 0 < iL z then iL z else -iL z) = lN z.natAbs := by
  have z0 : (0 : Int64).toInt = 0 := by decide
  have t : (iL z).toInt = z := iL_t (by omega) (by omega)
  by_cases c : 0 < z
  · rw [if_pos (Int64.lt_iff_toInt_lt.mpr (by rw [z0, t]; exact c)), ← iL_n]
    exact congrArg iL (by omega)
  · rw [if_neg (fun q => c (by have := Int64.lt_iff_toInt_lt.mp q; rw [z0, t] at this; exact this)), iL_g, ← iL_n]
    exact congrArg iL (by omega)
theorem gtt {x : Nat} (h : 1000000000 < x) (hx : x < 2 ^ 63) : (0 : Int32) < lg_cmp (lN x) (1000000000 : Int64) := (lg_cmp_gt (lN x) (1000000000 : Int64)).mpr ((pk_lLT (a := 1000000000) (by decide) hx).mpr h)
def pvC (o : Option Fq) (w : SS) : SS := match o with
  | some f => sJ (sJ (sI w 25 0) 6 (iL f.1)) 7 (lN f.2)
  | none => w
theorem pu55V {z : Int} {m : Nat} {b1 b3 s : Int64} (h1 : -(2 ^ 62) ≤ z) (h2 : z ≤ 2 ^ 62) (hm : 0 < m) (hm2 : m < 2 ^ 63) (e1 : s * b1 = iL z) (e3 : s * b3 = lN m) (w : SS) : f_X3_put_L55 b1 b3 (lN (Nat.gcd m z.natAbs)) s w = some (pvC (red z m) w) := by
  have g0 : 0 < Nat.gcd m z.natAbs := Nat.gcd_pos_of_pos_left _ hm
  have g1 : Nat.gcd m z.natAbs ≤ m := Nat.gcd_le_left _ hm
  have gn : ¬ lN (Nat.gcd m z.natAbs) = 0 := fun y => by
    have := (pk_lEQ (b := 0) (by omega) (by decide)).mp y
    omega
  have q0 : (z.tdiv (Nat.gcd m z.natAbs : Int)).natAbs ≤ z.natAbs := by
    rw [Int.natAbs_tdiv]; exact Nat.div_le_self _ _
  have q1 : m / Nat.gcd m z.natAbs ≤ m := Nat.div_le_self _ _
  unfold f_X3_put_L55
  rw [e1, e3, if_neg gn, lt_e, if_neg gn, lt_e, iL_d h1 h2 (by omega), pk_lDiv hm2 g0 (by omega), iL_abs (by omega) (by omega)]
  by_cases c1 : 1000000000 < (z.tdiv (Nat.gcd m z.natAbs : Int)).natAbs
  · have e : red z m = none := if_pos (Or.inl c1)
    rw [if_pos (gtt c1 (by omega)), e]; rfl
  · rw [if_neg (ngt (by omega))]
    by_cases c2 : 1000000000 < m / Nat.gcd m z.natAbs
    · have e : red z m = none := if_pos (Or.inr c2)
      rw [if_pos (gtt c2 (by omega)), e]; rfl
    · have e : red z m = some (z.tdiv (Nat.gcd m z.natAbs : Int), m / Nat.gcd m z.natAbs) := if_neg (fun q => q.elim c1 c2)
      rw [if_neg (ngt (by omega)), e, lt_e, lt_e, lt_e]; rfl
def rdS (z m : Int) : Option Fq := if m = 0 then none else if m < 0 then red (-z) m.natAbs else red z m.natAbs
theorem puV {z m : Int} (h1 : -(2 ^ 62) ≤ z) (h2 : z ≤ 2 ^ 62) (h3 : -(2 ^ 62) ≤ m) (h4 : m ≤ 2 ^ 62) (u : SS) : f_X3_put (iL z) (iL m) u = some (pvC (rdS z m) (sJ (sJ (sI u 25 1) 6 0) 7 1)) := by
  unfold f_X3_put
  have z0 : (0 : Int64).toInt = 0 := by decide
  have tm : (iL m).toInt = m := iL_t (by omega) (by omega)
  rw [lt_e, lt_e, lt_e, iL_abs h1 h2, iL_abs h3 h4]
  have ec : ∀ y : SS, f_X3_commonPart (lN z.natAbs) (lN m.natAbs) y = some (lN (Nat.gcd m.natAbs z.natAbs), y) := fun y => cpN 63 _ _ FU 0 (by omega) (by omega) (by omega) (Nat.lt_trans (by decide) FU_ge) (by decide) y
  rw [ec, ob_s]
  have c0 : lg_cmp (iL m) (0 : Int64) = 0 ↔ m = 0 := by rw [lg_cmp_eq, ← Int64.toInt_inj, tm, z0]
  have cg : (0 : Int32) ≤ lg_cmp (iL m) (0 : Int64) ↔ 0 ≤ m := by rw [lg_cmp_ge, Int64.le_iff_toInt_le, tm, z0]
  unfold rdS
  by_cases c : m = 0
  · rw [if_pos (c0.mpr c), if_pos c]; rfl
  · have g0 : 0 < Nat.gcd m.natAbs z.natAbs := Nat.gcd_pos_of_pos_left _ (by omega)
    have g1 : Nat.gcd m.natAbs z.natAbs ≤ m.natAbs := Nat.gcd_le_left _ (by omega)
    have gn : ¬ lN (Nat.gcd m.natAbs z.natAbs) = 0 := fun y => by
      have := (pk_lEQ (b := 0) (by omega) (by decide)).mp y
      omega
    rw [if_neg (fun q => c (c0.mp q)), if_neg (fun q => gn ((lg_cmp_eq _ _).mp q)), if_neg c]
    by_cases d : 0 ≤ m
    · rw [if_pos (cg.mpr d), if_neg (show ¬ m < 0 by omega)]
      exact pu55V h1 h2 (by omega) (by omega) (by rw [Int64.one_mul]) (by rw [Int64.one_mul, ← iL_n]; exact congrArg iL (by omega)) _
    · rw [if_neg (fun q => d (cg.mp q)), if_pos (show m < 0 by omega)]
      have m1 : (-1 : Int64) = iL (-1) := by decide
      have e := pu55V (z := -z) (m := m.natAbs) (b1 := iL z) (b3 := iL m) (s := -1) (by omega) (by omega) (by omega) (by omega) (by rw [m1, iL_m]; exact congrArg iL (by omega)) (by rw [m1, iL_m, ← iL_n]; exact congrArg iL (by omega)) (sJ (sJ (sI u 25 1) 6 0) 7 1)
      rw [Int.natAbs_neg] at e
      exact e
/-- put into the row at h, the height one less -/
def opC (h : Nat) (o : Option Fq) (w : SS) : SS := match o with
  | some f => sI (tL (tL (sJ (sJ (sI (sJ (sJ (sI w 25 1) 6 0) 7 1) 25 0) 6 (iL f.1)) 7 (lN f.2)) 4 (nI h) (iL f.1)) 5 (nI h) (lN f.2)) 11 (nI (h + 1))
  | none => sI (tL (tL (sJ (sJ (sI w 25 1) 6 0) 7 1) 4 (nI h) 0) 5 (nI h) 1) 11 (nI (h + 1))
theorem op264V {h : Nat} (hh : h < 80) (o : Option Fq) (w : SS) : f_X7_operate_L264 (nI (h + 1)) (nI h) (pvC o (sJ (sJ (sI w 25 1) 6 0) 7 1)) = some (opC h o w) := by
  unfold f_X7_operate_L264
  rw [oi_nI (by decide) hh, lt_e, oi_nI (by decide) hh, lt_e, lt_e, gJ_tL]
  cases o with
  | none => rfl
  | some f => rfl
theorem opP {h : Nat} {z m : Int} (hh : h < 80) (h1 : -(2 ^ 62) ≤ z) (h2 : z ≤ 2 ^ 62) (h3 : -(2 ^ 62) ≤ m) (h4 : m ≤ 2 ^ 62) (w : SS) : (ov (f_X3_put (iL z) (iL m) w) fun y => f_X7_operate_L264 (nI (h + 1)) (nI h) y) = some (opC h (rdS z m) w) := by
  rw [puV h1 h2 h3 h4, ov_s, op264V hh]
theorem rdS_n {z : Int} {m : Nat} (hm : 0 < m) : rdS z (m : Int) = red z m := by
  unfold rdS
  rw [if_neg (by omega), if_neg (by omega), Int.natAbs_natCast]
theorem op231V {h : Nat} {p r : Fq} (hh : h < 80) (hp : fb p) (hr : fb r) (w : SS) : f_X7_operate_L231 (nI (h + 1)) (nI h) (iL p.1) (lN p.2) (iL r.1) (lN r.2) 0 w = some (opC h (red r.1 r.2) w) ∧ f_X7_operate_L231 (nI (h + 1)) (nI h) (iL p.1) (lN p.2) (iL r.1) (lN r.2) 1 w = some (opC h (red p.1 p.2) w) := by
  obtain ⟨p1, p4, p5, p6⟩ := hp
  obtain ⟨r1, r4, r5, r6⟩ := hr
  unfold f_X7_operate_L231 f_X7_operate_L249 f_X7_operate_L261
  refine ⟨?_, ?_⟩
  · rw [if_pos rfl, if_pos rfl, ← iL_n, opP hh (by omega) (by omega) (by omega) (by omega), rdS_n (by omega)]
  · rw [if_neg nz_1, if_neg nz_1, ← iL_n, opP hh (by omega) (by omega) (by omega) (by omega), rdS_n (by omega)]
/-- a piece of work of the class, to the letter -/
theorem opV {h : Nat} {q : Int32} {p r : Fq} (hh : h + 2 ≤ 80) (hq : oB q ∨ q = 60 ∨ q = 62) (e11 : gI w 11 = nI (h + 2)) (hp : fb p) (hr : fb r) (p2 : gL w 4 h = iL p.1) (p3 : gL w 5 h = lN p.2) (r2 : gL w 4 (h + 1) = iL r.1) (r3 : gL w 5 (h + 1) = lN r.2) : f_X7_operate q w = some (opC h (fop q p r) w) := by
  have hp0 := hp
  have hr0 := hr
  obtain ⟨p1, p4, p5, p6⟩ := hp
  obtain ⟨r1, r4, r5, r6⟩ := hr
  have e1 : nI (h + 2) - (1 : Int32) = nI (h + 1) := nI_pred (h + 1)
  have e2 : nI (h + 2) - (2 : Int32) = nI h := pk_sub (a := h + 2) (b := 2) (by omega)
  unfold f_X7_operate
  rw [e11, e1, e2, lt_e, lt_e, if_pos (nI_pos' (by omega)), nI_clamp (show h < 2 ^ 31 by omega), nI_clamp (show h + 1 < 2 ^ 31 by omega), p2, p3, r2, r3, oi_nI (by decide) (show h < 80 by omega), lt_e, oi_nI (by decide) (show h < 80 by omega), lt_e, oi_nI (by decide) (show h + 1 < 80 by omega), lt_e, oi_nI (by decide) (show h + 1 < 80 by omega), lt_e]
  have mp := mulB p1 p4 (show -1000000000 ≤ (r.2 : Int) by omega) (show (r.2 : Int) ≤ 1000000000 by omega)
  have mr := mulB r1 r4 (show -1000000000 ≤ (p.2 : Int) by omega) (show (p.2 : Int) ≤ 1000000000 by omega)
  have mm := mulN p5 p6 r5 r6
  have mz := mulB p1 p4 r1 r4
  have mq := mulB (show -1000000000 ≤ (p.2 : Int) by omega) (show (p.2 : Int) ≤ 1000000000 by omega) r1 r4
  have cmp1 : iL p.1 * lN r.2 = iL (p.1 * r.2) := by rw [← iL_n, iL_m]
  have cmp2 : iL r.1 * lN p.2 = iL (r.1 * p.2) := by rw [← iL_n, iL_m]
  have t1 : (iL (p.1 * r.2)).toInt = p.1 * r.2 := iL_t (by omega) (by omega)
  have t2 : (iL (r.1 * p.2)).toInt = r.1 * p.2 := iL_t (by omega) (by omega)
  have gt : (0 : Int32) < lg_cmp (iL (p.1 * r.2)) (iL (r.1 * p.2)) ↔ r.1 * p.2 < p.1 * r.2 := by
    rw [lg_cmp_gt, Int64.lt_iff_toInt_lt, t1, t2]
  have lt' : lg_cmp (iL (p.1 * r.2)) (iL (r.1 * p.2)) < 0 ↔ p.1 * r.2 < r.1 * p.2 := by
    rw [lg_cmp_lt, Int64.lt_iff_toInt_lt, t1, t2]
  have dm : lN p.2 * lN r.2 = iL ((p.2 * r.2 : Nat) : Int) := by rw [lN_mul, iL_n]
  obtain ⟨o0, o1⟩ := op231V (h := h) (p := p) (r := r) (by omega) hp0 hr0 w
  rcases hq with (c | c | c | c) | c | c
  · subst c
    rw [if_neg (by decide), if_pos rfl, iL_m, dm, opP (by omega) (by omega) (by omega) (by omega) (by omega), rdS_n (by omega)]
    rfl
  · subst c
    have d2 : lN p.2 * iL r.1 = iL ((p.2 : Int) * r.1) := by rw [← iL_n, iL_m]
    have ef : rdS (p.1 * r.2) ((p.2 : Int) * r.1) = fop 47 p r := by
      have na : ((p.2 : Int) * r.1).natAbs = p.2 * r.1.natAbs := by rw [Int.natAbs_mul, Int.natAbs_natCast]
      unfold rdS fop
      rw [if_neg (show ¬ (47 : Int32) = 43 by decide), if_neg (show ¬ (47 : Int32) = 45 by decide), if_neg (show ¬ (47 : Int32) = 42 by decide), if_pos (show (47 : Int32) = 47 from rfl), na]
      by_cases z : r.1 = 0
      · rw [if_pos z, if_pos (by rw [z, Int.mul_zero])]
      · have pp : (0 : Int) < (p.2 : Int) := by omega
        rw [if_neg z, if_neg (fun q => (Int.mul_eq_zero.mp q).elim (fun a => by omega) z)]
        by_cases s : r.1 < 0
        · rw [if_pos s, if_pos (Int.mul_neg_of_pos_of_neg pp s), Int.neg_mul]
        · have := Int.mul_nonneg (Int.le_of_lt pp) (show 0 ≤ r.1 by omega)
          rw [if_neg s, if_neg (by omega)]
    rw [if_neg (by decide), if_neg (by decide), if_neg (by decide), if_neg (by decide), if_neg (by decide), if_neg (by decide), if_pos rfl, cmp1, d2, opP (by omega) (by omega) (by omega) (by omega) (by omega), ef]
  · subst c
    rw [if_neg (by decide), if_neg (by decide), if_pos rfl, cmp1, cmp2, iL_a, dm, opP (by omega) (by omega) (by omega) (by omega) (by omega), rdS_n (by omega)]
    rfl
  · subst c
    rw [if_neg (by decide), if_neg (by decide), if_neg (by decide), if_neg (by decide), if_pos rfl, cmp1, cmp2, iL_s, dm, opP (by omega) (by omega) (by omega) (by omega) (by omega), rdS_n (by omega)]
    rfl
  · subst c
    have fe : fop 60 p r = (if p.1 * r.2 ≤ r.1 * p.2 then red p.1 p.2 else red r.1 r.2) := by
      unfold fop
      rw [if_neg (by decide), if_neg (by decide), if_neg (by decide), if_neg (by decide), if_pos rfl]
    rw [if_pos (by decide), if_pos rfl, cmp1, cmp2, fe]
    by_cases d : p.1 * r.2 ≤ r.1 * p.2
    · rw [if_neg (fun z => by have := gt.mp z; omega), if_pos d, o1]
    · rw [if_pos (gt.mpr (by omega)), if_neg d, o0]
  · subst c
    have fe : fop 62 p r = (if r.1 * p.2 ≤ p.1 * r.2 then red p.1 p.2 else red r.1 r.2) := by
      unfold fop
      rw [if_neg (by decide), if_neg (by decide), if_neg (by decide), if_neg (by decide), if_neg (by decide)]
    rw [if_pos (by decide), if_neg (by decide), cmp1, cmp2, fe]
    by_cases d : r.1 * p.2 ≤ p.1 * r.2
    · rw [if_neg (fun z => by have := lt'.mp z; omega), if_pos d, o1]
    · rw [if_pos (lt'.mpr (by omega)), if_neg d, o0]
theorem nixC {c : Int32} {r : Nat} (h : nix c = some r) : (c = 112 ∧ r = 0) ∨ (c = 108 ∧ r = 1) ∨ (c = 104 ∧ r = 2) ∨ (c = 97 ∧ r = 3) ∨ (c = 113 ∧ r = 4) ∨ (c = 98 ∧ r = 5) ∨ (c = 107 ∧ r = 6) := by
  have e : ∃ q : Int32, f_X10_nameOf c uM0 = some (q, uM0) ∧ ¬ q < 0 ∧ nn q = r := by
    obtain ⟨q, e1, -, -⟩ := nm2 c uM0 uM0
    unfold nix at h
    rw [e1] at h
    have h : (if q < 0 then none else some (nn q)) = some r := h
    by_cases z : q < 0
    · rw [if_pos z] at h; cases h
    · rw [if_neg z] at h; exact ⟨q, e1, z, Option.some.inj h⟩
  obtain ⟨q, e, hq, hr⟩ := e
  unfold f_X10_nameOf at e
  have no : ∀ {P : Prop}, some ((-1 : Int32), uM0) = some (q, uM0) → P := fun z => absurd lt_m1 (by rw [(Prod.mk.inj (Option.some.inj z)).1]; exact hq)
  by_cases c0 : c.toInt < 97 ∨ 113 < c.toInt
  · rw [if_pos c0] at e; exact no e
  rw [if_neg c0] at e
  by_cases c97 : c = 97
  · rw [if_pos c97] at e; exact Or.inr (Or.inr (Or.inr (Or.inl ⟨c97, by rw [← hr, ← (Prod.mk.inj (Option.some.inj e)).1]; decide⟩)))
  rw [if_neg c97] at e
  by_cases c98 : c = 98
  · rw [if_pos c98] at e; exact Or.inr (Or.inr (Or.inr (Or.inr (Or.inr (Or.inl ⟨c98, by rw [← hr, ← (Prod.mk.inj (Option.some.inj e)).1]; decide⟩)))))
  rw [if_neg c98] at e
  by_cases c99 : c = 99
  · rw [if_pos c99] at e; exact no e
  rw [if_neg c99] at e
  by_cases c100 : c = 100
  · rw [if_pos c100] at e; exact no e
  rw [if_neg c100] at e
  by_cases c101 : c = 101
  · rw [if_pos c101] at e; exact no e
  rw [if_neg c101] at e
  by_cases c102 : c = 102
  · rw [if_pos c102] at e; exact no e
  rw [if_neg c102] at e
  by_cases c103 : c = 103
  · rw [if_pos c103] at e; exact no e
  rw [if_neg c103] at e
  by_cases c104 : c = 104
  · rw [if_pos c104] at e; exact Or.inr (Or.inr (Or.inl ⟨c104, by rw [← hr, ← (Prod.mk.inj (Option.some.inj e)).1]; decide⟩))
  rw [if_neg c104] at e
  by_cases c105 : c = 105
  · rw [if_pos c105] at e; exact no e
  rw [if_neg c105] at e
  by_cases c106 : c = 106
  · rw [if_pos c106] at e; exact no e
  rw [if_neg c106] at e
  by_cases c107 : c = 107
  · rw [if_pos c107] at e; exact Or.inr (Or.inr (Or.inr (Or.inr (Or.inr (Or.inr (⟨c107, by rw [← hr, ← (Prod.mk.inj (Option.some.inj e)).1]; decide⟩))))))
  rw [if_neg c107] at e
  by_cases c108 : c = 108
  · rw [if_pos c108] at e; exact Or.inr (Or.inl ⟨c108, by rw [← hr, ← (Prod.mk.inj (Option.some.inj e)).1]; decide⟩)
  rw [if_neg c108] at e
  by_cases c109 : c = 109
  · rw [if_pos c109] at e; exact no e
  rw [if_neg c109] at e
  by_cases c110 : c = 110
  · rw [if_pos c110] at e; exact no e
  rw [if_neg c110] at e
  by_cases c111 : c = 111
  · rw [if_pos c111] at e; exact no e
  rw [if_neg c111] at e
  by_cases c112 : c = 112
  · rw [if_pos c112] at e; exact Or.inl ⟨c112, by rw [← hr, ← (Prod.mk.inj (Option.some.inj e)).1]; decide⟩
  rw [if_neg c112] at e
  by_cases c113 : c = 113
  · rw [if_pos c113] at e; exact Or.inr (Or.inr (Or.inr (Or.inr (Or.inl ⟨c113, by rw [← hr, ← (Prod.mk.inj (Option.some.inj e)).1]; decide⟩))))
  rw [if_neg c113] at e
  cases e
/-- the names of the class for bidder b are N -/
def HN (N : Nat → Fq) (b : Nat) (w : SS) : Prop := ((gA w 17 b).toInt64 = iL (N 0).1 ∧ (N 0).2 = 1) ∧ (gJ w 0 = iL (N 1).1 ∧ (N 1).2 = 1) ∧ (gJ w 1 = iL (N 2).1 ∧ (N 2).2 = 1) ∧ (gJ w 2 = iL (N 3).1 ∧ gJ w 3 = lN (N 3).2) ∧ (gL w 0 b = iL (N 4).1 ∧ gL w 1 b = lN (N 4).2) ∧ (gJ w 4 = iL (N 5).1 ∧ gJ w 5 = lN (N 5).2) ∧ ((gI w 12).toInt64 = iL (N 6).1 ∧ (N 6).2 = 1) ∧ ∀ r : Nat, r < 7 → fb (N r)
theorem pnV {N : Nat → Fq} {b r : Nat} {c : Int32} (hN : HN N b w) (hb : b < 8) (hr : nix c = some r) : f_X7_pushName c (nI b) w = ov (f_X7_push (iL (N r).1) (lN (N r).2) w) fun y => some y := by
  obtain ⟨⟨a1, a2⟩, ⟨b1, b2⟩, ⟨c1, c2⟩, ⟨d1, d2⟩, ⟨e1, e2⟩, ⟨f1, f2⟩, ⟨g1, g2⟩, -⟩ := hN
  have l1 : (1 : Int64) = lN 1 := rfl
  have cl : (nI b).toNatClampNeg = b := nI_clamp (by omega)
  unfold f_X7_pushName
  rcases nixC hr with ⟨q, z⟩ | ⟨q, z⟩ | ⟨q, z⟩ | ⟨q, z⟩ | ⟨q, z⟩ | ⟨q, z⟩ | ⟨q, z⟩
  · subst q; subst z
    rw [if_neg (by decide), if_neg (by decide), if_neg (by decide), if_neg (by decide), if_neg (by decide), if_neg (by decide), if_neg (by decide), if_neg (by decide), if_neg (by decide), if_neg (by decide), if_neg (by decide), if_neg (by decide), if_neg (by decide), if_neg (by decide), if_neg (by decide), if_neg (by decide), if_pos rfl, oi_nI (by decide) hb, cl, a1, a2]
    rfl
  · subst q; subst z
    rw [if_neg (by decide), if_neg (by decide), if_neg (by decide), if_neg (by decide), if_neg (by decide), if_neg (by decide), if_neg (by decide), if_neg (by decide), if_neg (by decide), if_neg (by decide), if_neg (by decide), if_neg (by decide), if_pos rfl, b1, b2]
    rfl
  · subst q; subst z
    rw [if_neg (by decide), if_neg (by decide), if_neg (by decide), if_neg (by decide), if_neg (by decide), if_neg (by decide), if_neg (by decide), if_neg (by decide), if_pos rfl, c1, c2]
    rfl
  · subst q; subst z
    rw [if_neg (by decide), if_pos rfl, d1, d2]
  · subst q; subst z
    rw [if_neg (by decide), if_neg (by decide), if_neg (by decide), if_neg (by decide), if_neg (by decide), if_neg (by decide), if_neg (by decide), if_neg (by decide), if_neg (by decide), if_neg (by decide), if_neg (by decide), if_neg (by decide), if_neg (by decide), if_neg (by decide), if_neg (by decide), if_neg (by decide), if_neg (by decide), if_pos rfl, oi_nI (by decide) hb, oi_nI (by decide) hb, cl, e1, e2]
  · subst q; subst z
    rw [if_neg (by decide), if_neg (by decide), if_pos rfl, f1, f2]
  · subst q; subst z
    rw [if_neg (by decide), if_neg (by decide), if_neg (by decide), if_neg (by decide), if_neg (by decide), if_neg (by decide), if_neg (by decide), if_neg (by decide), if_neg (by decide), if_neg (by decide), if_neg (by decide), if_pos rfl, g1, g2]
    rfl
/-- what working leaves as it is -/
def KC (w y : SS) : Prop := (∀ i : Nat, i ≠ 11 → i ≠ 25 → gI y i = gI w i) ∧ (∀ a : Nat, gA y a = gA w a) ∧ (∀ i : Nat, i ≠ 6 → i ≠ 7 → gJ y i = gJ w i) ∧ ∀ i : Nat, i ≠ 4 → i ≠ 5 → gL y i = gL w i
theorem KC_r (w : SS) : KC w w := ⟨fun _ _ _ => rfl, fun _ => rfl, fun _ _ _ => rfl, fun _ _ _ => rfl⟩
theorem KC_I {i : Nat} {q : Int32} (hi : i = 11 ∨ i = 25) (h : KC w y) : KC w (sI y i q) := ⟨fun j a b => by rw [sIn (by omega)]; exact h.1 j a b, h.2⟩
theorem KC_J {i : Nat} {q : Int64} (hi : i = 6 ∨ i = 7) (h : KC w y) : KC w (sJ y i q) := ⟨h.1, h.2.1, fun j a b => by rw [sJn (by omega)]; exact h.2.2.1 j a b, h.2.2.2⟩
theorem KC_L {i : Nat} {p : Int32} {q : Int64} (hi : i = 4 ∨ i = 5) (h : KC w y) : KC w (tL y i p q) := ⟨h.1, h.2.1, h.2.2.1, fun j a b => by rw [tLn (by omega)]; exact h.2.2.2 j a b⟩
theorem KC_o {h : Nat} {o : Option Fq} (q : KC w y) : KC w (opC h o y) := by
  cases o with
  | none => exact KC_I (Or.inl rfl) (KC_L (Or.inr rfl) (KC_L (Or.inl rfl) (KC_J (Or.inr rfl) (KC_J (Or.inl rfl) (KC_I (Or.inr rfl) q)))))
  | some f => exact KC_I (Or.inl rfl) (KC_L (Or.inr rfl) (KC_L (Or.inl rfl) (KC_J (Or.inr rfl) (KC_J (Or.inl rfl) (KC_I (Or.inr rfl) (KC_J (Or.inr rfl) (KC_J (Or.inl rfl) (KC_I (Or.inr rfl) q))))))))
theorem HN_k {N : Nat → Fq} {b : Nat} (h : KC w y) (hN : HN N b w) : HN N b y := by
  obtain ⟨h1, h2, h3, h4⟩ := h
  unfold HN
  rw [h2 17, h3 0 (by decide) (by decide), h3 1 (by decide) (by decide), h3 2 (by decide) (by decide), h3 3 (by decide) (by decide), h3 4 (by decide) (by decide), h3 5 (by decide) (by decide), h4 0 (by decide) (by decide), h4 1 (by decide) (by decide), h1 12 (by decide) (by decide)]
  exact hN
def rwC : List Fq → SS → Prop
  | [], _ => True
  | f :: S, w => gL w 4 S.length = iL f.1 ∧ gL w 5 S.length = lN f.2 ∧ fb f ∧ rwC S w
theorem rwC_e : ∀ {S : List Fq} {w z : SS}, (∀ j, j < S.length → gL z 4 j = gL w 4 j ∧ gL z 5 j = gL w 5 j) → rwC S w → rwC S z
  | [], _, _, _, _ => trivial
  | f :: S, w, z, h, hr => ⟨by rw [(h S.length (by show S.length < S.length + 1; omega)).1]; exact hr.1, by rw [(h S.length (by show S.length < S.length + 1; omega)).2]; exact hr.2.1, hr.2.2.1, rwC_e (fun j hj => h j (by show j < S.length + 1; omega)) hr.2.2.2⟩
/-- the class has worked the codes T -/
def CV (N : Nat → Fq) (T : List Int32) (w y : SS) : Prop := KC w y ∧ ∃ h : Nat, dpl T = some h ∧ h ≤ T.length ∧ gI y 11 = nI h ∧ ((∃ S : List Fq, evl N T = some S ∧ S.length = h ∧ gI y 25 = 0 ∧ rwC S y) ∨ (evl N T = none ∧ gI y 25 = 1))
theorem dpn : ∀ R : List Int32, R.foldl dpc none = none
  | [] => rfl
  | _ :: R => dpn R
theorem evn (N : Nat → Fq) : ∀ R : List Int32, R.foldl (ecd N) none = none
  | [] => rfl
  | _ :: R => evn N R
theorem evl_n {N : Nat → Fq} {T R : List Int32} (h : evl N T = none) : evl N (T ++ R) = none := by
  unfold evl at h ⊢
  rw [List.foldl_append, h]; exact evn N R
theorem dpl_n {T R : List Int32} {h : Nat} (e : dpl (T ++ R) = some h) : ∃ h2 : Nat, dpl T = some h2 := by
  cases z : dpl T with
  | some q => exact ⟨q, rfl⟩
  | none =>
    unfold dpl at z e
    rw [List.foldl_append, z, dpn] at e
    cases e
theorem getD_m (c : Int32) (R : List Int32) : ∀ T : List Int32, (T ++ c :: R).getD T.length 0 = c
  | [] => rfl
  | _ :: T => getD_m c R T
theorem psV {t d : Int64} {h : Nat} (hh : h < 80) (e11 : gI y 11 = nI h) : f_X7_push t d y = some (sI (tL (tL y 4 (nI h) t) 5 (nI h) d) 11 (nI (h + 1))) := by
  unfold f_X7_push
  rw [e11, if_neg (show ¬ (80 : Int32) ≤ nI h from nI_ge (b := 80) hh (by decide)), oi_nI (by decide) hh, lt_e, gI_tL, e11, oi_nI (by decide) hh, lt_e, gI_tL, gI_tL, e11, nI_1, lt_e]
theorem CVp {N : Nat → Fq} {T : List Int32} {c : Int32} {f : Fq} (hd : ∀ h : Nat, dpc (some h) c = some (h + 1)) (he : ∀ S : List Fq, ecd N (some S) c = some (f :: S)) (hf : fb f) (hT : T.length < 80) (e25 : gI y 25 = 0) (q : CV N T w y) : ∃ z : SS, f_X7_push (iL f.1) (lN f.2) y = some z ∧ CV N (T ++ [c]) w z := by
  obtain ⟨kc, h, eh, hl, e11, hv⟩ := q
  rw [psV (by omega) e11]
  refine ⟨_, rfl, KC_I (Or.inl rfl) (KC_L (Or.inr rfl) (KC_L (Or.inl rfl) kc)), h + 1, by rw [dpl_s, eh, hd], by rw [List.length_append]; show h + 1 ≤ T.length + 1; omega, sIe, ?_⟩
  rcases hv with ⟨S, es, hS, e25, hr⟩ | ⟨-, z⟩
  · subst hS
    refine Or.inl ⟨f :: S, by rw [evl_s, es, he], rfl, ?_, ?_, ?_, hf, rwC_e (fun j hj => ?_) hr⟩
    · rw [sIn (by decide), gI_tL, gI_tL]; exact e25
    · rw [gL_sI, tLn (show (4 : Nat) ≠ 5 by decide), tLe, nI_clamp (by omega), updL_s]
    · rw [gL_sI, tLe, nI_clamp (by omega), updL_s]
    · rw [gL_sI, gL_sI, tLn (show (4 : Nat) ≠ 5 by decide), tLe, tLe, tLn (show (5 : Nat) ≠ 4 by decide), nI_clamp (by omega), updL_n _ _ (by omega), updL_n _ _ (by omega)]; exact ⟨rfl, rfl⟩
  · rw [e25] at z; exact absurd z (by decide)
theorem dpo {T : List Int32} {q : Int32} {h h1 : Nat} (hq : oB q ∨ q = 60 ∨ q = 62) (eh : dpl T = some h) (hd : dpl (T ++ [-q]) = some h1) : ∃ h2 : Nat, h = h2 + 2 ∧ h1 = h2 + 1 := by
  rw [dpl_s, eh] at hd
  match h, hd with
  | 0, hd =>
    have hd : (if (0 : Int32) ≤ -q then some (0 + 1) else _) = some h1 := hd
    rw [if_neg (neg_o hq), Int32.neg_neg, nix_o hq] at hd
    have hd : (none : Option Nat) = some h1 := hd
    cases hd
  | 1, hd =>
    have hd : (if (0 : Int32) ≤ -q then some (1 + 1) else _) = some h1 := hd
    rw [if_neg (neg_o hq), Int32.neg_neg, nix_o hq] at hd
    have hd : (none : Option Nat) = some h1 := hd
    cases hd
  | h2 + 2, hd =>
    have hd : (if (0 : Int32) ≤ -q then some (h2 + 2 + 1) else _) = some h1 := hd
    rw [if_neg (neg_o hq), Int32.neg_neg, nix_o hq] at hd
    have hd : some (h2 + 1) = some h1 := hd
    exact ⟨h2, rfl, (Option.some.inj hd).symm⟩
theorem CVo {N : Nat → Fq} {T : List Int32} {q : Int32} {h1 : Nat} (hq : oB q ∨ q = 60 ∨ q = 62) (hd : dpl (T ++ [-q]) = some h1) (hT : T.length ≤ 80) (e25 : gI y 25 = 0) (g : CV N T w y) : ∃ z : SS, f_X7_operate q y = some z ∧ CV N (T ++ [-q]) w z := by
  obtain ⟨kc, h, eh, hl, e11, hv⟩ := g
  rcases hv with ⟨S, es, hS, -, hr⟩ | ⟨-, z⟩
  · obtain ⟨h2, hh, dq⟩ := dpo hq eh hd
    subst hh
    subst dq
    match S, hS, es, hr with
    | [], hS, _, _ => exact absurd hS (by show ¬ 0 = h2 + 2; omega)
    | [_], hS, _, _ => exact absurd hS (by show ¬ 1 = h2 + 2; omega)
    | r :: p :: S2, hS, es, hr =>
      have l2 : S2.length = h2 := by
        have : S2.length + 1 + 1 = h2 + 2 := hS
        omega
      obtain ⟨a1, a2, a3, a4, a5, a6, a7⟩ := hr
      have a1 : gL y 4 (S2.length + 1) = iL r.1 := a1
      have a2 : gL y 5 (S2.length + 1) = lN r.2 := a2
      rw [l2] at a1 a2 a4 a5
      rw [opV (by omega) hq e11 a6 a3 a4 a5 a1 a2]
      have eE : evl N (T ++ [-q]) = (fop q p r).map (fun f => f :: S2) := by
        rw [evl_s, es]
        show (if (0 : Int32) ≤ -q then _ else _) = _
        rw [if_neg (neg_o hq), Int32.neg_neg, nix_o hq]
      refine ⟨_, rfl, KC_o kc, h2 + 1, hd, by rw [List.length_append]; show h2 + 1 ≤ T.length + 1; omega, ?_, ?_⟩
      · cases fop q p r with
        | none => exact sIe
        | some f => exact sIe
      · cases hf : fop q p r with
        | none =>
          rw [hf] at eE
          exact Or.inr ⟨eE, rfl⟩
        | some f =>
          rw [hf] at eE
          refine Or.inl ⟨f :: S2, eE, by show S2.length + 1 = h2 + 1; rw [l2], rfl, ?_, ?_, fop_b a6 a3 hf, rwC_e (fun j hj => ?_) a7⟩
          · rw [l2]
            show gL (sI (tL (tL _ 4 (nI h2) (iL f.1)) 5 (nI h2) (lN f.2)) 11 (nI (h2 + 1))) 4 h2 = _
            rw [gL_sI, tLn (show (4 : Nat) ≠ 5 by decide), tLe, nI_clamp (by omega), updL_s]
          · rw [l2]
            show gL (sI (tL (tL _ 4 (nI h2) (iL f.1)) 5 (nI h2) (lN f.2)) 11 (nI (h2 + 1))) 5 h2 = _
            rw [gL_sI, tLe, nI_clamp (by omega), updL_s]
          · show gL (sI (tL (tL _ 4 (nI h2) (iL f.1)) 5 (nI h2) (lN f.2)) 11 (nI (h2 + 1))) 4 j = _ ∧ gL (sI (tL (tL _ 4 (nI h2) (iL f.1)) 5 (nI h2) (lN f.2)) 11 (nI (h2 + 1))) 5 j = _
            rw [gL_sI, gL_sI, tLn (show (4 : Nat) ≠ 5 by decide), tLe, tLe, tLn (show (5 : Nat) ≠ 4 by decide), nI_clamp (by omega), updL_n _ _ (by omega), updL_n _ _ (by omega)]; exact ⟨rfl, rfl⟩
  · rw [e25] at z; exact absurd z (by decide)
/-- what one bidder's work leaves as it is -/
def KD (b : Nat) (w y : SS) : Prop := (∀ i : Nat, i ≠ 11 → i ≠ 25 → gI y i = gI w i) ∧ (∀ a : Nat, a ≠ 18 → gA y a = gA w a) ∧ (∀ j : Nat, j ≠ b → gA y 18 j = gA w 18 j ∧ gL y 2 j = gL w 2 j ∧ gL y 3 j = gL w 3 j) ∧ (∀ i : Nat, i ≠ 6 → i ≠ 7 → gJ y i = gJ w i) ∧ ∀ i : Nat, i ≠ 2 → i ≠ 3 → i ≠ 4 → i ≠ 5 → gL y i = gL w i
def WV (N : Nat → Fq) (D : List Int32) (b : Nat) (w y : SS) : Prop := KD b w y ∧ ((∃ f : Fq, evl N D = some [f] ∧ fb f ∧ gA y 18 b = 0 ∧ gL y 2 b = iL f.1 ∧ gL y 3 b = lN f.2) ∨ (evl N D = none ∧ gA y 18 b = 1))
theorem wo124V {b : Nat} {q : Int32} (hb : b < 8) (hq : bo q) (kc : KC w y) : ∃ z : SS, f_X7_work_L124 (nI b) q (nI b) y = some z ∧ KD b w z ∧ gA z 18 b = q ∧ gL z 2 b = gL y 4 0 ∧ gL z 3 b = gL y 5 0 := by
  unfold f_X7_work_L124
  have z0 : (0 : Int32).toNatClampNeg = 0 := rfl
  have o0 : ∀ {a : Option SS}, oi (0 : Int32) 80 a = a := fun {a} => oi_nI (c := 0) (by decide) (by decide)
  have vq : vp_nar .boolean q = q := by rcases hq with z | z <;> rw [z] <;> decide
  rw [oi_nI (by decide) hb, lt_e, o0, oi_nI (by decide) hb, lt_e, o0, oi_nI (by decide) hb, lt_e, z0]
  obtain ⟨h1, h2, h3, h4⟩ := kc
  refine ⟨_, rfl, ⟨fun i a c => ?_, fun a ha => ?_, fun j hj => ⟨?_, ?_, ?_⟩, fun i a c => ?_, fun i a c d e => ?_⟩, ?_, ?_, ?_⟩
  · rw [gI_tL, gI_tL, gI_tZ]; exact h1 i a c
  · rw [gA_tL, gA_tL, tZn ha]; exact h2 a
  · rw [gA_tL, gA_tL, tZe, nI_clamp (by omega), upd_n _ _ hj, h2 18]
  · rw [tLn (show (2 : Nat) ≠ 3 by decide), tLe, nI_clamp (by omega), updL_n _ _ hj, gL_tZ, h4 2 (by decide) (by decide)]
  · rw [tLe, nI_clamp (by omega), updL_n _ _ hj, tLn (show (3 : Nat) ≠ 2 by decide), gL_tZ, h4 3 (by decide) (by decide)]
  · rw [gJ_tL, gJ_tL, gJ_tZ]; exact h3 i a c
  · rw [tLn c, tLn a, gL_tZ]; exact h4 i d e
  · rw [gA_tL, gA_tL, tZe, nI_clamp (by omega), upd_s, vq]
  · rw [tLn (show (2 : Nat) ≠ 3 by decide), tLe, nI_clamp (by omega), updL_s, gL_tZ]
  · rw [tLe, nI_clamp (by omega), updL_s, tLn (show (5 : Nat) ≠ 2 by decide), gL_tZ]
/-- the class works the codes D for bidder b -/
theorem woV {N : Nat → Fq} {D : List Int32} {b : Nat} (hb : b < 8) (hN : HN N b w) (hD : D.length ≤ 80) (e4 : gI w 4 = nI D.length) (hc : ∀ j : Nat, j < D.length → gA w 13 j = D.getD j 0) (hd : dpl D = some 1) (hk : ∀ c ∈ D, okc c) : TO (WV N D b w) (f_X7_work (nI b) w) := by
  unfold f_X7_work
  refine to_l (to_l ?_)
  refine loopR (fun F (x : Int32 × SS) => f_X7_work_L15 F (nI b) x.1 x.2) (fun i x => x.1 = nI i ∧ ∃ T R : List Int32, D = T ++ R ∧ T.length = i ∧ CV N T w x.2) _ D.length ?_ (F := FU) (x := ((0 : Int32), sI (sI w 11 0) 25 0)) (Nat.lt_trans (show D.length < 1000 by omega) FU_ge) ⟨rfl, [], D, rfl, rfl, KC_I (Or.inr rfl) (KC_I (Or.inl rfl) (KC_r w)), 0, rfl, Nat.le_refl _, by rw [sIn (by decide), sIe]; rfl, Or.inl ⟨[], rfl, rfl, sIe, trivial⟩⟩
  intro F x i hi hI hc2
  obtain ⟨b3, y⟩ := x
  obtain ⟨e, T, R, eD, lT, cv⟩ := hI
  have e : b3 = nI i := e
  have cv : CV N T w y := cv
  subst e
  show TO _ (b_X7_work_L15 (f_X7_work_L15 F) (nI b) (nI i) y)
  unfold b_X7_work_L15 f_X7_work_L90
  have cv0 := cv
  obtain ⟨kc, h, eh, hl, e11, hv⟩ := cv
  have fin : R = [] ∨ ¬ gI y 25 = 0 → TO (WV N D b w) (f_X7_work_L96 (nI b) y) := by
    intro hR
    unfold f_X7_work_L96 f_X7_work_L119
    rcases hv with ⟨S, es, hS, e25, hr⟩ | ⟨es, e25⟩
    · have hR : R = [] := hR.resolve_right (fun z => z e25)
      subst hR
      have eD : D = T := by rw [eD, List.append_nil]
      subst eD
      have h1 : h = 1 := Option.some.inj (eh.symm.trans hd)
      subst h1
      match S, hS, es, hr with
      | [f], _, es, hr =>
        obtain ⟨z, ez, kd, z1, z2, z3⟩ := wo124V (q := 0) hb (Or.inl rfl) kc
        rw [if_pos e25, if_pos (show gI y 11 = (1 : Int32) from e11), ez]
        exact to_s ⟨kd, Or.inl ⟨f, es, hr.2.2.1, z1, by rw [z2]; exact hr.1, by rw [z3]; exact hr.2.1⟩⟩
      | [], hS, _, _ => exact absurd hS (by show ¬ 0 = 1; omega)
      | _ :: _ :: _, hS, _, _ => exact absurd hS (by intro z; have z := Nat.succ.inj z; exact absurd z (Nat.succ_ne_zero _))
    · obtain ⟨z, ez, kd, z1, z2, z3⟩ := wo124V (q := 1) hb (Or.inr rfl) kc
      rw [if_neg (by rw [e25]; exact nz_1), ez]
      exact to_s ⟨kd, Or.inr ⟨by rw [eD]; exact evl_n es, z1⟩⟩
  have e4y : gI y 4 = nI D.length := by rw [kc.1 4 (by decide) (by decide)]; exact e4
  rw [e4y]
  match R, eD, fin with
  | [], eD, fin =>
    have : D.length = i := by rw [eD, List.append_nil, lT]
    rw [if_pos (nI_le (by omega) (by omega))]
    exact fin (Or.inl rfl)
  | c :: R, eD, fin =>
    have hi2 : i < D.length := by
      rw [eD, List.length_append]; show i < T.length + (R.length + 1); omega
    have ec : gA y 13 i = c := by
      rw [kc.2.1 13, hc i hi2, eD, ← lT]; exact getD_m c R T
    rw [if_neg (nI_ge hi2 (by omega)), if_neg (show ¬ (80 : Int32) ≤ nI i from nI_ge (b := 80) (by omega) (by decide))]
    by_cases e25 : gI y 25 = 0
    · rw [if_pos e25, oi_nI (by decide) (show i < 80 by omega), nI_clamp (show i < 2 ^ 31 by omega), ec, lt_e]
      have eD2 : D = (T ++ [c]) ++ R := by rw [eD, List.append_assoc]; rfl
      have st : ∀ z : SS, CV N (T ++ [c]) w z → TO (WV N D b w) (lt (nI i + (1 : Int32)) fun x3 => f_X7_work_L15 F (nI b) x3 z) := by
        intro z hz
        rw [lt_e, nI_1]
        exact hc2 (nI (i + 1), z) hi2 ⟨rfl, T ++ [c], R, eD2, by rw [List.length_append, lT]; rfl, hz⟩
      rcases hk c (by rw [eD]; exact List.mem_append.mpr (Or.inr (List.mem_cons_self ..))) with ⟨c0, cm⟩ | ⟨c0, ⟨r, hr, en⟩ | ho⟩
      · rw [if_neg (Int32.not_lt.mpr c0)]
        have t0 : 0 ≤ c.toInt := by
          have := Int32.le_iff_toInt_le.mp c0
          rw [show (0 : Int32).toInt = 0 by decide] at this; exact this
        obtain ⟨z, ez, hz⟩ := CVp (N := N) (T := T) (c := c) (f := (c.toInt, 1)) (w := w) (y := y) (fun h => if_pos c0) (fun S => if_pos c0) ⟨by show -1000000000 ≤ c.toInt; omega, by show c.toInt ≤ 1000000000; omega, Nat.le_refl 1, show 1 ≤ 1000000000 by decide⟩ (by omega) e25 cv0
        have ti : c.toInt64 = iL c.toInt := by
          obtain ⟨m, hm⟩ := Int.eq_ofNat_of_zero_le t0
          have e : c = nI m := by
            apply Int32.toInt_inj.mp
            rw [nI_toInt (by omega)]; exact hm
          rw [e, nI_l (by omega), nI_toInt (by omega), iL_n]
        rw [ti, show (1 : Int64) = lN ((c.toInt, 1) : Fq).2 from rfl, show iL c.toInt = iL ((c.toInt, 1) : Fq).1 from rfl, ez, ov_s]
        exact st z hz
      · rw [if_pos (Int32.not_le.mp c0)]
        have isn : f_X2_isName (-c) y = some (1, y) := by
          rcases nmE (-c) uM0 y with ⟨q, hq, -, e2, -⟩ | ⟨e1, e2⟩
          · exact e2
          · rw [nix_f e1] at en; cases en
        obtain ⟨z, ez, hz⟩ := CVp (N := N) (T := T) (c := c) (f := N r) (w := w) (y := y) (fun h => by show (if (0 : Int32) ≤ c then some (h + 1) else _) = _; rw [if_neg c0, en]) (fun S => by show (if (0 : Int32) ≤ c then some ((c.toInt, 1) :: S) else _) = _; rw [if_neg c0, en]) (hN.2.2.2.2.2.2.2 r hr) (by omega) e25 cv0
        rw [isn, ob_s, if_neg nz_1, pnV (HN_k kc hN) hb en, ez, ov_s, ov_s]
        exact st z hz
      · rw [if_pos (Int32.not_le.mp c0)]
        have isn : f_X2_isName (-c) y = some (0, y) := by
          rcases nmE (-c) uM0 y with ⟨q, hq, e1, -⟩ | ⟨-, e2⟩
          · have := nix_t hq e1
            rw [nix_o ho] at this; cases this
          · exact e2
        have cc : - -c = c := Int32.neg_neg
        obtain ⟨h1, hd1⟩ := dpl_n (T := T ++ [c]) (R := R) (h := 1) (by rw [← eD2]; exact hd)
        obtain ⟨z, ez, hz⟩ := CVo (N := N) (T := T) (q := -c) (w := w) (y := y) (h1 := h1) ho (by rw [cc]; exact hd1) (by omega) e25 cv0
        rw [cc] at hz
        rw [isn, ob_s, if_pos rfl, ez, ov_s]
        exact st z hz
    · rw [if_neg e25]; exact fin (Or.inr e25)
end ST39
