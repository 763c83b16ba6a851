section ST41
variable {k n : Nat} {u v v2 w x y : SS}
/-! the names of the reference, to the letter -/
/-- least, greatest, sum, how many, the best quality -/
noncomputable def gv (u : SS) (l : Nat) (a : Int32) : Nat → Nat × Nat × Nat × Nat × Nat × Nat
  | 0 => (0, 0, 0, 0, 0, 1)
  | i + 1 => by
      classical
      exact if INC u l a i then ((if (gv u l a i).2.2.2.1 = 0 ∨ prN u (i * 6 + l) < (gv u l a i).1 then prN u (i * 6 + l) else (gv u l a i).1), (if (gv u l a i).2.1 < prN u (i * 6 + l) then prN u (i * 6 + l) else (gv u l a i).2.1), (gv u l a i).2.2.1 + prN u (i * 6 + l), (gv u l a i).2.2.2.1 + 1, (if (gv u l a i).2.2.2.2.1 * qC u l a (i * 6 + l) < qS u l a (i * 6 + l) * (gv u l a i).2.2.2.2.2 then (qS u l a (i * 6 + l), qC u l a (i * 6 + l)) else ((gv u l a i).2.2.2.2.1, (gv u l a i).2.2.2.2.2))) else gv u l a i
theorem gv_t {l i : Nat} {a : Int32} (h : INC u l a i) : gv u l a (i + 1) = ((if (gv u l a i).2.2.2.1 = 0 ∨ prN u (i * 6 + l) < (gv u l a i).1 then prN u (i * 6 + l) else (gv u l a i).1), (if (gv u l a i).2.1 < prN u (i * 6 + l) then prN u (i * 6 + l) else (gv u l a i).2.1), (gv u l a i).2.2.1 + prN u (i * 6 + l), (gv u l a i).2.2.2.1 + 1, (if (gv u l a i).2.2.2.2.1 * qC u l a (i * 6 + l) < qS u l a (i * 6 + l) * (gv u l a i).2.2.2.2.2 then (qS u l a (i * 6 + l), qC u l a (i * 6 + l)) else ((gv u l a i).2.2.2.2.1, (gv u l a i).2.2.2.2.2))) := if_pos h
theorem gv_f {l i : Nat} {a : Int32} (h : ¬ INC u l a i) : gv u l a (i + 1) = gv u l a i := if_neg h
/-- what holds of them: a tuple q after i bidders -/
def GB (i : Nat) (q : Nat × Nat × Nat × Nat × Nat × Nat) : Prop := q.1 ≤ 109999800 ∧ q.2.1 ≤ 109999800 ∧ q.2.2.1 ≤ q.2.2.2.1 * 109999800 ∧ q.2.2.2.1 ≤ i ∧ q.2.2.2.2.1 ≤ 600 ∧ 1 ≤ q.2.2.2.2.2 ∧ q.2.2.2.2.2 ≤ 6
theorem gv_le (h : RT k u v) {l : Nat} (hl : l < 6) (a : Int32) : ∀ i : Nat, i ≤ 8 → GB i (gv u l a i) := by
  intro i
  induction i with
  | zero => intro _; exact ⟨by show 0 ≤ 109999800; omega, by show 0 ≤ 109999800; omega, by show 0 ≤ 0 * 109999800; omega, Nat.le_refl 0, by show 0 ≤ 600; omega, Nat.le_refl 1, by show 1 ≤ 6; omega⟩
  | succ i ih =>
    intro hi
    have g := ih (by omega)
    by_cases c : INC u l a i
    · rw [gv_t c]
      have p := pr_le (BD_of h (b := i) (l := l) (by omega) hl)
      obtain ⟨s1, s2, s3⟩ := qSC h (b := i) (l := l) (by omega) hl a
      revert g p s1 s2 s3
      generalize gv u l a i = q
      generalize prN u (i * 6 + l) = t
      generalize qS u l a (i * 6 + l) = s
      generalize qC u l a (i * 6 + l) = d
      intro g p s1 s2 s3
      obtain ⟨g1, g2, g3, g4, g5, g6, g7⟩ := g
      refine ⟨?_, ?_, ?_, ?_, ?_⟩
      · show (if q.2.2.2.1 = 0 ∨ t < q.1 then t else q.1) ≤ 109999800
        split <;> omega
      · show (if q.2.1 < t then t else q.2.1) ≤ 109999800
        split <;> omega
      · show q.2.2.1 + t ≤ (q.2.2.2.1 + 1) * 109999800
        omega
      · show q.2.2.2.1 + 1 ≤ i + 1
        omega
      · show (if q.2.2.2.2.1 * d < s * q.2.2.2.2.2 then (s, d) else (q.2.2.2.2.1, q.2.2.2.2.2)).1 ≤ 600 ∧ 1 ≤ (if q.2.2.2.2.1 * d < s * q.2.2.2.2.2 then (s, d) else (q.2.2.2.2.1, q.2.2.2.2.2)).2 ∧ (if q.2.2.2.2.1 * d < s * q.2.2.2.2.2 then (s, d) else (q.2.2.2.2.1, q.2.2.2.2.2)).2 ≤ 6
        split
        · exact ⟨s1, s2, s3⟩
        · exact ⟨g5, g6, g7⟩
    · rw [gv_f c]
      obtain ⟨g1, g2, g3, g4, g5⟩ := g
      exact ⟨g1, g2, g3, by omega, g5⟩
theorem gv_1 {l b : Nat} {a : Int32} (hb : INC u l a b) : ∀ i : Nat, b < i → 1 ≤ (gv u l a i).2.2.2.1 := by
  intro i
  induction i with
  | zero => intro z; omega
  | succ i ih =>
    intro hi
    by_cases c : INC u l a i
    · rw [gv_t c]; show 1 ≤ (gv u l a i).2.2.2.1 + 1; omega
    · rw [gv_f c]
      refine ih ?_
      by_cases z : b = i
      · subst z; exact absurd hb c
      · omega
/-- in least terms, neither part below 0 -/
def rdN (s c : Nat) : Fq := (((s / Nat.gcd c s : Nat) : Int), c / Nat.gcd c s)
theorem rdN_b {s c : Nat} (hs : s ≤ 1000000000) (h1 : 1 ≤ c) (hc : c ≤ 1000000000) : fb (rdN s c) := by
  have g0 : 0 < Nat.gcd c s := Nat.gcd_pos_of_pos_left _ h1
  have g1 : Nat.gcd c s ≤ c := Nat.gcd_le_left _ h1
  have q1 : s / Nat.gcd c s ≤ s := Nat.div_le_self _ _
  have q2 : c / Nat.gcd c s ≤ c := Nat.div_le_self _ _
  have q3 : 1 ≤ c / Nat.gcd c s := (Nat.le_div_iff_mul_le g0).mpr (by omega)
  refine ⟨?_, ?_, q3, ?_⟩
  · show -1000000000 ≤ ((s / Nat.gcd c s : Nat) : Int)
    generalize s / Nat.gcd c s = q
    omega
  · show ((s / Nat.gcd c s : Nat) : Int) ≤ 1000000000; omega
  · show c / Nat.gcd c s ≤ 1000000000; omega
/-- the names for bidder b in lot l, without a -/
noncomputable def NM (u : SS) (l : Nat) (a : Int32) (b : Nat) : Nat → Fq
  | 0 => ((prN u (b * 6 + l) : Int), 1)
  | 1 => (((gv u l a 8).1 : Int), 1)
  | 2 => (((gv u l a 8).2.1 : Int), 1)
  | 3 => rdN (gv u l a 8).2.2.1 (gv u l a 8).2.2.2.1
  | 4 => rdN (qS u l a (b * 6 + l)) (qC u l a (b * 6 + l))
  | 5 => rdN (gv u l a 8).2.2.2.2.1 (gv u l a 8).2.2.2.2.2
  | _ => (((gv u l a 8).2.2.2.1 : Int), 1)
def NMV (N : Nat → Fq) (y : SS) : Prop := ∀ j : Nat, j < 7 → gL y 0 j = iL (N j).1 ∧ gL y 1 j = lN (N j).2 ∧ fb (N j)
/-- names 3 to 5 reduced -/
def rq (i : Nat) (A B : Nat → Nat) (j : Nat) : Nat × Nat := if 3 ≤ j ∧ j < i then (A j / Nat.gcd (B j) (A j), B j / Nat.gcd (B j) (A j)) else (A j, B j)
theorem fn357V {A B : Nat → Nat} (m : PK v w) (hA : ∀ j : Nat, j < 7 → A j ≤ 1000000000 ∧ 1 ≤ B j ∧ B j ≤ 1000000000) (hn : ∀ j : Nat, j < 7 → gL w 0 j = lN (A j) ∧ gL w 1 j = lN (B j)) : TO (fun y => PK v y ∧ ∀ j : Nat, j < 7 → gL y 0 j = lN (rq 6 A B j).1 ∧ gL y 1 j = lN (rq 6 A B j).2) (f_X10_findNames_L357 FU (3 : Int32) w) := by
  have r3 : ∀ j : Nat, rq 3 A B j = (A j, B j) := fun j => if_neg (by omega)
  refine loopG (fun F (x : Int32 × SS) => f_X10_findNames_L357 F x.1 x.2) (fun i x => x.1 = nI i ∧ PK v x.2 ∧ 3 ≤ i ∧ ∀ j : Nat, j < 7 → gL x.2 0 j = lN (rq i A B j).1 ∧ gL x.2 1 j = lN (rq i A B j).2) _ 6 ?_ 3 3 FU ((3 : Int32), w) (by omega) (Nat.lt_trans (by decide) FU_ge) ⟨rfl, m, Nat.le_refl 3, fun j hj => by rw [r3 j]; exact hn j hj⟩
  intro F x i hi hI hc
  obtain ⟨b14, y⟩ := x
  obtain ⟨e, m, h3, hn⟩ := hI
  have e : b14 = nI i := e
  have m : PK v y := m
  have hn : ∀ j : Nat, j < 7 → gL y 0 j = lN (rq i A B j).1 ∧ gL y 1 j = lN (rq i A B j).2 := hn
  subst e
  show TO _ (b_X10_findNames_L357 (f_X10_findNames_L357 F) (nI i) y)
  unfold b_X10_findNames_L357
  by_cases c6 : i = 6
  · subst c6
    rw [if_pos (show (6 : Int32) ≤ nI 6 by decide)]; exact to_s ⟨m, hn⟩
  have hi2 : i < 6 := by omega
  have hi7 : i < 7 := by omega
  obtain ⟨a1, b1, b2⟩ := hA i hi7
  have ri : rq i A B i = (A i, B i) := if_neg (by omega)
  obtain ⟨e1, e2⟩ := hn i hi7
  rw [ri] at e1 e2
  have e1 : gL y 0 i = lN (A i) := e1
  have e2 : gL y 1 i = lN (B i) := e2
  have g0 : 0 < Nat.gcd (B i) (A i) := Nat.gcd_pos_of_pos_left _ b1
  have g1 : Nat.gcd (B i) (A i) ≤ B i := Nat.gcd_le_left _ b1
  have gn : ¬ lN (Nat.gcd (B i) (A i)) = 0 := fun y => by
    have := (pk_lEQ (b := 0) (by omega) (by decide)).mp y
    omega
  have dv : f_X10_divisor (lN (A i)) (lN (B i)) y = some (lN (Nat.gcd (B i) (A i)), y) := by
    have := dvZ (z := (A i : Int)) (m := B i) (by omega) (by omega) (by omega) (by omega) y
    rw [iL_n, Int.natAbs_natCast] at this; exact this
  rw [if_neg (show ¬ (6 : Int32) ≤ nI i from nI_ge (b := 6) hi2 (by decide)), nI_clamp (show i < 2 ^ 31 by omega), oi_nI (by decide) hi7, oi_nI (by decide) hi7, e1, e2, dv, ob_s, oi_nI (by decide) hi7, if_neg gn, oi_nI (by decide) hi7, e1, pk_lDiv (by omega) g0 (by omega), lt_e, tLn (show (1 : Nat) ≠ 0 by decide), e2, pk_lDiv (by omega) g0 (by omega), oi_nI (by decide) hi7, if_neg gn, oi_nI (by decide) hi7, lt_e, lt_e, nI_1]
  refine hc (nI (i + 1), _) hi2 ⟨rfl, PK_L (PK_L m), by omega, fun j hj => ?_⟩
  show gL (tL (tL y 0 (nI i) (lN (A i / Nat.gcd (B i) (A i)))) 1 (nI i) (lN (B i / Nat.gcd (B i) (A i)))) 0 j = _ ∧ gL (tL (tL y 0 (nI i) (lN (A i / Nat.gcd (B i) (A i)))) 1 (nI i) (lN (B i / Nat.gcd (B i) (A i)))) 1 j = _
  rw [tLn (show (0 : Nat) ≠ 1 by decide), tLe, tLe, tLn (show (1 : Nat) ≠ 0 by decide), nI_clamp (by omega)]
  by_cases z : j = i
  · subst z
    have r1 : rq (j + 1) A B j = (A j / Nat.gcd (B j) (A j), B j / Nat.gcd (B j) (A j)) := if_pos (by omega)
    rw [updL_s, updL_s, r1]; exact ⟨rfl, rfl⟩
  · have r1 : rq (i + 1) A B j = rq i A B j := by
      unfold rq
      by_cases q : 3 ≤ j ∧ j < i
      · rw [if_pos q, if_pos (by omega)]
      · rw [if_neg q, if_neg (by omega)]
    rw [updL_n _ _ z, updL_n _ _ z, r1]; exact hn j hj
theorem fn281V (h : RT k u v) {b l : Nat} (hb : b < 8) (hl : l < 6) (a : Int32) {t lo hi su cn bs bc : Nat} (h1 : 1 ≤ cn) (h8 : cn ≤ 8) (ht : t ≤ 1000000000) (hlo : lo ≤ 1000000000) (hhi : hi ≤ 1000000000) (hsu : su ≤ 1000000000) (hbs : bs ≤ 600) (hbc : 1 ≤ bc) (hbc6 : bc ≤ 6) (m : PK v w) (w0 : gL w 0 0 = lN t) (w1 : gL w 0 1 = lN lo) (w2 : gL w 0 2 = lN hi) (w3 : gL w 0 3 = lN su) (w6 : gL w 0 6 = lN cn) (w5 : gL w 0 5 = lN bs) (w5b : gL w 1 5 = lN bc) : TO (fun y => PK v y ∧ NMV (fun j => match j with | 0 => ((t : Int), 1) | 1 => ((lo : Int), 1) | 2 => ((hi : Int), 1) | 3 => rdN su cn | 4 => rdN (qS u l a (b * 6 + l)) (qC u l a (b * 6 + l)) | 5 => rdN bs bc | _ => ((cn : Int), 1)) y) (f_X10_findNames_L281 FU (nI (8 * l + b)) a (nI cn) (0 : Int32) w) := by
  refine loopR (fun F (x : Int32 × SS) => f_X10_findNames_L281 F (nI (8 * l + b)) a (nI cn) x.1 x.2) (fun i x => x.1 = nI i ∧ PK v x.2 ∧ (∀ j : Nat, gL x.2 0 j = gL w 0 j) ∧ gL x.2 1 5 = lN bc ∧ ∀ j : Nat, j < i → j ≠ 5 → gL x.2 1 j = lN 1) _ 7 ?_ (F := FU) (x := ((0 : Int32), w)) (Nat.lt_trans (by decide) FU_ge) ⟨rfl, m, fun _ => rfl, w5b, fun j hj => absurd hj (by omega)⟩
  intro F x i hi7 hI hc2
  obtain ⟨b14, y⟩ := x
  obtain ⟨e, m, ht0, n5, hb1⟩ := hI
  have e : b14 = nI i := e
  have m : PK v y := m
  have ht0 : ∀ j : Nat, gL y 0 j = gL w 0 j := ht0
  have n5 : gL y 1 5 = lN bc := n5
  have hb1 : ∀ j : Nat, j < i → j ≠ 5 → gL y 1 j = lN 1 := hb1
  subst e
  show TO _ (b_X10_findNames_L281 (f_X10_findNames_L281 F) (nI (8 * l + b)) a (nI cn) (nI i) y)
  unfold b_X10_findNames_L281 f_X10_findNames_L310
  by_cases c7 : i = 7
  · subst c7
    obtain ⟨s1, s2, s3⟩ := qSC h hb hl a
    have k3 : (3 : Int32) = nI 3 := rfl
    have k4 : (4 : Int32) = nI 4 := rfl
    rw [if_pos (show (7 : Int32) ≤ nI 7 by decide), nI_l (by omega), k3, oi_nI (by decide) (by decide), lt_e, k4]
    have m2 : PK v (tL y 1 (nI 3) (lN cn)) := PK_L m
    obtain ⟨z, ez, qz, z4, z5⟩ := fqE (RT_mk h (PK_mk m2)) hb hl a
    rw [ez, ov_s, oi_nI (by decide) (by decide), z4, nI_l (by omega), lt_e, oi_nI (by decide) (by decide), gI_tL, z5, nI_l (by omega), lt_e]
    refine to_w (fn357V (A := fun j => match j with | 0 => t | 1 => lo | 2 => hi | 3 => su | 4 => qS u l a (b * 6 + l) | 5 => bs | _ => cn) (B := fun j => match j with | 3 => cn | 4 => qC u l a (b * 6 + l) | 5 => bc | _ => 1) (PK_L (PK_L (PK_t m2 (QK_pk qz)))) (fun j hj => ?_) (fun j hj => ?_)) (fun p hp => ⟨hp.1, fun j hj => ?_⟩)
    · match j, hj with
      | 0, _ => exact ⟨ht, Nat.le_refl 1, by show 1 ≤ 1000000000; omega⟩
      | 1, _ => exact ⟨hlo, Nat.le_refl 1, by show 1 ≤ 1000000000; omega⟩
      | 2, _ => exact ⟨hhi, Nat.le_refl 1, by show 1 ≤ 1000000000; omega⟩
      | 3, _ => exact ⟨hsu, h1, by show cn ≤ 1000000000; omega⟩
      | 4, _ => exact ⟨by show qS u l a (b * 6 + l) ≤ 1000000000; omega, s2, by show qC u l a (b * 6 + l) ≤ 1000000000; omega⟩
      | 5, _ => exact ⟨by show bs ≤ 1000000000; omega, hbc, by show bc ≤ 1000000000; omega⟩
      | 6, _ => exact ⟨by show cn ≤ 1000000000; omega, Nat.le_refl 1, by show 1 ≤ 1000000000; omega⟩
    · rw [tLn (show (0 : Nat) ≠ 1 by decide), tLe, tLe, tLn (show (1 : Nat) ≠ 0 by decide), nI_clamp (by decide), qz.2.2.1 0, qz.2.2.1 1, tLn (show (0 : Nat) ≠ 1 by decide), tLe, nI_clamp (by decide)]
      match j, hj with
      | 0, _ => rw [updL_n _ _ (by decide), updL_n _ _ (by decide), updL_n _ _ (by decide), ht0, w0, hb1 0 (by decide) (by decide)]; exact ⟨rfl, rfl⟩
      | 1, _ => rw [updL_n _ _ (by decide), updL_n _ _ (by decide), updL_n _ _ (by decide), ht0, w1, hb1 1 (by decide) (by decide)]; exact ⟨rfl, rfl⟩
      | 2, _ => rw [updL_n _ _ (by decide), updL_n _ _ (by decide), updL_n _ _ (by decide), ht0, w2, hb1 2 (by decide) (by decide)]; exact ⟨rfl, rfl⟩
      | 3, _ => rw [updL_n _ _ (by decide), updL_n _ _ (by decide), updL_s, ht0, w3]; exact ⟨rfl, rfl⟩
      | 4, _ => rw [updL_s, updL_s]; exact ⟨rfl, rfl⟩
      | 5, _ => rw [updL_n _ _ (by decide), updL_n _ _ (by decide), updL_n _ _ (by decide), ht0, w5, n5]; exact ⟨rfl, rfl⟩
      | 6, _ => rw [updL_n _ _ (by decide), updL_n _ _ (by decide), updL_n _ _ (by decide), ht0, w6, hb1 6 (by decide) (by decide)]; exact ⟨rfl, rfl⟩
    · obtain ⟨p0, p1⟩ := hp.2 j hj
      rw [p0, p1]
      have one : ∀ s : Nat, s ≤ 1000000000 → fb ((s : Int), 1) := fun s hs => ⟨by show -1000000000 ≤ (s : Int); omega, by show (s : Int) ≤ 1000000000; omega, Nat.le_refl 1, by show 1 ≤ 1000000000; omega⟩
      match j, hj with
      | 0, _ => exact ⟨(iL_n t).symm, rfl, one t ht⟩
      | 1, _ => exact ⟨(iL_n lo).symm, rfl, one lo hlo⟩
      | 2, _ => exact ⟨(iL_n hi).symm, rfl, one hi hhi⟩
      | 3, _ => exact ⟨(iL_n _).symm, rfl, rdN_b hsu h1 (by omega)⟩
      | 4, _ => exact ⟨(iL_n _).symm, rfl, rdN_b (by omega) s2 (by omega)⟩
      | 5, _ => exact ⟨(iL_n _).symm, rfl, rdN_b (by omega) hbc (by omega)⟩
      | 6, _ => exact ⟨(iL_n cn).symm, rfl, one cn (by omega)⟩
  · have hi2 : i < 7 := by omega
    rw [if_neg (show ¬ (7 : Int32) ≤ nI i from nI_ge (b := 7) hi2 (by decide))]
    have st : ∀ q0 : Int64, (i ≠ 5 → q0 = lN 1) → (i = 5 → q0 = lN bc) → TO (fun y => PK v y ∧ NMV (fun j => match j with | 0 => ((t : Int), 1) | 1 => ((lo : Int), 1) | 2 => ((hi : Int), 1) | 3 => rdN su cn | 4 => rdN (qS u l a (b * 6 + l)) (qC u l a (b * 6 + l)) | 5 => rdN bs bc | _ => ((cn : Int), 1)) y) (oi (nI i) 7 (lt (tL y 1 (nI i) q0) fun u24 => lt (nI i + (1 : Int32)) fun x25 => f_X10_findNames_L281 F (nI (8 * l + b)) a (nI cn) x25 u24)) := by
      intro q0 hq hq5
      refine to_i (by decide) ⟨i, hi2, rfl⟩ (to_l ?_)
      rw [lt_e, nI_1]
      refine hc2 (nI (i + 1), _) (by omega) ⟨rfl, PK_L m, fun j => ?_, ?_, fun j hj a1 => ?_⟩
      · show gL (tL y 1 (nI i) q0) 0 j = _
        rw [tLn (by decide)]; exact ht0 j
      · show gL (tL y 1 (nI i) q0) 1 5 = lN bc
        rw [tLe, nI_clamp (by omega)]
        by_cases z : i = 5
        · subst z; rw [updL_s]; exact hq5 rfl
        · rw [updL_n _ _ (Ne.symm z)]; exact n5
      · show gL (tL y 1 (nI i) q0) 1 j = lN 1
        rw [tLe, nI_clamp (by omega)]
        by_cases z : j = i
        · rw [z, updL_s]; exact hq (by omega)
        · rw [updL_n _ _ z]; exact hb1 j (by omega) a1
    refine to_c (fun c5 => to_i (by decide) ⟨5, by decide, by decide⟩ ?_) (fun c5 => ?_)
    · have i5 : i = 5 := (nI_eq (b := 5) (by omega) (by decide)).mp c5
      exact st _ (fun z => absurd i5 z) (fun _ => n5)
    · have i5 : i ≠ 5 := fun z => c5 (by rw [z]; rfl)
      exact st _ (fun _ => rfl) (fun z => absurd z i5)
theorem fnV (h : RT k u v) {b l : Nat} (hb : b < 8) (hl : l < 6) (a : Int32) (hin : INC u l a b) : TO (fun y => PK v y ∧ NMV (NM u l a b) y) (f_X10_findNames (nI (8 * l + b)) (0 : Int32) a v) := by
  unfold f_X10_findNames
  have k5 : (5 : Int32) = nI 5 := rfl
  rw [show nI (8 * l + b) / (8 : Int32) = nI l by rw [show nI (8 * l + b) / (8 : Int32) = nI ((8 * l + b) / 8) from pk_div (d := 8) (by omega) (by decide) (by decide), show (8 * l + b) / 8 = l by omega], lt_e, k5, oi_nI (by decide) (by decide), lt_e, oi_nI (by decide) (by decide), lt_e]
  refine loopR (fun F (x : Int64 × Int64 × Int64 × Int32 × Int32 × SS) => f_X10_findNames_L35 F (nI (8 * l + b)) (0 : Int32) a (nI l) x.1 x.2.1 x.2.2.1 x.2.2.2.1 x.2.2.2.2.1 x.2.2.2.2.2) (fun i x => x.1 = lN (gv u l a i).1 ∧ x.2.1 = lN (gv u l a i).2.1 ∧ x.2.2.1 = lN (gv u l a i).2.2.1 ∧ x.2.2.2.1 = nI (gv u l a i).2.2.2.1 ∧ x.2.2.2.2.1 = nI i ∧ PK v x.2.2.2.2.2 ∧ gL x.2.2.2.2.2 0 5 = lN (gv u l a i).2.2.2.2.1 ∧ gL x.2.2.2.2.2 1 5 = lN (gv u l a i).2.2.2.2.2) _ 8 ?_ (F := FU) (x := ((0 : Int64), (0 : Int64), (0 : Int64), (0 : Int32), (0 : Int32), _)) (Nat.lt_trans (by decide) FU_ge) ⟨rfl, rfl, rfl, rfl, rfl, PK_L (PK_L (PK_r v)), ?_, ?_⟩
  rotate_left
  · show gL (tL (tL v 0 (nI 5) 0) 1 (nI 5) 1) 0 5 = lN 0
    rw [tLn (by decide), tLe, nI_clamp (by decide), updL_s]; rfl
  · show gL (tL (tL v 0 (nI 5) 0) 1 (nI 5) 1) 1 5 = lN 1
    rw [tLe, nI_clamp (by decide), updL_s]; rfl
  intro F x i hi hI hc2
  obtain ⟨b5, b7, b9, b11, b12, y⟩ := x
  obtain ⟨f5, f7, f9, f11, e, m, n5, n5b⟩ := hI
  have e : b12 = nI i := e
  have m : PK v y := m
  have f5 : b5 = lN (gv u l a i).1 := f5
  have f7 : b7 = lN (gv u l a i).2.1 := f7
  have f9 : b9 = lN (gv u l a i).2.2.1 := f9
  have f11 : b11 = nI (gv u l a i).2.2.2.1 := f11
  have n5 : gL y 0 5 = lN (gv u l a i).2.2.2.2.1 := n5
  have n5b : gL y 1 5 = lN (gv u l a i).2.2.2.2.2 := n5b
  subst e
  subst f5
  subst f7
  subst f9
  subst f11
  have hy := RT_mk h (PK_mk m)
  obtain ⟨l1, l2, l3, l4, l5, l6, l7⟩ := gv_le h hl a i hi
  show TO _ (b_X10_findNames_L35 (f_X10_findNames_L35 F) (nI (8 * l + b)) (0 : Int32) a (nI l) (lN (gv u l a i).1) (lN (gv u l a i).2.1) (lN (gv u l a i).2.2.1) (nI (gv u l a i).2.2.2.1) (nI i) y)
  unfold b_X10_findNames_L35 f_X10_findNames_L84 f_X10_findNames_L209
  have sub0 : ∀ p : Nat, p ≤ 109999800 → (nI p - (0 : Int32)).toInt64 = lN p := fun p hp => by rw [Int32.sub_zero, nI_l (by omega)]
  have ge1 : ∀ p : Nat, 1 ≤ p → p ≤ 109999800 → 0 ≤ lg_cmp (lN p) (1 : Int64) := fun p p1 p2 => by
    have := (lL1 (p : Int) (by omega) (by omega)).mpr (by omega)
    rw [iL_n] at this; exact this
  have pr1 : ∀ c : Nat, 1 ≤ prN u c := fun c => by unfold prN; split <;> omega
  by_cases c8 : i = 8
  · subst c8
    have cn1 := gv_1 hin 8 hb
    have su9 : (gv u l a 8).2.2.1 ≤ 879998400 := mul_b l3 l4 rfl
    have pb := pr_le (BD_of h hb hl)
    rw [if_pos (show (8 : Int32) ≤ nI 8 by decide), prM hy hb hl, ob_s, sub0 _ pb, lt_e, if_pos (ge1 _ (pr1 _) pb)]
    unfold f_X10_findNames_L243
    have k0 : (0 : Int32) = nI 0 := rfl
    have k1 : (1 : Int32) = nI 1 := rfl
    have k2 : (2 : Int32) = nI 2 := rfl
    have k3 : (3 : Int32) = nI 3 := rfl
    have k6 : (6 : Int32) = nI 6 := rfl
    rw [nI_l (show (gv u l a 8).2.2.2.1 < 2 ^ 31 by omega), k1, k2, k3, k6]
    refine to_i (by decide) ⟨0, by decide, rfl⟩ (to_l (to_i (by decide) ⟨1, by decide, rfl⟩ (to_l (to_i (by decide) ⟨2, by decide, rfl⟩ (to_l (to_i (by decide) ⟨3, by decide, rfl⟩ (to_l (to_i (by decide) ⟨6, by decide, rfl⟩ (to_l ?_)))))))))
    have G : ∀ j : Nat, gL (tL (tL (tL (tL (tL y 0 (0 : Int32) (lN (prN u (b * 6 + l)))) 0 (nI 1) (lN (gv u l a 8).1)) 0 (nI 2) (lN (gv u l a 8).2.1)) 0 (nI 3) (lN (gv u l a 8).2.2.1)) 0 (nI 6) (lN (gv u l a 8).2.2.2.1)) 0 j = vp_updL (vp_updL (vp_updL (vp_updL (vp_updL (gL y 0) 0 (lN (prN u (b * 6 + l)))) 1 (lN (gv u l a 8).1)) 2 (lN (gv u l a 8).2.1)) 3 (lN (gv u l a 8).2.2.1)) 6 (lN (gv u l a 8).2.2.2.1) j := by
      intro j
      rw [tLe, tLe, tLe, tLe, tLe, nI_clamp (by decide), nI_clamp (by decide), nI_clamp (by decide), nI_clamp (by decide)]; rfl
    refine to_w (fn281V h hb hl a (t := prN u (b * 6 + l)) (lo := (gv u l a 8).1) (hi := (gv u l a 8).2.1) (su := (gv u l a 8).2.2.1) (cn := (gv u l a 8).2.2.2.1) (bs := (gv u l a 8).2.2.2.2.1) (bc := (gv u l a 8).2.2.2.2.2) cn1 l4 (by omega) (by omega) (by omega) (by omega) l5 l6 l7 (PK_L (PK_L (PK_L (PK_L (PK_L m))))) ?_ ?_ ?_ ?_ ?_ ?_ ?_) (fun p hp => ⟨hp.1, fun j hj => ?_⟩)
    · rw [G, updL_n _ _ (by decide), updL_n _ _ (by decide), updL_n _ _ (by decide), updL_n _ _ (by decide), updL_s]
    · rw [G, updL_n _ _ (by decide), updL_n _ _ (by decide), updL_n _ _ (by decide), updL_s]
    · rw [G, updL_n _ _ (by decide), updL_n _ _ (by decide), updL_s]
    · rw [G, updL_n _ _ (by decide), updL_s]
    · rw [G, updL_s]
    · rw [G, updL_n _ _ (by decide), updL_n _ _ (by decide), updL_n _ _ (by decide), updL_n _ _ (by decide), updL_n _ _ (by decide)]; exact n5
    · rw [tLn (by decide), tLn (by decide), tLn (by decide), tLn (by decide), tLn (by decide)]; exact n5b
    · have q := hp.2 j hj
      match j, hj, q with
      | 0, _, q => exact q
      | 1, _, q => exact q
      | 2, _, q => exact q
      | 3, _, q => exact q
      | 4, _, q => exact q
      | 5, _, q => exact q
      | 6, _, q => exact q
  · have hi3 : i < 8 := by omega
    rw [if_neg (show ¬ (8 : Int32) ≤ nI i from nI_ge (b := 8) hi3 (by decide)), lt_e, cellM]
    have skip : ¬ INC u l a i → TO (fun y => PK v y ∧ NMV (NM u l a b) y) (lt (nI i + (1 : Int32)) fun x30 => f_X10_findNames_L35 F (nI (8 * l + b)) (0 : Int32) a (nI l) (lN (gv u l a i).1) (lN (gv u l a i).2.1) (lN (gv u l a i).2.2.1) (nI (gv u l a i).2.2.2.1) x30 y) := by
      intro ne
      rw [lt_e, nI_1]
      refine hc2 (lN (gv u l a i).1, lN (gv u l a i).2.1, lN (gv u l a i).2.2.1, nI (gv u l a i).2.2.2.1, nI (i + 1), y) hi3 ?_
      rw [gv_f ne]
      exact ⟨rfl, rfl, rfl, rfl, rfl, m, n5, n5b⟩
    rcases Std_c u (i * 6 + l) with sd | sd
    rotate_left
    · rw [dsM_f hy hi3 hl sd, ob_s, if_pos rfl]; exact skip (fun z => sd z.2)
    rw [dsM_t hy hi3 hl sd, ob_s, if_neg nz_1]
    by_cases ca : nI i = a
    · rw [if_pos ca]; exact skip (fun z => z.1 ca)
    have ic : INC u l a i := ⟨ca, sd⟩
    have p2 := pr_le (BD_of h hi3 hl)
    have p1 := pr1 (i * 6 + l)
    obtain ⟨s1, s2, s3⟩ := qSC h hi3 hl a
    rw [if_neg ca, prM hy hi3 hl, ob_s, sub0 _ p2]
    have L101 : TO (fun y => PK v y ∧ NMV (NM u l a b) y) (f_X10_findNames_L101 (f_X10_findNames_L35 F) (nI (8 * l + b)) (0 : Int32) a (nI l) (lN (gv u l a i).1) (lN (gv u l a i).2.1) (lN (gv u l a i).2.2.1) (nI (gv u l a i).2.2.2.1) (nI i) (nI (8 * l + i)) (lN (prN u (i * 6 + l))) y) := by
      have tail : ∀ (lo2 hi4 : Nat), lo2 = (if (gv u l a i).2.2.2.1 = 0 ∨ prN u (i * 6 + l) < (gv u l a i).1 then prN u (i * 6 + l) else (gv u l a i).1) → hi4 = (if (gv u l a i).2.1 < prN u (i * 6 + l) then prN u (i * 6 + l) else (gv u l a i).2.1) → TO (fun y => PK v y ∧ NMV (NM u l a b) y) (f_X10_findNames_L140 (f_X10_findNames_L35 F) (nI (8 * l + b)) (0 : Int32) a (nI l) (lN lo2) (lN (gv u l a i).2.2.1) (nI (gv u l a i).2.2.2.1) (nI i) (nI (8 * l + i)) (lN (prN u (i * 6 + l))) (lN hi4) y) := by
        intro lo2 hi4 elo ehi
        unfold f_X10_findNames_L140 f_X10_findNames_L209
        obtain ⟨z, ez, qz, z4, z5⟩ := fqE hy hi3 hl a
        rw [lN_add, lt_e, nI_1 (gv u l a i).2.2.2.1, lt_e, ez, ov_s, k5, oi_nI (by decide) (by decide), oi_nI (by decide) (by decide), nI_clamp (show 5 < 2 ^ 31 by decide), z4, z5, nI_l (by omega), nI_l (by omega), qz.2.2.1 0, qz.2.2.1 1, n5, n5b, lN_mul, lN_mul]
        have mz : PK v z := PK_t m (QK_pk qz)
        have b1 : qS u l a (i * 6 + l) * (gv u l a i).2.2.2.2.2 ≤ 600 * 6 := Nat.mul_le_mul s1 l7
        have b2 : (gv u l a i).2.2.2.2.1 * qC u l a (i * 6 + l) ≤ 600 * 6 := Nat.mul_le_mul l5 s3
        have cmp : lg_cmp (lN (qS u l a (i * 6 + l) * (gv u l a i).2.2.2.2.2)) (lN ((gv u l a i).2.2.2.2.1 * qC u l a (i * 6 + l))) ≤ 0 ↔ qS u l a (i * 6 + l) * (gv u l a i).2.2.2.2.2 ≤ (gv u l a i).2.2.2.2.1 * qC u l a (i * 6 + l) := by
          rw [lg_cmp_le]; exact pk_lLE (by omega) (by omega)
        have fin : ∀ (q2 : SS) (s d : Nat), PK v q2 → gL q2 0 5 = lN s → gL q2 1 5 = lN d → (s, d) = (if (gv u l a i).2.2.2.2.1 * qC u l a (i * 6 + l) < qS u l a (i * 6 + l) * (gv u l a i).2.2.2.2.2 then (qS u l a (i * 6 + l), qC u l a (i * 6 + l)) else ((gv u l a i).2.2.2.2.1, (gv u l a i).2.2.2.2.2)) → TO (fun y => PK v y ∧ NMV (NM u l a b) y) (lt (nI i + (1 : Int32)) fun x30 => f_X10_findNames_L35 F (nI (8 * l + b)) (0 : Int32) a (nI l) (lN lo2) (lN hi4) (lN ((gv u l a i).2.2.1 + prN u (i * 6 + l))) (nI ((gv u l a i).2.2.2.1 + 1)) x30 q2) := by
          intro q2 s d m2 g0 g1 esd
          rw [lt_e, nI_1]
          refine hc2 (lN lo2, lN hi4, lN ((gv u l a i).2.2.1 + prN u (i * 6 + l)), nI ((gv u l a i).2.2.2.1 + 1), nI (i + 1), q2) hi3 ?_
          rw [gv_t ic, ← esd, ← elo, ← ehi]
          exact ⟨rfl, rfl, rfl, rfl, rfl, m2, g0, g1⟩
        by_cases cq : qS u l a (i * 6 + l) * (gv u l a i).2.2.2.2.2 ≤ (gv u l a i).2.2.2.2.1 * qC u l a (i * 6 + l)
        · rw [if_pos (cmp.mpr cq)]
          exact fin z _ _ mz (by rw [qz.2.2.1 0]; exact n5) (by rw [qz.2.2.1 1]; exact n5b) (by rw [if_neg (by omega)])
        · rw [if_neg (fun q => cq (cmp.mp q)), oi_nI (by decide) (by decide), lt_e, gI_tL, z5, nI_l (by omega), oi_nI (by decide) (by decide), lt_e]
          refine fin _ (qS u l a (i * 6 + l)) (qC u l a (i * 6 + l)) (PK_L (PK_L mz)) ?_ ?_ (by rw [if_pos (by omega)])
          · rw [tLn (by decide), tLe, nI_clamp (by decide), updL_s]
          · rw [tLe, nI_clamp (by decide), updL_s]
      have L123 : ∀ lo2 : Nat, lo2 = (if (gv u l a i).2.2.2.1 = 0 ∨ prN u (i * 6 + l) < (gv u l a i).1 then prN u (i * 6 + l) else (gv u l a i).1) → TO (fun y => PK v y ∧ NMV (NM u l a b) y) (f_X10_findNames_L123 (f_X10_findNames_L35 F) (nI (8 * l + b)) (0 : Int32) a (nI l) (lN (gv u l a i).2.1) (lN (gv u l a i).2.2.1) (nI (gv u l a i).2.2.2.1) (nI i) (nI (8 * l + i)) (lN (prN u (i * 6 + l))) (lN lo2) y) := by
        intro lo2 elo
        unfold f_X10_findNames_L123
        have cmp : lg_cmp (lN (prN u (i * 6 + l))) (lN (gv u l a i).2.1) ≤ 0 ↔ prN u (i * 6 + l) ≤ (gv u l a i).2.1 := by
          rw [lg_cmp_le]; exact pk_lLE (by omega) (by omega)
        by_cases cq : prN u (i * 6 + l) ≤ (gv u l a i).2.1
        · rw [if_pos (cmp.mpr cq)]; exact tail lo2 _ elo (by rw [if_neg (by omega)])
        · rw [if_neg (fun q => cq (cmp.mp q))]; exact tail lo2 _ elo (by rw [if_pos (by omega)])
      unfold f_X10_findNames_L101 f_X10_findNames_L116
      by_cases c0 : (gv u l a i).2.2.2.1 = 0
      · rw [if_pos (show nI (gv u l a i).2.2.2.1 = 0 by rw [c0]; rfl)]
        exact L123 _ (by rw [if_pos (Or.inl c0)])
      · have cmp : 0 ≤ lg_cmp (lN (prN u (i * 6 + l))) (lN (gv u l a i).1) ↔ (gv u l a i).1 ≤ prN u (i * 6 + l) := by
          rw [lg_cmp_ge]; exact pk_lLE (by omega) (by omega)
        rw [if_neg (nI_ne0 (by omega) (by omega))]
        by_cases cq : (gv u l a i).1 ≤ prN u (i * 6 + l)
        · rw [if_pos (cmp.mpr cq)]; exact L123 _ (by rw [if_neg (fun z => z.elim c0 (fun z => by omega))])
        · rw [if_neg (fun q => cq (cmp.mp q))]; exact L123 _ (by rw [if_pos (Or.inr (by omega))])
    have L84 : TO (fun y => PK v y ∧ NMV (NM u l a b) y) (lt (lN (prN u (i * 6 + l))) fun x34 => if 0 ≤ (lg_cmp x34 (1 : Int64)) then (f_X10_findNames_L101 (f_X10_findNames_L35 F) (nI (8 * l + b)) (0 : Int32) a (nI l) (lN (gv u l a i).1) (lN (gv u l a i).2.1) (lN (gv u l a i).2.2.1) (nI (gv u l a i).2.2.2.1) (nI i) (nI (8 * l + i)) x34 y) else (f_X10_findNames_L101 (f_X10_findNames_L35 F) (nI (8 * l + b)) (0 : Int32) a (nI l) (lN (gv u l a i).1) (lN (gv u l a i).2.1) (lN (gv u l a i).2.2.1) (nI (gv u l a i).2.2.2.1) (nI i) (nI (8 * l + i)) (1 : Int64) y)) := by
      rw [lt_e, if_pos (ge1 _ p1 p2)]; exact L101
    exact to_c (fun _ => L84) (fun _ => L84)
end ST41
