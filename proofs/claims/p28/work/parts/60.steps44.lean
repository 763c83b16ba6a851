section ST44
variable {k n : Nat} {u v v2 w x y : SS}
/-! who is ahead: the same for both -/
def cvD (u v : SS) (D : List Int32) : Prop := D.length ≤ 80 ∧ gI u 4 = nI D.length ∧ (∀ j : Nat, j < D.length → gA u 13 j = D.getD j 0) ∧ dpl D = some 1 ∧ (∀ c ∈ D, okc c) ∧ ∃ m : Nat, m ≤ 80 ∧ gI v 7 = nI m ∧ ∀ (N : Nat → Fq) (w : SS), NMV N w → (∀ j : Nat, j < m → gA w 13 j = gA v 13 j) → ∃ y : SS, f_X10_workText_14 (nI m) w = some y ∧ ((∃ f : Fq, evl N D = some [f] ∧ fb f ∧ gI y 13 = 0 ∧ gL y 2 0 = iL f.1 ∧ gL y 3 0 = lN f.2) ∨ (evl N D = none ∧ gI y 13 = 1))
theorem cvD_o (h : RT k u v) : ∃ D : List Int32, cvD u v D := by
  obtain ⟨d0, m0, hd0, hm0, e40, e70, -, D, lD, cD, dD, kD, vD⟩ := h.2.2.2.2.2.2.2.2.2.1
  subst lD
  exact ⟨D, hd0, e40, cD, dD, kD, m0, hm0, e70, vD⟩
theorem cvD_m {D : List Int32} (c : cvD u v D) (m : MK v w) : cvD u w D := by
  obtain ⟨c1, c2, c3, c4, c5, m0, hm0, e7, vD⟩ := c
  refine ⟨c1, c2, c3, c4, c5, m0, hm0, by rw [m.1.1 7 (by unfold kMI; omega)]; exact e7, ?_⟩
  rw [m.1.2 13 (by unfold kMA; omega)]; exact vD
/-- the points of bidder b -/
noncomputable def PV (u : SS) (D : List Int32) (l : Nat) (a : Int32) (b : Nat) : Fq := match evl (NM u l a b) D with
  | some [f] => f
  | _ => (0, 1)
theorem PV_e {D : List Int32} {l b : Nat} {a : Int32} {f : Fq} (h : evl (NM u l a b) D = some [f]) : PV u D l a b = f := by
  unfold PV; rw [h]
theorem fpV (h : RT k u v) {D : List Int32} (cd : cvD u v D) {b l : Nat} (hb : b < 8) (hl : l < 6) (a : Int32) (hin : INC u l a b) : ∃ q : SS, PK v q ∧ ((evl (NM u l a b) D = some [PV u D l a b] ∧ fb (PV u D l a b) ∧ f_X10_findPoints (nI (8 * l + b)) (0 : Int32) a v = some (1, q) ∧ gJ q 0 = iL (PV u D l a b).1 ∧ gJ q 1 = lN (PV u D l a b).2) ∨ (evl (NM u l a b) D = none ∧ f_X10_findPoints (nI (8 * l + b)) (0 : Int32) a v = some (0, q))) := by
  obtain ⟨-, -, -, -, -, m0, hm0, e70, vD⟩ := cd
  obtain ⟨x, ex, px, nx⟩ := fnV h hb hl a hin
  obtain ⟨q, eq, hq⟩ := vD (NM u l a b) x nx (fun j hj => by rw [px.2 13 (by unfold kPA; omega)])
  obtain ⟨q2, eq2, mq⟩ := wtM14 hm0 px (NMI_N nx)
  rw [eq] at eq2
  have eq2 : q = q2 := Option.some.inj eq2
  subst eq2
  have e7x : gI x 7 = nI m0 := by rw [px.1 7 (by unfold kPI; omega)]; exact e70
  have o0 : ∀ {a : Option (Int32 × SS)}, oi (0 : Int32) 100 a = a := fun {a} => oi_nI (c := 0) (by decide) (by decide)
  have z0 : (0 : Int32).toNatClampNeg = 0 := rfl
  have fp : f_X10_findPoints (nI (8 * l + b)) (0 : Int32) a v = (if gI q 13 = 0 then some ((1 : Int32), sJ (sJ q 0 (gL q 2 0)) 1 (gL q 3 0)) else some ((0 : Int32), sJ (sJ q 0 (gL q 2 0)) 1 (gL q 3 0))) := by
    unfold f_X10_findPoints
    rw [ex, ov_s, e7x, eq, ov_s, o0, lt_e, o0, lt_e, z0]; rfl
  refine ⟨sJ (sJ q 0 (gL q 2 0)) 1 (gL q 3 0), PK_J (PK_J mq), ?_⟩
  rcases hq with ⟨f, ef, bf, q13, q2, q3⟩ | ⟨en, q13⟩
  · rw [if_pos q13] at fp
    rw [PV_e ef]
    exact Or.inl ⟨ef, bf, fp, by rw [sJn (by decide), sJe]; exact q2, by rw [sJe]; exact q3⟩
  · rw [if_neg (by rw [q13]; exact nz_1)] at fp
    exact Or.inr ⟨en, fp⟩
def AHd (p r : Fq) (s c s2 c2 x y i j : Nat) : Prop := r.1 * p.2 < p.1 * r.2 ∨ (p.1 * r.2 = r.1 * p.2 ∧ (s2 * c < s * c2 ∨ (s * c2 = s2 * c ∧ (x < y ∨ (x = y ∧ i < j)))))
/-- i is ahead of j -/
def AH (u : SS) (D : List Int32) (l : Nat) (a : Int32) (i j : Nat) : Prop := AHd (PV u D l a i) (PV u D l a j) (qS u l a (i * 6 + l)) (qC u l a (i * 6 + l)) (qS u l a (j * 6 + l)) (qC u l a (j * 6 + l)) (prN u (i * 6 + l)) (prN u (j * 6 + l)) i j
theorem iaR (h : RT k u v) {D : List Int32} (cd : cvD u v D) {i j l : Nat} (hi : i < 8) (hj : j < 8) (hl : l < 6) (a : Int32) (ii : INC u l a i) (ij : INC u l a j) (ei : evl (NM u l a i) D = some [PV u D l a i]) (ej : evl (NM u l a j) D = some [PV u D l a j]) : ∃ q : SS, PK v q ∧ ((AH u D l a i j ∧ f_X10_isAhead (nI (8 * l + i)) (nI (8 * l + j)) a v = some (1, q)) ∨ (¬ AH u D l a i j ∧ f_X10_isAhead (nI (8 * l + i)) (nI (8 * l + j)) a v = some (0, q))) := by
  obtain ⟨q1, m1, g1⟩ := fpV h cd hi hl a ii
  rcases g1 with ⟨-, b1, e1, x1, x2⟩ | ⟨en, -⟩
  rotate_left
  · rw [ei] at en; cases en
  have h1 := RT_mk h (PK_mk m1)
  obtain ⟨q2, m2, g2⟩ := fpV h1 (cvD_m cd (PK_mk m1)) hj hl a ij
  rcases g2 with ⟨-, b2, e2, y1, y2⟩ | ⟨en, -⟩
  rotate_left
  · rw [ej] at en; cases en
  have h2 := RT_mk h1 (PK_mk m2)
  obtain ⟨q3, e3, k3, s3, c3⟩ := fqE h2 hi hl a
  have h3 := RT_mk h2 (PK_mk (QK_pk k3))
  obtain ⟨q4, e4, k4, s4, c4⟩ := fqE h3 hj hl a
  have h4 := RT_mk h3 (PK_mk (QK_pk k4))
  obtain ⟨u1, u2, u3⟩ := qSC h hi hl a
  obtain ⟨w1, w2, w3⟩ := qSC h hj hl a
  have p1 := pr_le (BD_of h hi hl)
  have p2 := pr_le (BD_of h hj hl)
  have M2 : PK v q2 := PK_t m1 m2
  have M4 : PK v q4 := PK_t (PK_t M2 (QK_pk k3)) (QK_pk k4)
  obtain ⟨a1, a2, a3, a4⟩ := b1
  obtain ⟨d1, d2, d3, d4⟩ := b2
  have mp := mulB a1 a2 (show -1000000000 ≤ ((PV u D l a j).2 : Int) by omega) (show ((PV u D l a j).2 : Int) ≤ 1000000000 by omega)
  have mr := mulB d1 d2 (show -1000000000 ≤ ((PV u D l a i).2 : Int) by omega) (show ((PV u D l a i).2 : Int) ≤ 1000000000 by omega)
  have cmp1 : iL (PV u D l a i).1 * lN (PV u D l a j).2 = iL ((PV u D l a i).1 * (PV u D l a j).2) := by rw [← iL_n, iL_m]
  have cmp2 : iL (PV u D l a j).1 * lN (PV u D l a i).2 = iL ((PV u D l a j).1 * (PV u D l a i).2) := by rw [← iL_n, iL_m]
  have t1 : (iL ((PV u D l a i).1 * (PV u D l a j).2)).toInt = (PV u D l a i).1 * (PV u D l a j).2 := iL_t (by omega) (by omega)
  have t2 : (iL ((PV u D l a j).1 * (PV u D l a i).2)).toInt = (PV u D l a j).1 * (PV u D l a i).2 := iL_t (by omega) (by omega)
  have ce : lg_cmp (iL ((PV u D l a i).1 * (PV u D l a j).2)) (iL ((PV u D l a j).1 * (PV u D l a i).2)) = 0 ↔ (PV u D l a i).1 * (PV u D l a j).2 = (PV u D l a j).1 * (PV u D l a i).2 := by
    rw [lg_cmp_eq, ← Int64.toInt_inj, t1, t2]
  have cl : lg_cmp (iL ((PV u D l a i).1 * (PV u D l a j).2)) (iL ((PV u D l a j).1 * (PV u D l a i).2)) ≤ 0 ↔ (PV u D l a i).1 * (PV u D l a j).2 ≤ (PV u D l a j).1 * (PV u D l a i).2 := by
    rw [lg_cmp_le, Int64.le_iff_toInt_le, t1, t2]
  have z1 : qS u l a (i * 6 + l) * qC u l a (j * 6 + l) ≤ 600 * 6 := Nat.mul_le_mul u1 w3
  have z2 : qS u l a (j * 6 + l) * qC u l a (i * 6 + l) ≤ 600 * 6 := Nat.mul_le_mul w1 u3
  unfold f_X10_isAhead
  rw [e1, ob_s, lt_e, lt_e, e2, ob_s, x1, x2, y1, y2, cmp1, cmp2, lt_e, lt_e]
  by_cases A : (PV u D l a i).1 * (PV u D l a j).2 = (PV u D l a j).1 * (PV u D l a i).2
  rotate_left
  · rw [if_neg (fun z => A (ce.mp z))]
    by_cases B : (PV u D l a i).1 * (PV u D l a j).2 ≤ (PV u D l a j).1 * (PV u D l a i).2
    · rw [if_pos (cl.mpr B)]
      exact ⟨q2, M2, Or.inr ⟨by unfold AH AHd; omega, rfl⟩⟩
    · rw [if_neg (fun z => B (cl.mp z))]
      exact ⟨q2, M2, Or.inl ⟨by unfold AH AHd; omega, rfl⟩⟩
  rw [if_pos (ce.mpr A), e3, ov_s, lt_e, lt_e, e4, ov_s, s3, c3, s4, c4, pk_mul, pk_mul]
  by_cases B : qS u l a (i * 6 + l) * qC u l a (j * 6 + l) = qS u l a (j * 6 + l) * qC u l a (i * 6 + l)
  rotate_left
  · rw [if_neg (fun z => B ((nI_eq (by omega) (by omega)).mp z))]
    by_cases C : qS u l a (i * 6 + l) * qC u l a (j * 6 + l) ≤ qS u l a (j * 6 + l) * qC u l a (i * 6 + l)
    · rw [if_pos (nI_le C (by omega))]
      exact ⟨q4, M4, Or.inr ⟨by unfold AH AHd; omega, rfl⟩⟩
    · rw [if_neg (nI_ge (by omega) (by omega))]
      exact ⟨q4, M4, Or.inl ⟨by unfold AH AHd; omega, rfl⟩⟩
  rw [if_pos (by rw [B]), prM h4 hi hl, ob_s, prM h4 hj hl, ob_s]
  by_cases C : prN u (i * 6 + l) = prN u (j * 6 + l)
  · rw [if_pos (by rw [C])]
    by_cases E : j ≤ i
    · rw [if_pos (nI_le (by omega) (by omega))]
      exact ⟨q4, M4, Or.inr ⟨by unfold AH AHd; omega, rfl⟩⟩
    · rw [if_neg (nI_ge (by omega) (by omega))]
      exact ⟨q4, M4, Or.inl ⟨by unfold AH AHd; omega, rfl⟩⟩
  · rw [if_neg (fun z => C ((nI_eq (by omega) (by omega)).mp z)), prM h4 hi hl, ob_s, prM h4 hj hl, ob_s]
    by_cases E : prN u (j * 6 + l) ≤ prN u (i * 6 + l)
    · rw [if_pos (nI_le (by omega) (by omega))]
      exact ⟨q4, M4, Or.inr ⟨by unfold AH AHd; omega, rfl⟩⟩
    · rw [if_neg (nI_ge (by omega) (by omega))]
      exact ⟨q4, M4, Or.inl ⟨by unfold AH AHd; omega, rfl⟩⟩
theorem cmpV (a b : Int64) (u : SS) : (a.toInt < b.toInt ∧ f_J13_compare_74951 a b u = some (-1, u)) ∨ (a.toInt = b.toInt ∧ f_J13_compare_74951 a b u = some (0, u)) ∨ (b.toInt < a.toInt ∧ f_J13_compare_74951 a b u = some (1, u)) := by
  unfold f_J13_compare_74951
  rcases Int.lt_trichotomy a.toInt b.toInt with z | z | z
  · exact Or.inl ⟨z, if_neg (fun q => by have := Int64.le_iff_toInt_le.mp ((lg_cmp_ge _ _).mp q); omega)⟩
  · exact Or.inr (Or.inl ⟨z, by rw [if_pos ((lg_cmp_ge _ _).mpr (Int64.le_iff_toInt_le.mpr (by omega))), if_pos ((lg_cmp_eq _ _).mpr (Int64.toInt_inj.mp z))]⟩)
  · exact Or.inr (Or.inr ⟨z, by rw [if_pos ((lg_cmp_ge _ _).mpr (Int64.le_iff_toInt_le.mpr (by omega))), if_neg (fun q => by have := (lg_cmp_eq _ _).mp q; rw [this] at z; omega)]⟩)
/-- the class has worked bidder b -/
def WKd (u : SS) (D : List Int32) (l : Nat) (a : Int32) (b : Nat) (w : SS) : Prop := gL w 2 b = iL (PV u D l a b).1 ∧ gL w 3 b = lN (PV u D l a b).2 ∧ fb (PV u D l a b)
theorem iaC (h : RT k u v) {D : List Int32} {i j l : Nat} (hi : i < 8) (hj : j < 8) (hl : l < 6) (a : Int32) (wi : WKd u D l a i w) (wj : WKd u D l a j w) (hq : QLT u l a 8 w) (pi : gA w 17 i = nI (prN u (i * 6 + l))) (pj : gA w 17 j = nI (prN u (j * 6 + l))) : (AH u D l a i j ∧ f_X7_isAhead (nI i) (nI j) w = some (1, w)) ∨ (¬ AH u D l a i j ∧ f_X7_isAhead (nI i) (nI j) w = some (0, w)) := by
  obtain ⟨x1, x2, a1, a2, a3, a4⟩ := wi
  obtain ⟨y1, y2, d1, d2, d3, d4⟩ := wj
  obtain ⟨u1, u2, u3⟩ := qSC h hi hl a
  obtain ⟨w1, w2, w3⟩ := qSC h hj hl a
  have p1 := pr_le (BD_of h hi hl)
  have p2 := pr_le (BD_of h hj hl)
  obtain ⟨qi0, qi1⟩ := hq i hi
  obtain ⟨qj0, qj1⟩ := hq j hj
  have mp := mulB a1 a2 (show -1000000000 ≤ ((PV u D l a j).2 : Int) by omega) (show ((PV u D l a j).2 : Int) ≤ 1000000000 by omega)
  have mr := mulB d1 d2 (show -1000000000 ≤ ((PV u D l a i).2 : Int) by omega) (show ((PV u D l a i).2 : Int) ≤ 1000000000 by omega)
  have cmp1 : iL (PV u D l a i).1 * lN (PV u D l a j).2 = iL ((PV u D l a i).1 * (PV u D l a j).2) := by rw [← iL_n, iL_m]
  have cmp2 : iL (PV u D l a j).1 * lN (PV u D l a i).2 = iL ((PV u D l a j).1 * (PV u D l a i).2) := by rw [← iL_n, iL_m]
  have t1 : (iL ((PV u D l a i).1 * (PV u D l a j).2)).toInt = (PV u D l a i).1 * (PV u D l a j).2 := iL_t (by omega) (by omega)
  have t2 : (iL ((PV u D l a j).1 * (PV u D l a i).2)).toInt = (PV u D l a j).1 * (PV u D l a i).2 := iL_t (by omega) (by omega)
  have r1 := rcmp (s := qS u l a (i * 6 + l)) (s2 := qS u l a (j * 6 + l)) u2 w2
  have r2 := rcmp (s := qS u l a (j * 6 + l)) (s2 := qS u l a (i * 6 + l)) w2 u2
  have b1 : qS u l a (i * 6 + l) / Nat.gcd (qC u l a (i * 6 + l)) (qS u l a (i * 6 + l)) * (qC u l a (j * 6 + l) / Nat.gcd (qC u l a (j * 6 + l)) (qS u l a (j * 6 + l))) ≤ 600 * 6 := Nat.mul_le_mul (Nat.le_trans (Nat.div_le_self _ _) u1) (Nat.le_trans (Nat.div_le_self _ _) w3)
  have b2 : qS u l a (j * 6 + l) / Nat.gcd (qC u l a (j * 6 + l)) (qS u l a (j * 6 + l)) * (qC u l a (i * 6 + l) / Nat.gcd (qC u l a (i * 6 + l)) (qS u l a (i * 6 + l))) ≤ 600 * 6 := Nat.mul_le_mul (Nat.le_trans (Nat.div_le_self _ _) w1) (Nat.le_trans (Nat.div_le_self _ _) u3)
  have ci : (nI i).toNatClampNeg = i := nI_clamp (by omega)
  have cj : (nI j).toNatClampNeg = j := nI_clamp (by omega)
  have oI : ∀ {x : Option (Int32 × SS)}, oi (nI i) 8 x = x := fun {x} => oi_nI (by decide) hi
  have oJ : ∀ {x : Option (Int32 × SS)}, oi (nI j) 8 x = x := fun {x} => oi_nI (by decide) hj
  unfold f_X7_isAhead
  rw [oI, oJ, oJ, oI, ci, cj, x1, x2, y1, y2, cmp1, cmp2]
  have pm : ¬ (-1 : Int32) = 0 := by decide
  have pl : (-1 : Int32) ≤ 0 := by decide
  have ng : ¬ (1 : Int32) ≤ 0 := by decide
  rcases cmpV (iL ((PV u D l a i).1 * (PV u D l a j).2)) (iL ((PV u D l a j).1 * (PV u D l a i).2)) w with ⟨z, e⟩ | ⟨z, e⟩ | ⟨z, e⟩
  · rw [t1, t2] at z
    rw [e, ob_s, if_neg pm, if_pos pl]; exact Or.inr ⟨by unfold AH AHd; omega, rfl⟩
  rotate_left
  · rw [t1, t2] at z
    rw [e, ob_s, if_neg nz_1, if_neg ng]; exact Or.inl ⟨by unfold AH AHd; omega, rfl⟩
  rw [t1, t2] at z
  rw [e, ob_s, if_pos rfl, oI, oJ, oJ, oI, qi0, qi1, qj0, qj1, lN_mul, lN_mul]
  rcases cmpV (lN (qS u l a (i * 6 + l) / Nat.gcd (qC u l a (i * 6 + l)) (qS u l a (i * 6 + l)) * (qC u l a (j * 6 + l) / Nat.gcd (qC u l a (j * 6 + l)) (qS u l a (j * 6 + l))))) (lN (qS u l a (j * 6 + l) / Nat.gcd (qC u l a (j * 6 + l)) (qS u l a (j * 6 + l)) * (qC u l a (i * 6 + l) / Nat.gcd (qC u l a (i * 6 + l)) (qS u l a (i * 6 + l))))) w with ⟨z2, e2⟩ | ⟨z2, e2⟩ | ⟨z2, e2⟩
  · rw [pk_lT (by omega), pk_lT (by omega)] at z2
    rw [e2, ob_s, if_neg pm, if_pos pl]; exact Or.inr ⟨by unfold AH AHd; omega, rfl⟩
  rotate_left
  · rw [pk_lT (by omega), pk_lT (by omega)] at z2
    rw [e2, ob_s, if_neg nz_1, if_neg ng]; exact Or.inl ⟨by unfold AH AHd; omega, rfl⟩
  rw [pk_lT (by omega), pk_lT (by omega)] at z2
  rw [e2, ob_s, if_pos rfl, oI, oJ, pi, pj]
  by_cases C : prN u (i * 6 + l) = prN u (j * 6 + l)
  · rw [if_pos (by rw [C])]
    by_cases E : j ≤ i
    · rw [if_pos (nI_le E (by omega))]; exact Or.inr ⟨by unfold AH AHd; omega, rfl⟩
    · rw [if_neg (nI_ge (by omega) (by omega))]; exact Or.inl ⟨by unfold AH AHd; omega, rfl⟩
  · rw [if_neg (fun z => C ((nI_eq (by omega) (by omega)).mp z)), oI, oJ]
    by_cases E : prN u (j * 6 + l) ≤ prN u (i * 6 + l)
    · rw [if_pos (nI_le E (by omega))]; exact Or.inr ⟨by unfold AH AHd; omega, rfl⟩
    · rw [if_neg (nI_ge (by omega) (by omega))]; exact Or.inl ⟨by unfold AH AHd; omega, rfl⟩
end ST44
