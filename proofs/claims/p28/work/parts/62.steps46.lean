section ST46
variable {k n : Nat} {u v v2 w x y : SS}
/-! turned: the same answers -/
theorem KRW_0 (w : SS) : KRW w w := ⟨fun _ _ _ _ => rfl, fun _ _ _ => rfl, fun _ _ _ => rfl, fun _ _ _ _ _ => rfl⟩
theorem FW_d {b : Nat} (f : FW u w) (d : KD b w y) : FW u y := ⟨fun i a b c => (d.1 i a c).trans (f.1 i a b c), fun i q1 q2 q3 q4 => (d.2.1 i q4).trans (f.2 i q1 q2 q3 q4)⟩
theorem woP (h : RT k u v) {D : List Int32} (cd : cvD u v D) {b l : Nat} (hb : b < 8) (hl : l < 6) {a : Int32} (ib : INC u l a b) (lv : LV u l a w) (f : KRW w y) : ∃ z : SS, f_X7_work (nI b) y = some z ∧ KD b y z ∧ ((evl (NM u l a b) D = some [PV u D l a b] ∧ WKd u D l a b z ∧ gA z 18 b = 0) ∨ (evl (NM u l a b) D = none ∧ gA z 18 b = 1)) := by
  obtain ⟨c1, c2, c3, c4, c5, -⟩ := cd
  have hN := HN_w f (LV_HN h hb hl ib lv)
  obtain ⟨z, ez, kd, hz⟩ := woV (N := NM u l a b) (D := D) (w := y) hb hN c1 (by rw [f.1 4 (by decide) (by decide) (by decide), lv.1.1 4 (by decide) (by decide) (by decide)]; exact c2) (fun j hj => by rw [f.2.1 13 (by decide) (by decide), lv.1.2 13 (by decide) (by decide) (by decide) (by decide)]; exact c3 j hj) c4 c5
  refine ⟨z, ez, kd, ?_⟩
  rcases hz with ⟨g, eg, bg, z18, z2, z3⟩ | ⟨en, z18⟩
  · have ep : PV u D l a b = g := PV_e eg
    refine Or.inl ⟨by rw [ep]; exact eg, ?_, z18⟩
    unfold WKd
    rw [ep]; exact ⟨z2, z3, bg⟩
  · exact Or.inr ⟨en, z18⟩
/-- a pair worked and compared by both -/
theorem prV (h : RT k u v) {i j l : Nat} (hi : i < 8) (hj : j < 8) (hl : l < 6) (hne : i ≠ j) (a : Int32) (ii : INC u l a i) (ij : INC u l a j) : ∃ y : SS, f_X9_workPair (nI l) (nI i) (nI j) a u = some y ∧ FW u y ∧ ((gA y 18 i = 1 ∧ ∃ q : SS, PK v q ∧ f_X10_findPoints (nI (8 * l + i)) (0 : Int32) a v = some (0, q)) ∨ (gA y 18 i = 0 ∧ gA y 18 j = 1 ∧ ∃ q1 q : SS, PK v q ∧ f_X10_findPoints (nI (8 * l + i)) (0 : Int32) a v = some (1, q1) ∧ f_X10_findPoints (nI (8 * l + j)) (0 : Int32) a q1 = some (0, q)) ∨ (gA y 18 i = 0 ∧ gA y 18 j = 0 ∧ ∃ q1 q2 : SS, f_X10_findPoints (nI (8 * l + i)) (0 : Int32) a v = some (1, q1) ∧ f_X10_findPoints (nI (8 * l + j)) (0 : Int32) a q1 = some (1, q2) ∧ (∃ (r : Int32) (q : SS), bo r ∧ PK v q ∧ f_X7_isAhead (nI i) (nI j) y = some (r, y) ∧ f_X10_isAhead (nI (8 * l + i)) (nI (8 * l + j)) a q2 = some (r, q)) ∧ (∃ (r : Int32) (q : SS), bo r ∧ PK v q ∧ f_X7_isAhead (nI j) (nI i) y = some (r, y) ∧ f_X10_isAhead (nI (8 * l + j)) (nI (8 * l + i)) a q2 = some (r, q)))) := by
  obtain ⟨D, cd⟩ := cvD_o h
  obtain ⟨y, ey, lv⟩ := laV h hl a
  obtain ⟨z1, e1, k1, g1⟩ := woP h cd hi hl ii lv (KRW_0 y)
  obtain ⟨z2, e2, k2, g2⟩ := woP h cd hj hl ij lv (KRW_d (KRW_0 y) k1)
  have f2 : FW u z2 := FW_d (FW_d lv.1 k1) k2
  obtain ⟨s18, s2, s3⟩ := k2.2.2.1 i hne
  have ew : f_X9_workPair (nI l) (nI i) (nI j) a u = some z2 := by
    unfold f_X9_workPair
    rw [ey, ov_s, e1, ov_s, e2, ov_s]
  have kr : KRW y z2 := KRW_d (KRW_d (KRW_0 y) k1) k2
  refine ⟨z2, ew, f2, ?_⟩
  obtain ⟨q1, m1, p1⟩ := fpV h cd hi hl a ii
  have h1 := RT_mk h (PK_mk m1)
  have cd1 := cvD_m cd (PK_mk m1)
  rcases g1 with ⟨v1, w1, t1⟩ | ⟨n1, t1⟩
  rotate_left
  · rcases p1 with ⟨v1, -⟩ | ⟨-, p1⟩
    · rw [n1] at v1; cases v1
    · exact Or.inl ⟨by rw [s18]; exact t1, q1, m1, p1⟩
  rcases p1 with ⟨-, -, p1, -, -⟩ | ⟨n1, -⟩
  rotate_left
  · rw [v1] at n1; cases n1
  obtain ⟨q2, m2, p2⟩ := fpV h1 cd1 hj hl a ij
  have M2 : PK v q2 := PK_t m1 m2
  rcases g2 with ⟨v2, w2, t2⟩ | ⟨n2, t2⟩
  rotate_left
  · rcases p2 with ⟨v2, -⟩ | ⟨-, p2⟩
    · rw [n2] at v2; cases v2
    · exact Or.inr (Or.inl ⟨by rw [s18]; exact t1, t2, q1, q2, M2, p1, p2⟩)
  rcases p2 with ⟨-, -, p2, -, -⟩ | ⟨n2, -⟩
  rotate_left
  · rw [v2] at n2; cases n2
  have h2 := RT_mk h (PK_mk M2)
  have cd2 := cvD_m cd (PK_mk M2)
  have wi : WKd u D l a i z2 := by
    unfold WKd
    rw [s2, s3]; exact w1
  have qz : QLT u l a 8 z2 := fun b hb => by rw [kr.2.2.2 0 (by decide) (by decide) (by decide) (by decide), kr.2.2.2 1 (by decide) (by decide) (by decide) (by decide)]; exact lv.2.2.2.1 b hb
  have pi : gA z2 17 i = nI (prN u (i * 6 + l)) := by rw [kr.2.1 17 (by decide) (by decide)]; exact lv.2.2.1 i hi ii
  have pj : gA z2 17 j = nI (prN u (j * 6 + l)) := by rw [kr.2.1 17 (by decide) (by decide)]; exact lv.2.2.1 j hj ij
  refine Or.inr (Or.inr ⟨by rw [s18]; exact t1, t2, q1, q2, p1, p2, ?_, ?_⟩)
  · obtain ⟨q, mq, g⟩ := iaR h2 cd2 hi hj hl a ii ij v1 v2
    rcases iaC h hi hj hl a wi w2 qz pi pj with ⟨ah, ec⟩ | ⟨ah, ec⟩
    · rcases g with ⟨-, er⟩ | ⟨na, -⟩
      · exact ⟨1, q, Or.inr rfl, PK_t M2 mq, ec, er⟩
      · exact absurd ah na
    · rcases g with ⟨na, -⟩ | ⟨-, er⟩
      · exact absurd na ah
      · exact ⟨0, q, Or.inl rfl, PK_t M2 mq, ec, er⟩
  · obtain ⟨q, mq, g⟩ := iaR h2 cd2 hj hi hl a ij ii v2 v1
    rcases iaC h hj hi hl a w2 wi qz pj pi with ⟨ah, ec⟩ | ⟨ah, ec⟩
    · rcases g with ⟨-, er⟩ | ⟨na, -⟩
      · exact ⟨1, q, Or.inr rfl, PK_t M2 mq, ec, er⟩
      · exact absurd ah na
    · rcases g with ⟨na, -⟩ | ⟨-, er⟩
      · exact absurd na ah
      · exact ⟨0, q, Or.inl rfl, PK_t M2 mq, ec, er⟩
theorem tuL (h : RT k u v) {i q l : Nat} (hi : i < 8) (hq : q < 8) (hl : l < 6) (hne : i ≠ q) (si : Std u (i * 6 + l)) (sq : Std u (q * 6 + l)) : ∀ (m n F1 F2 : Nat) (y z : SS), n + m = 8 → m < F1 → m < F2 → FW u y → PK v z → ∃ A : Int32, TO (fun p : Int32 × SS => p.1 = A) (f_X9_turned_L114 F1 (nI l) (nI i) (nI q) (nI n) y) ∧ TO (fun p : Int32 × SS => p.1 = A) (f_X10_turned_L125 F2 (nI l) (nI i) (nI q) (nI (8 * l + i)) (nI (8 * l + q)) (nI n) z) := by
  intro m
  induction m with
  | zero =>
    intro n F1 F2 y z hn h1 h2 f g
    have n8 : n = 8 := by omega
    subst n8
    match F1, h1, F2, h2 with
    | F1 + 1, _, F2 + 1, _ =>
      refine ⟨-9, ?_, ?_⟩
      · show TO _ (b_X9_turned_L114 (f_X9_turned_L114 F1) (nI l) (nI i) (nI q) (nI 8) y)
        unfold b_X9_turned_L114
        rw [if_pos (show (8 : Int32) ≤ nI 8 by decide)]; exact to_s rfl
      · show TO _ (b_X10_turned_L125 (f_X10_turned_L125 F2) (nI l) (nI i) (nI q) (nI (8 * l + i)) (nI (8 * l + q)) (nI 8) z)
        unfold b_X10_turned_L125
        rw [if_pos (show (8 : Int32) ≤ nI 8 by decide)]; exact to_s rfl
  | succ m ih =>
    intro n F1 F2 y z hn h1 h2 f g
    match F1, h1, F2, h2 with
    | F1 + 1, h1, F2 + 1, h2 =>
      have hn8 : n < 8 := by omega
      have go : ∀ (y2 z2 : SS), FW u y2 → PK v z2 → ∃ A : Int32, TO (fun p : Int32 × SS => p.1 = A) (lt (nI n + (1 : Int32)) fun x27 => f_X9_turned_L114 F1 (nI l) (nI i) (nI q) x27 y2) ∧ TO (fun p : Int32 × SS => p.1 = A) (lt (nI n + (1 : Int32)) fun x36 => f_X10_turned_L125 F2 (nI l) (nI i) (nI q) (nI (8 * l + i)) (nI (8 * l + q)) x36 z2) := by
        intro y2 z2 f2 g2
        rw [lt_e, lt_e, nI_1]
        exact ih (n + 1) F1 F2 y2 z2 (by omega) (by omega) (by omega) f2 g2
      show ∃ A : Int32, TO _ (b_X9_turned_L114 (f_X9_turned_L114 F1) (nI l) (nI i) (nI q) (nI n) y) ∧ TO _ (b_X10_turned_L125 (f_X10_turned_L125 F2) (nI l) (nI i) (nI q) (nI (8 * l + i)) (nI (8 * l + q)) (nI n) z)
      unfold b_X9_turned_L114 b_X10_turned_L125 f_X10_turned_L162 f_X10_turned_L163 f_X9_turned_L197 f_X10_turned_L210
      rw [if_neg (show ¬ (8 : Int32) ≤ nI n from nI_ge (b := 8) hn8 (by decide)), if_neg (show ¬ (8 : Int32) ≤ nI n from nI_ge (b := 8) hn8 (by decide))]
      by_cases c1 : nI n = nI i
      · rw [if_pos c1, if_pos c1, if_pos rfl]; exact go y z f g
      rw [if_neg c1, if_neg c1]
      by_cases c2 : nI n = nI q
      · rw [if_pos c2, if_pos c2, if_pos rfl]; exact go y z f g
      rw [if_neg c2, if_neg c2, ceB, ob_s, cellB, cellM]
      have hy : RT k y v := RT_b h (FW_b f)
      have hyz : RT k y z := RT_mk hy (PK_mk g)
      have c48 : n * 6 + l < 48 := by omega
      rcases Std_c y (n * 6 + l) with s | s
      rotate_left
      · have a1 := hyz.2.2.2.1 n l hn8 hl
        have b1 := hyz.2.2.2.2.1 n l hn8 hl
        rw [stdB_f c48 a1.1.2 b1.1 s, ob_s, if_pos rfl, dsM_f hyz hn8 hl s, ob_s, if_pos rfl, if_pos rfl]; exact go y z f g
      rw [stdB_t c48 s, ob_s, if_neg nz_1, dsM_t hyz hn8 hl s, ob_s, if_neg nz_1, if_neg nz_1]
      have ii : INC y l (nI n) i := ⟨fun e => c1 e.symm, (Std_f f).mpr si⟩
      have iq : INC y l (nI n) q := ⟨fun e => c2 e.symm, (Std_f f).mpr sq⟩
      have oI : ∀ {x : Option (Int32 × SS)}, oi (nI i) 8 x = x := fun {x} => oi_nI (by decide) hi
      have oQ : ∀ {x : Option (Int32 × SS)}, oi (nI q) 8 x = x := fun {x} => oi_nI (by decide) hq
      have ci : (nI i).toNatClampNeg = i := nI_clamp (by omega)
      have cq : (nI q).toNatClampNeg = q := nI_clamp (by omega)
      obtain ⟨p, ep, fp, hp⟩ := prV hyz hi hq hl hne (nI n) ii iq
      have f2 : FW u p := FW_t f fp
      rw [ep, ov_s, oI, ci]
      rcases hp with ⟨t1, q1, m1, p1⟩ | ⟨t1, t2, q1, q2, m2, p1, p2⟩ | ⟨t1, t2, q1, q2, p1, p2, -, r, q3, br, m3, ec, er⟩
      · rw [t1, if_neg nz_1, p1, ob_s, if_pos rfl]; exact go p q1 f2 (PK_t g m1)
      · rw [t1, if_pos rfl, oQ, cq, t2, if_neg nz_1, p1, ob_s, if_neg nz_1, p2, ob_s, if_pos rfl]; exact go p q2 f2 (PK_t g m2)
      · rw [t1, if_pos rfl, oQ, cq, t2, if_pos rfl, ec, ob_s, p1, ob_s, if_neg nz_1, p2, ob_s, if_neg nz_1, er, ob_s]
        rcases br with z0 | z0
        · rw [z0, if_pos rfl, if_pos rfl]; exact go p q3 f2 (PK_t g m3)
        · rw [z0, if_neg nz_1, if_neg nz_1]; exact ⟨_, to_s rfl, to_s rfl⟩
theorem st_turnedE (h : RT k u v) (l a b : Int32) : QQ (RT (k + 1)) (f_X9_turned l a b u) (f_X10_turned l a b v) := by
  obtain ⟨r, u2, r2, v2, e1, e2, hR, -⟩ := st_turnedT h l a b
  suffices key : ∃ A : Int32, TO (fun p : Int32 × SS => p.1 = A) (f_X9_turned l a b u) ∧ TO (fun p : Int32 × SS => p.1 = A) (f_X10_turned l a b v) by
    obtain ⟨A, ⟨⟨a1, w1⟩, q1, q2⟩, ⟨⟨a2, w2⟩, q3, q4⟩⟩ := key
    have q2 : a1 = A := q2
    have q4 : a2 = A := q4
    have c1 := (Prod.mk.inj (Option.some.inj (e1.symm.trans q1))).1
    have c2 := (Prod.mk.inj (Option.some.inj (e2.symm.trans q3))).1
    exact ⟨r, u2, r2, v2, e1, e2, hR, c1.trans (q2.trans (q4.symm.trans c2.symm))⟩
  clear e1 e2 hR
  obtain ⟨⟨t, L, ht, hL1, hL6, e0, e0m, e2, e2m, e1, e1c⟩, -⟩ := id h
  unfold f_X9_turned f_X10_turned f_X9_turned_L46 f_X9_turned_L85 f_X10_turned_L27 f_X10_turned_L67 f_X10_turned_L96
  rcases npB h e2 hL6 l a b with ⟨e, ne⟩ | ⟨e, ⟨j, hj, rfl⟩, ⟨i, hi, rfl⟩, ⟨q, hq, rfl⟩, hab⟩
  · rw [e, ob_s, if_neg nz_1, rfB rwd1, ob_s]
    refine ⟨-1, to_s rfl, ?_⟩
    have rf1 : TO (fun p : Int32 × SS => p.1 = -1) (ob (f_X10_refuse (-1 : Int32) v) fun r6 u5 => some (r6, u5)) := by
      rw [rfM rwd1, ob_s]; exact to_s rfl
    by_cases c1 : rg L l
    rotate_left
    · rw [isLot_f e2m hL1 hL6 c1, ob_s, if_pos rfl]; exact rf1
    rw [isLot_t e2m hL1 hL6 c1, ob_s, if_neg nz_1]
    by_cases c2 : rg 8 a
    rotate_left
    · rw [isBidder_f c2, ob_s, if_pos rfl]; exact rf1
    rw [isBidder_t c2, ob_s, if_neg nz_1]
    by_cases c3 : rg 8 b
    rotate_left
    · rw [isBidder_f c3, ob_s, if_pos rfl]; exact rf1
    rw [isBidder_t c3, ob_s, if_neg nz_1]
    by_cases c4 : a = b
    · rw [if_pos c4]; exact rf1
    · exact absurd ⟨c1, c2, c3, c4⟩ ne
  have hj6 : j < 6 := by omega
  have hne : i ≠ q := fun z => hab (by rw [z])
  rw [e, ob_s, if_pos rfl, ceB, ob_s, cellB, isLot_t e2m hL1 hL6 ⟨j, hj, rfl⟩, ob_s, if_neg nz_1, isBidder_t ⟨i, hi, rfl⟩, ob_s, if_neg nz_1, isBidder_t ⟨q, hq, rfl⟩, ob_s, if_neg nz_1, if_neg hab, cellM, cellM, lt_e, lt_e]
  have ci48 : i * 6 + j < 48 := by omega
  have cq48 : q * 6 + j < 48 := by omega
  rcases Std_c u (i * 6 + j) with si | si
  rotate_left
  · have a1 := h.2.2.2.1 i j hi hj6
    have b1 := h.2.2.2.2.1 i j hi hj6
    rw [stdB_f ci48 a1.1.2 b1.1 si, ob_s, if_pos rfl, dsM_f h hi hj6 si, ob_s, if_pos rfl, rfB rwd5, rfM rwd5, ob_s, ob_s]; exact ⟨_, to_s rfl, to_s rfl⟩
  rw [stdB_t ci48 si, ob_s, if_neg nz_1, dsM_t h hi hj6 si, ob_s, if_neg nz_1, ceB, ob_s, cellB]
  rcases Std_c u (q * 6 + j) with sq | sq
  rotate_left
  · have a1 := h.2.2.2.1 q j hq hj6
    have b1 := h.2.2.2.2.1 q j hq hj6
    rw [stdB_f cq48 a1.1.2 b1.1 sq, ob_s, if_pos rfl, dsM_f h hq hj6 sq, ob_s, if_pos rfl, rfB rwd5, rfM rwd5, ob_s, ob_s]; exact ⟨_, to_s rfl, to_s rfl⟩
  rw [stdB_t cq48 sq, ob_s, if_neg nz_1, dsM_t h hq hj6 sq, ob_s, if_neg nz_1]
  have oI : ∀ {x : Option (Int32 × SS)}, oi (nI i) 8 x = x := fun {x} => oi_nI (by decide) hi
  have oQ : ∀ {x : Option (Int32 × SS)}, oi (nI q) 8 x = x := fun {x} => oi_nI (by decide) hq
  have ci : (nI i).toNatClampNeg = i := nI_clamp (by omega)
  have cq : (nI q).toNatClampNeg = q := nI_clamp (by omega)
  obtain ⟨p, ep, fp, hp⟩ := prV h hi hq hj6 hne (-1) ⟨m1_n (by omega), si⟩ ⟨m1_n (by omega), sq⟩
  rw [ep, ov_s, oI, ci]
  rcases hp with ⟨t1, q1, m1, p1⟩ | ⟨t1, t2, q1, q2, m2, p1, p2⟩ | ⟨t1, t2, q1, q2, p1, p2, ⟨r3, q3, br, m3, ec, er⟩, -⟩
  · rw [t1, if_neg nz_1, p1, ob_s, if_pos rfl, rfB rwd7, rfM rwd7, ob_s, ob_s]; exact ⟨_, to_s rfl, to_s rfl⟩
  · rw [t1, if_pos rfl, oQ, cq, t2, if_neg nz_1, p1, ob_s, if_neg nz_1, p2, ob_s, if_pos rfl, rfB rwd7, rfM rwd7, ob_s, ob_s]; exact ⟨_, to_s rfl, to_s rfl⟩
  · rw [t1, if_pos rfl, oQ, cq, t2, if_pos rfl, ec, ob_s, p1, ob_s, if_neg nz_1, p2, ob_s, if_neg nz_1, er, ob_s]
    rcases br with z0 | z0
    · rw [z0, if_pos rfl, if_pos rfl, rfB rwd3, rfM rwd3, ob_s, ob_s]; exact ⟨_, to_s rfl, to_s rfl⟩
    · rw [z0, if_neg nz_1, if_neg nz_1]
      exact tuL h hi hq hj6 hne si sq 8 0 FU FU p q3 rfl (Nat.lt_trans (by decide) FU_ge) (Nat.lt_trans (by decide) FU_ge) fp m3
end ST46
