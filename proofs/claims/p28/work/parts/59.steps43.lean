section ST43
variable {k n : Nat} {u v v2 w x y : SS}
/-! points: the same answers -/
/-- the class works a bidder who is in; the reference finds the same -/
theorem poV (h : RT k u v) {b l : Nat} (hb : b < 8) (hl : l < 6) (a : Int32) (hin : INC u l a b) (lv : LV u l a y) : (∃ (f : Fq) (z q : SS), f_X7_work (nI b) y = some z ∧ KD b y z ∧ f_X10_findPoints (nI (8 * l + b)) (0 : Int32) a v = some (1, q) ∧ PK v q ∧ fb f ∧ gA z 18 b = 0 ∧ gL z 2 b = iL f.1 ∧ gL z 3 b = lN f.2 ∧ gJ q 0 = iL f.1 ∧ gJ q 1 = lN f.2) ∨ (∃ z q : SS, f_X7_work (nI b) y = some z ∧ KD b y z ∧ f_X10_findPoints (nI (8 * l + b)) (0 : Int32) a v = some (0, q) ∧ PK v q ∧ gA z 18 b = 1) := by
  obtain ⟨d0, m0, hd0, hm0, e40, e70, -, D, lD, cD, dD, kD, vD⟩ := h.2.2.2.2.2.2.2.2.2.1
  have hN := LV_HN h hb hl hin lv
  obtain ⟨z, ez, kd, hz⟩ := woV (N := NM u l a b) (D := D) (w := y) hb hN (by omega) (by rw [lv.1.1 4 (by decide) (by decide) (by decide), lD]; exact e40) (fun j hj => by rw [lv.1.2 13 (by decide) (by decide) (by decide) (by decide)]; exact cD j (by omega)) dD kD
  obtain ⟨x, ex, px, nx⟩ := fnV h hb hl a hin
  obtain ⟨q, eq, hq⟩ := vD (NM u l a b) x nx (fun j hj => by rw [px.2 13 (by unfold kPA; omega)])
  obtain ⟨q2, eq2, mq⟩ := wtM14 hm0 px (NMI_N nx)
  rw [eq] at eq2
  have eq2 : q = q2 := Option.some.inj eq2
  subst eq2
  have e7x : gI x 7 = nI m0 := by rw [px.1 7 (by unfold kPI; omega)]; exact e70
  have o0 : ∀ {a : Option (Int32 × SS)}, oi (0 : Int32) 100 a = a := fun {a} => oi_nI (c := 0) (by decide) (by decide)
  have z0 : (0 : Int32).toNatClampNeg = 0 := rfl
  have fp : f_X10_findPoints (nI (8 * l + b)) (0 : Int32) a v = (if gI q 13 = 0 then some ((1 : Int32), sJ (sJ q 0 (gL q 2 0)) 1 (gL q 3 0)) else some ((0 : Int32), sJ (sJ q 0 (gL q 2 0)) 1 (gL q 3 0))) := by
    unfold f_X10_findPoints
    rw [ex, ov_s, e7x, eq, ov_s, o0, lt_e, o0, lt_e, z0]; rfl
  have g0 : gJ (sJ (sJ q 0 (gL q 2 0)) 1 (gL q 3 0)) 0 = gL q 2 0 := by rw [sJn (by decide), sJe]
  have g1 : gJ (sJ (sJ q 0 (gL q 2 0)) 1 (gL q 3 0)) 1 = gL q 3 0 := by rw [sJe]
  rcases hz with ⟨f, ef, bf, z18, z2, z3⟩ | ⟨en, z18⟩
  · rcases hq with ⟨f2, ef2, -, q13, q2, q3⟩ | ⟨en2, q13⟩
    · have e1 := Option.some.inj (ef.symm.trans ef2)
      have e1 : f = f2 := (List.cons.inj e1).1
      subst e1
      rw [if_pos q13] at fp
      exact Or.inl ⟨f, z, _, ez, kd, fp, PK_J (PK_J mq), bf, z18, z2, z3, g0.trans q2, g1.trans q3⟩
    · have e1 := ef.symm.trans en2
      cases e1
  · rcases hq with ⟨f2, ef2, -, q13, q2, q3⟩ | ⟨en2, q13⟩
    · have e1 := en.symm.trans ef2
      cases e1
    · rw [if_neg (by rw [q13]; exact nz_1)] at fp
      exact Or.inr ⟨z, _, ez, kd, fp, PK_J (PK_J mq), z18⟩
theorem st_pointsE (h : RT k u v) (b l n : Int32) : QQ (RT (k + 1)) (f_X9_points b l n u) (f_X10_points b l n v) := by
  obtain ⟨r, u2, r2, v2, e1, e2, hR, -⟩ := st_pointsT h b l n
  suffices key : ∃ A : Int64, TO (fun p : Int64 × SS => p.1 = A) (f_X9_points b l n u) ∧ TO (fun p : Int64 × SS => p.1 = A) (f_X10_points b l n v) by
    obtain ⟨A, ⟨⟨a1, w1⟩, q1, q2⟩, ⟨⟨a2, w2⟩, q3, q4⟩⟩ := key
    have q2 : a1 = A := q2
    have q4 : a2 = A := q4
    have c1 := (Prod.mk.inj (Option.some.inj (e1.symm.trans q1))).1
    have c2 := (Prod.mk.inj (Option.some.inj (e2.symm.trans q3))).1
    exact ⟨r, u2, r2, v2, e1, e2, hR, c1.trans (q2.trans (q4.symm.trans c2.symm))⟩
  clear e1 e2 hR
  obtain ⟨⟨t, L, ht, hL1, hL6, e0, e0m, e2, e2m, e1, e1c⟩, -⟩ := id h
  unfold f_X9_points f_X10_points f_X10_points_L15
  rcases in_c b 8 with ⟨i, hi, rfl⟩ | hb
  rotate_left
  · rw [noBid_f e2 hL6 (fun z => hb z.1), isBidder_f hb, ob_s, ob_s, if_neg nz_1, if_pos rfl, rlB rwd1, rlM rwd1, ob_s, ob_s]; exact ⟨_, to_s rfl, to_s rfl⟩
  rcases cl_c l L with ⟨j, hj, rfl⟩ | hl
  rotate_left
  · rw [noBid_f e2 hL6 (fun z => hl z.2), ob_s, if_neg nz_1, isBidder_t ⟨i, hi, rfl⟩, ob_s, if_neg nz_1, isLot_f e2m hL1 hL6 hl, ob_s, if_pos rfl, rlB rwd1, rlM rwd1, ob_s, ob_s]; exact ⟨_, to_s rfl, to_s rfl⟩
  have hj6 : j < 6 := by omega
  rw [noBid_t e2 hL6 ⟨⟨i, hi, rfl⟩, ⟨j, hj, rfl⟩⟩, ob_s, if_pos rfl, isBidder_t ⟨i, hi, rfl⟩, ob_s, if_neg nz_1, isLot_t e2m hL1 hL6 ⟨j, hj, rfl⟩, ob_s, if_neg nz_1]
  rcases in_c n 2 with ⟨m, hm, rfl⟩ | hn
  rotate_left
  · rw [noPart_f hn, in_f (c := 1) (n := 1) (by decide) (by decide) hn v, ob_s, ob_s, if_neg nz_1, if_pos rfl, rlB rwd2, rlM rwd2, ob_s, ob_s]; exact ⟨_, to_s rfl, to_s rfl⟩
  rw [noPart_t ⟨m, hm, rfl⟩, in_t (c := 1) (n := 1) (by decide) (by decide) ⟨m, hm, rfl⟩ v, ob_s, ob_s, if_pos rfl, if_neg nz_1, ceB, ob_s, cellB]
  have c48 : i * 6 + j < 48 := by omega
  rcases Std_c u (i * 6 + j) with s | s
  rotate_left
  · have a1 := h.2.2.2.1 i j hi hj6
    have b1 := h.2.2.2.2.1 i j hi hj6
    rw [stdB_f c48 a1.1.2 b1.1 s, ob_s, if_pos rfl, fl_0 h e2m hL1 hL6 hi hj s, ob_s, if_neg nl_m5, rlB rwd5, rlM rwd5, ob_s, ob_s]; exact ⟨_, to_s rfl, to_s rfl⟩
  rw [stdB_t c48 s, ob_s, if_neg nz_1, fl_1 h e2m hL1 hL6 hi hj s, ob_s, if_pos le_00, cellM]
  have hin : INC u j (-1) i := ⟨m1_n (by omega), s⟩
  obtain ⟨y, ey, lv⟩ := laV h hj6 (-1)
  rw [ey, ov_s]
  have cl : (nI i).toNatClampNeg = i := nI_clamp (by omega)
  rcases poV h hi hj6 (-1) hin lv with ⟨f, z, q, ez, -, eq, -, -, z18, z2, z3, q0, q1⟩ | ⟨z, q, ez, -, eq, -, z18⟩
  · rw [ez, ov_s, eq, ob_s, if_neg nz_1, oi_nI (by decide) hi, cl, z18, if_pos rfl, oi_nI (by decide) hi, oi_nI (by decide) hi, z2, z3, q0, q1]
    by_cases m0 : nI m = 0
    · rw [if_pos m0, if_pos m0]; exact ⟨_, to_s rfl, to_s rfl⟩
    · rw [if_neg m0, if_neg m0]; exact ⟨_, to_s rfl, to_s rfl⟩
  · rw [ez, ov_s, eq, ob_s, if_pos rfl, oi_nI (by decide) hi, cl, z18, if_neg nz_1, rlB rwd7, rlM rwd7, ob_s, ob_s]; exact ⟨_, to_s rfl, to_s rfl⟩
end ST43
