section ST27
variable {k n : Nat} {u v v2 w x y : SS}
theorem qn_wk {α : Type} {x y : Option (α × SS)} (h : RT k u v) (hb : TO (fun p => FrB u p.2) x) (hm : TO (fun p => MK v p.2 ∨ (¬ Opn u ∧ WK v p.2)) y) : QN (RT (k + 1)) x y := by
  obtain ⟨⟨r, u2⟩, e, f⟩ := hb
  obtain ⟨⟨r2, v2⟩, e2, f2⟩ := hm
  refine ⟨r, u2, r2, v2, e, e2, ?_, trivial⟩
  rcases f2 with f2 | ⟨no, f2⟩
  · exact RT_s (RT_mk (RT_b h f) f2)
  · exact RT_s (RT_b (RT_wk h no f2) f)
theorem opM_c (h : RT k u v) : (Opn u ∧ f_X10_isOpen v = some (1, v)) ∨ (¬ Opn u ∧ f_X10_isOpen v = some (0, v)) := by
  rcases Opn_dec u with ho | ho
  · exact Or.inl ⟨ho, opM_t h.1 ho⟩
  · exact Or.inr ⟨ho, opM_f h.1 ho⟩
theorem whM_T (h : RT k u v) (n : Int32) : TO (fun p : Int32 × SS => MK v p.2 ∨ (¬ Opn u ∧ WK v p.2)) (f_X10_whole n v) := by
  unfold f_X10_whole
  refine to_b (in01 n v) (fun a w hw => ?_)
  have hw : w = v := hw
  subst hw
  refine to_c (fun _ => to_w (rfM3 rwd2 (MK_r w)) (fun _ q => Or.inl q)) (fun _ => ?_)
  rcases opM_c h with ⟨ho, e⟩ | ⟨ho, e⟩
  · rw [e, ob_s, if_neg nz_1]; exact to_w (rfM3 rwd3 (MK_r w)) (fun _ q => Or.inl q)
  · rw [e, ob_s, if_pos rfl]
    exact to_v (fwT h ho) (fun y hy => to_c (fun _ => to_s (Or.inr ⟨ho, hy⟩)) (fun _ => to_s (Or.inr ⟨ho, hy⟩)))
theorem st_wholeT (h : RT k u v) (n : Int32) : QN (RT (k + 1)) (f_X9_whole n u) (f_X10_whole n v) := qn_wk h (whB_T h n) (whM_T h n)
theorem wiM_T (h : RT k u v) (l : Int32) : TO (fun p : Int32 × SS => MK v p.2 ∨ (¬ Opn u ∧ WK v p.2)) (f_X10_winner l v) := by
  obtain ⟨⟨t, L, ht, hL1, hL6, e0, e0m, e2, e2m, e1, e1c⟩, -⟩ := id h
  unfold f_X10_winner
  rcases cl_c l L with ⟨j, hj, rfl⟩ | hl
  rotate_left
  · rw [isLot_f e2m hL1 hL6 hl, ob_s, if_pos rfl]; exact to_w (rfM3 rwd1 (MK_r v)) (fun _ q => Or.inl q)
  rw [isLot_t e2m hL1 hL6 ⟨j, hj, rfl⟩, ob_s, if_neg nz_1]
  rcases opM_c h with ⟨ho, e⟩ | ⟨ho, e⟩
  · rw [e, ob_s, if_neg nz_1]; exact to_w (rfM3 rwd3 (MK_r v)) (fun _ q => Or.inl q)
  · rw [e, ob_s, if_pos rfl]
    exact to_v (fwT h ho) (fun y hy => to_i (by decide) ⟨j, by omega, rfl⟩ (to_s (Or.inr ⟨ho, hy⟩)))
theorem st_winnerT (h : RT k u v) (l : Int32) : QN (RT (k + 1)) (f_X9_winner l u) (f_X10_winner l v) := qn_wk h (wiB_T h l) (wiM_T h l)
/-! award -/
theorem RT_aw (hk : k < 1000000) (h : RT k u v) (no : ¬ Opn u) (h15 : gI u 15 = 0) (s : Int32) : RT (k + 1) (sI (sI (sI u 15 1) 19 s) 18 (gI u 18 + 1)) (sI (sI v 22 1) 24 s) := by
  obtain ⟨hz, e22, b15, e23, b16, e24, r, hr, e18, c, hc, e17, e25, hz0, hq⟩ := h.2.2.2.2.2.2.2.2.2.2.2.1
  refine RR_ch h (fun i i1 i2 i3 i4 i5 => ?_) (fun a _ _ _ _ => rfl) rfl (fun i i1 i2 i3 i4 => ?_) (fun a _ _ _ => rfl) ?_ (fun _ => trivial)
  · rw [sIn i4, sIn i5, sIn i1]
  · rw [sIn i3, sIn i1]
  refine ⟨fun z => absurd z no, rfl, Or.inr rfl, e23, b16, rfl, r + 1, by omega, ?_, c, hc, e17, e25, hz0, fun i hi => ?_⟩
  · rw [sIe, e18, nI_1]
  · obtain ⟨a1, a2, a3, a4, a5, ⟨q, hq2, a6⟩, a7⟩ := hq i hi
    refine ⟨a1, a2, a3, a4, a5, ⟨q, by omega, a6⟩, ?_⟩
    rw [h15, if_neg (fun z => n01 z.1)] at a7
    show gA v 29 i = _
    rw [a7]
    refine (if_neg (fun z => ?_)).symm
    have z3 : gA u 29 i = gI u 18 + 1 := z.2.2
    rw [a6, e18, nI_1] at z3
    have := (nI_eq (by omega) (by omega)).mp z3
    omega
theorem aw79 (h : RT k u v) (hw : WN u) : TO (fun p : Int32 × SS => FrB u p.2) (f_X9_award_L79 FU (0 : Int32) u) := by
  refine loopR (fun F (x : Int32 × SS) => f_X9_award_L79 F x.1 x.2) (fun i x => x.1 = nI i ∧ FrB u x.2 ∧ gA x.2 21 = gA u 21) _ 6 ?_ (F := FU) (x := ((0 : Int32), u)) (Nat.lt_trans (by decide) FU_ge) ⟨rfl, FrB_r u, rfl⟩
  intro F x i hi hI hc2
  obtain ⟨b2, y⟩ := x
  obtain ⟨e, f, e21⟩ := hI
  have e : b2 = nI i := e
  subst e
  have f : FrB u y := f
  have e21 : gA y 21 = gA u 21 := e21
  show TO _ (b_X9_award_L79 (f_X9_award_L79 F) (nI i) y)
  unfold b_X9_award_L79 f_X9_award_L123 f_X0_give
  refine to_c (fun _ => to_s f) (fun c1 => ?_)
  have hi2 : i < 6 := ltn (n := 6) (by omega) c1
  have r6 : rg 6 (nI i) := ⟨i, hi2, rfl⟩
  have st : ∀ p q : Int32, TO (fun p : Int32 × SS => FrB u p.2) (ov (oi (nI i) 6 (lt (tA y 25 (nI i) q) fun u1 => oi (nI i) 6 (lt (tA u1 30 (nI i) p) fun u2 => some u2))) fun u22 => lt (nI i + (1 : Int32)) fun x23 => f_X9_award_L79 F x23 u22) := by
    intro p q
    rw [oi_in (by decide) r6, lt_e, oi_in (by decide) r6, lt_e, ov_s, lt_e, nI_1]
    refine hc2 (nI (i + 1), _) hi2 ⟨rfl, FrB_A (by unfold kBA; omega) (FrB_A (by unfold kBA; omega) f), ?_⟩
    show gA (tA (tA y 25 (nI i) q) 30 (nI i) p) 21 = _
    rw [tAn (by decide), tAn (by decide)]; exact e21
  refine to_i (by decide) r6 ?_
  rw [lt_e, nI_clamp (by omega), e21]
  refine to_c (fun _ => st _ _) (fun c => ?_)
  obtain ⟨q, hq, eq⟩ := (hw i hi2).resolve_left c
  rw [eq, ceB, ob_s, cellB, prB (show q * 6 + i < 48 by omega) (BD_c (RT_b h f) (by omega)), ob_s]
  exact st _ _
theorem aw72 (h : RT k u v) : TO (fun p : Int32 × SS => RT k u p.2) (f_X10_award_L72 FU (0 : Int32) v) := by
  obtain ⟨⟨t, L, ht, hL1, hL6, e0, e0m, e2, e2m, e1, e1c⟩, -⟩ := id h
  refine loopR (fun F (x : Int32 × SS) => f_X10_award_L72 F x.1 x.2) (fun i x => x.1 = nI i ∧ RT k u x.2) _ 6 ?_ (F := FU) (x := ((0 : Int32), v)) (Nat.lt_trans (by decide) FU_ge) ⟨rfl, h⟩
  intro F x i hi hI hc2
  obtain ⟨b2, y⟩ := x
  obtain ⟨e, f⟩ := hI
  have e : b2 = nI i := e
  subst e
  have f : RT k u y := f
  show TO _ (b_X10_award_L72 (f_X10_award_L72 F) (nI i) y)
  unfold b_X10_award_L72 f_X10_award_L102 f_X10_award_L136
  refine to_c (fun _ => to_s f) (fun c1 => ?_)
  have hi2 : i < 6 := ltn (n := 6) (by omega) c1
  have r6 : rg 6 (nI i) := ⟨i, hi2, rfl⟩
  have up : ∀ q : Int32, nob q → RT k u (tA y 24 (nI i) q) := by
    intro q hq
    refine RT_f (Nat.le_refl _) f (FrB_r u) (FrM_A (by unfold kMA; omega) (FrM_r y)) ?_ (fun l hl => ?_) ?_ ?_
    · rw [tAn (by decide)]; exact f.2.2.2.2.2.2.2.2.2.2.2.2.2.1
    · rw [tAe, nI_clamp (by omega)]
      by_cases z : l = i
      · rw [z, upd_s]; exact hq
      · rw [upd_n _ _ z]; exact f.2.2.2.2.2.2.2.2.2.2.2.2.2.2.1 l hl
    · exact f.2.2.2.2.2.2.2.2.2.2.2.2.2.2.2.1
    · exact f.2.2.2.2.2.2.2.2.2.2.2.2.2.2.2.2.1
  have L102 : ∀ q : Int32, nob q → TO (fun p : Int32 × SS => RT k u p.2) (oi (nI i) 6 (lt (tA y 24 (nI i) q) fun u14 => oi (nI i) 6 (if 0 ≤ (gA u14 24 (nI i).toNatClampNeg) then (oi (nI i) 6 (ob (f_X10_priceOf (((8 : Int32) * nI i) + (gA u14 24 (nI i).toNatClampNeg)) u14) fun r17 u16 => (oi (nI i) 6 (lt (tA u16 25 (nI i) r17) fun u18 => oi (nI i) 6 (lt (tA u18 26 (nI i) (0 : Int32)) fun u19 => lt (nI i + (1 : Int32)) fun x20 => f_X10_award_L72 F x20 u19))))) else ((oi (nI i) 6 (lt (tA u14 25 (nI i) (0 : Int32)) fun u18 => oi (nI i) 6 (lt (tA u18 26 (nI i) (0 : Int32)) fun u19 => lt (nI i + (1 : Int32)) fun x20 => f_X10_award_L72 F x20 u19)))))) ) := by
    intro q hq
    have hz := up q hq
    have st : ∀ p : Int32, TO (fun p : Int32 × SS => RT k u p.2) (oi (nI i) 6 (lt (tA (tA y 24 (nI i) q) 25 (nI i) p) fun u18 => oi (nI i) 6 (lt (tA u18 26 (nI i) (0 : Int32)) fun u19 => lt (nI i + (1 : Int32)) fun x20 => f_X10_award_L72 F x20 u19))) := by
      intro p
      refine to_i (by decide) r6 (to_l (to_i (by decide) r6 (to_l ?_)))
      rw [lt_e, nI_1]
      refine hc2 (nI (i + 1), tA (tA (tA y 24 (nI i) q) 25 (nI i) p) 26 (nI i) 0) hi2 ⟨rfl, RT_m hz (FrM_A (by unfold kMA; omega) (FrM_A (by unfold kMA; omega) (FrM_r _))) ?_ ?_ rfl⟩
      · show gA (tA (tA (tA y 24 (nI i) q) 25 (nI i) p) 26 (nI i) 0) 18 = _
        rw [tAn (by decide), tAn (by decide)]
      · show gA (tA (tA (tA y 24 (nI i) q) 25 (nI i) p) 26 (nI i) 0) 24 = _
        rw [tAn (by decide), tAn (by decide)]
    refine to_i (by decide) r6 (to_l (to_i (by decide) r6 ?_))
    rw [tAe, nI_clamp (show i < 2 ^ 31 by omega), upd_s]
    refine to_c (fun c => ?_) (fun _ => st _)
    have hq2 : eN 7 q := hq.resolve_left (fun z => by rw [z] at c; exact absurd c nl_m9)
    obtain ⟨m, hm, em⟩ := hq2
    subst em
    rw [cellM]
    obtain ⟨pp, -, -, ep⟩ := pr_c hz (show 8 * i + m < 48 by omega)
    rw [ep, ob_s]
    exact to_i (by decide) r6 (st _)
  refine to_c (fun _ => L102 _ (Or.inl rfl)) (fun _ => to_i (by decide) r6 ?_)
  refine L102 _ ?_
  rw [nI_clamp (by omega)]
  exact f.2.2.2.2.2.2.2.2.2.2.2.2.2.1 i hi2
theorem st_awardT (hk : k < 1000000) (h : RT k u v) (n : Int32) : QN (RT (k + 1)) (f_X9_award n u) (f_X10_award n v) := by
  have hA : FDok (fun _ _ : SS => True) := fun _ _ _ _ _ _ _ => trivial
  obtain ⟨⟨t, L, ht, hL1, hL6, e0, e0m, e2, e2m, e1, e1c⟩, -⟩ := id h
  obtain ⟨hz, e22, b15, e23, b16, e24, -⟩ := h.2.2.2.2.2.2.2.2.2.2.2.1
  unfold f_X9_award f_X10_award f_X9_award_L9 f_X9_award_L36 f_X10_award_L30
  rcases in_c n 2 with ⟨i, hi, rfl⟩ | hn
  rotate_left
  · rw [in_f (c := 1) (n := 1) (by decide) (by decide) hn v, ob_s, if_pos rfl]
    by_cases c1 : n < 0
    · rw [if_pos c1, rfB rwd2, rfM rwd2]; exact qn_rf hA h _
    · rw [if_neg c1, if_neg (show ¬ n ≤ (1 : Int32) from fun z => hn (rg_mk (by decide) c1 ((le_nI (n := 1) (by decide)).mp z))), rfB rwd2, rfM rwd2]; exact qn_rf hA h _
  rw [in_t (c := 1) (n := 1) (by decide) (by decide) ⟨i, hi, rfl⟩ v, ob_s, if_neg nz_1, if_neg (nI_pos (by omega)), if_pos (show nI i ≤ (1 : Int32) from nI_le (b := 1) (by omega) (by decide))]
  rcases Opn_dec u with ho | ho
  · rw [opB_t ho, opM_t h.1 ho, ob_s, ob_s, if_neg nz_1, if_neg nz_1, rfB rwd3, rfM rwd3]; exact qn_rf hA h _
  rw [opB_f ho, opM_f h.1 ho, ob_s, ob_s, if_pos rfl, if_pos rfl]
  rcases b15 with b15 | b15
  rotate_left
  · rw [e22, b15, if_neg nz_1, if_neg nz_1, rfB rwd3, rfM rwd3]; exact qn_rf hA h _
  rw [e22, b15, if_pos rfl, if_pos rfl]
  obtain ⟨w, ew, fw, wn⟩ := fbT h
  obtain ⟨w2, ew2, fw2⟩ := fwT h ho
  rw [ew, ew2, ov_s, ov_s, lt_e]
  have hw : RT k w w2 := RT_b (RT_wk h ho fw2) fw
  have w0 : gI w 0 = nI t := by rw [fw.1 0 (by unfold kBI; omega)]; exact e0
  have w20 : gI (sI w2 22 1) 0 = nI t := by rw [sIn (by decide), fw2.1.1 0 (by unfold kMI; omega)]; exact e0m
  have how : ¬ Opn w := by
    unfold Opn; rw [fw.1 0 (by unfold kBI; omega), fw.1 1 (by unfold kBI; omega)]; exact ho
  have w15 : gI w 15 = 0 := by rw [fw.1 15 (by unfold kBI; omega)]; exact b15
  have go : ∀ d : Int32, d * (1440 : Int32) = (1440 : Int32) * d → QN (RT (k + 1)) (f_X9_award_L69 d (gI w 0) w) (f_X10_award_L65 d (1440 : Int32) (gI (sI w2 22 1) 0) (sI w2 22 1)) := by
    intro d hd
    unfold f_X9_award_L69 f_X0_begin f_X10_award_L65
    rw [w0, w20, hd, lt_e, lt_e, lt_e, ov_s, lt_e, sIn (show (18 : Nat) ≠ 19 by decide), sIn (show (18 : Nat) ≠ 15 by decide)]
    have hR := RT_aw hk hw how w15 (nI t + (1440 : Int32) * d)
    obtain ⟨⟨r, u9⟩, ea, fa⟩ := aw79 hR wn
    obtain ⟨⟨r2, v9⟩, eb, fb⟩ := aw72 hR
    exact ⟨r, u9, r2, v9, ea, eb, RT_b fb fa, trivial⟩
  by_cases i0 : nI i = 0
  · rw [if_pos i0, if_pos i0]; exact go 10 (by decide)
  · rw [if_neg i0, if_neg i0]; exact go 13 (by decide)
end ST27
