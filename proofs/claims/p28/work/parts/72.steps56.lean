section ST56
variable {k n : Nat} {u v u2 v2 w x y : SS}
/-! award -/
theorem aw79W (h : RT k u v) (hw : WN u) : TO (fun p : Int32 × SS => p.1 = gI u 13 ∧ FrA u p.2 ∧ ∀ l : Nat, l < 6 → gA p.2 25 l = gA u 21 l) (f_X9_award_L79 FU (0 : Int32) u) := by
  refine loopR (fun F (x : Int32 × SS) => f_X9_award_L79 F x.1 x.2) (fun i x => x.1 = nI i ∧ FrA u x.2 ∧ gA x.2 21 = gA u 21 ∧ gI x.2 13 = gI u 13 ∧ ∀ l : Nat, l < i → gA x.2 25 l = gA u 21 l) _ 6 ?_ (F := FU) (x := ((0 : Int32), u)) (Nat.lt_trans (by decide) FU_ge) ⟨rfl, FrB_a (FrB_r u), rfl, rfl, fun l hl => absurd hl (Nat.not_lt_zero l)⟩
  intro F x i hi hI hc2
  obtain ⟨b2, y⟩ := x
  obtain ⟨e, f, e21, e13, g⟩ := hI
  have e : b2 = nI i := e
  subst e
  have f : FrA u y := f
  have e21 : gA y 21 = gA u 21 := e21
  have e13 : gI y 13 = gI u 13 := e13
  have g : ∀ l : Nat, l < i → gA y 25 l = gA u 21 l := g
  show TO _ (b_X9_award_L79 (f_X9_award_L79 F) (nI i) y)
  unfold b_X9_award_L79 f_X9_award_L123 f_X0_give
  by_cases c6 : i = 6
  · subst c6
    rw [if_pos (show (6 : Int32) ≤ nI 6 by decide)]; exact to_s ⟨e13, f, g⟩
  have hi2 : i < 6 := by omega
  have r6 : rg 6 (nI i) := ⟨i, hi2, rfl⟩
  have st : ∀ p q : Int32, q = gA u 21 i → TO (fun p : Int32 × SS => p.1 = gI u 13 ∧ FrA u p.2 ∧ ∀ l : Nat, l < 6 → gA p.2 25 l = gA u 21 l) (ov (oi (nI i) 6 (lt (tA y 25 (nI i) q) fun u1 => oi (nI i) 6 (lt (tA u1 30 (nI i) p) fun u2 => some u2))) fun u22 => lt (nI i + (1 : Int32)) fun x23 => f_X9_award_L79 F x23 u22) := by
    intro p q eq
    rw [oi_in (by decide) r6, lt_e, oi_in (by decide) r6, lt_e, ov_s, lt_e, nI_1]
    refine hc2 (nI (i + 1), _) hi2 ⟨rfl, FrA_A (by unfold kBA; omega) (FrA_A (by unfold kBA; omega) f), ?_, e13, fun l hl => ?_⟩
    · show gA (tA (tA y 25 (nI i) q) 30 (nI i) p) 21 = _
      rw [tAn (by decide), tAn (by decide)]; exact e21
    · show gA (tA (tA y 25 (nI i) q) 30 (nI i) p) 25 l = _
      rw [tAn (by decide), tAe, nI_clamp (by omega)]
      by_cases z : l = i
      · rw [z, upd_s]; exact eq
      · rw [upd_n _ _ z]; exact g l (by omega)
  rw [if_neg (show ¬ (6 : Int32) ≤ nI i from nI_ge (b := 6) hi2 (by decide)), oi_in (by decide) r6, lt_e, nI_clamp (by omega), e21]
  by_cases c : gA u 21 i = -9
  · rw [if_pos c]; exact st _ _ rfl
  · rw [if_neg c]
    obtain ⟨q, hq, eq⟩ := (hw i hi2).resolve_left c
    rw [eq, ceB, ob_s, cellB, prB (show q * 6 + i < 48 by omega) (BD_c (RT_a h f) (by omega)), ob_s]
    exact st _ _ eq.symm
theorem aw72W (h : RT k u v) {L : Nat} (eL : gI v 2 = nI L) (hL : L ≤ 6) : TO (fun p : Int32 × SS => p.1 = gI v 17 ∧ (∀ i : Nat, gI p.2 i = gI v i) ∧ (∀ a : Nat, a ≠ 24 → a ≠ 25 → a ≠ 26 → gA p.2 a = gA v a) ∧ (∀ l : Nat, l < 6 → gA p.2 24 l = if l < L then gA v 18 l else -9) ∧ RT k u p.2) (f_X10_award_L72 FU (0 : Int32) v) := by
  refine loopR (fun F (x : Int32 × SS) => f_X10_award_L72 F x.1 x.2) (fun i x => x.1 = nI i ∧ RT k u x.2 ∧ (∀ j : Nat, gI x.2 j = gI v j) ∧ (∀ a : Nat, a ≠ 24 → a ≠ 25 → a ≠ 26 → gA x.2 a = gA v a) ∧ ∀ l : Nat, l < i → gA x.2 24 l = if l < L then gA v 18 l else -9) _ 6 ?_ (F := FU) (x := ((0 : Int32), v)) (Nat.lt_trans (by decide) FU_ge) ⟨rfl, h, fun _ => rfl, fun _ _ _ _ => rfl, fun l hl => absurd hl (Nat.not_lt_zero l)⟩
  intro F x i hi hI hc2
  obtain ⟨b2, y⟩ := x
  obtain ⟨e, f, g1, g2, g3⟩ := hI
  have g1 : ∀ j : Nat, gI y j = gI v j := g1
  have g2 : ∀ a : Nat, a ≠ 24 → a ≠ 25 → a ≠ 26 → gA y a = gA v a := g2
  have g3 : ∀ l : Nat, l < i → gA y 24 l = if l < L then gA v 18 l else -9 := g3
  have e : b2 = nI i := e
  subst e
  have f : RT k u y := f
  show TO _ (b_X10_award_L72 (f_X10_award_L72 F) (nI i) y)
  unfold b_X10_award_L72 f_X10_award_L102 f_X10_award_L136
  refine to_c (fun c6 => to_s ⟨g1 17, g1, g2, fun l hl => g3 l (by have := (nI_leI (a := 6) (by decide) (show i < 2 ^ 31 by omega)).mp c6; omega), f⟩) (fun c1 => ?_)
  have hi2 : i < 6 := ltn (n := 6) (by omega) c1
  have r6 : rg 6 (nI i) := ⟨i, hi2, rfl⟩
  have up : ∀ q : Int32, nob q → RT k u (tA y 24 (nI i) q) := by
    intro q hq
    refine RT_f (Nat.le_refl _) f (FrB_a (FrB_r u)) (FrM_A (by unfold kMA; omega) (FrM_r y)) ?_ (fun l hl => ?_) ?_ ?_
    · rw [tAn (by decide)]; exact f.2.2.2.2.2.2.2.2.2.2.2.2.2.1
    · rw [tAe, nI_clamp (by omega)]
      by_cases z : l = i
      · rw [z, upd_s]; exact hq
      · rw [upd_n _ _ z]; exact f.2.2.2.2.2.2.2.2.2.2.2.2.2.2.1 l hl
    · exact f.2.2.2.2.2.2.2.2.2.2.2.2.2.2.2.1
    · exact f.2.2.2.2.2.2.2.2.2.2.2.2.2.2.2.2.1
  have L102 : ∀ q : Int32, nob q → q = (if i < L then gA v 18 i else -9) → TO (fun p : Int32 × SS => p.1 = gI v 17 ∧ (∀ i : Nat, gI p.2 i = gI v i) ∧ (∀ a : Nat, a ≠ 24 → a ≠ 25 → a ≠ 26 → gA p.2 a = gA v a) ∧ (∀ l : Nat, l < 6 → gA p.2 24 l = if l < L then gA v 18 l else -9) ∧ RT k u p.2) (oi (nI i) 6 (lt (tA y 24 (nI i) q) fun u14 => oi (nI i) 6 (if 0 ≤ (gA u14 24 (nI i).toNatClampNeg) then (oi (nI i) 6 (ob (f_X10_priceOf (((8 : Int32) * nI i) + (gA u14 24 (nI i).toNatClampNeg)) u14) fun r17 u16 => (oi (nI i) 6 (lt (tA u16 25 (nI i) r17) fun u18 => oi (nI i) 6 (lt (tA u18 26 (nI i) (0 : Int32)) fun u19 => lt (nI i + (1 : Int32)) fun x20 => f_X10_award_L72 F x20 u19))))) else ((oi (nI i) 6 (lt (tA u14 25 (nI i) (0 : Int32)) fun u18 => oi (nI i) 6 (lt (tA u18 26 (nI i) (0 : Int32)) fun u19 => lt (nI i + (1 : Int32)) fun x20 => f_X10_award_L72 F x20 u19)))))) ) := by
    intro q hq eq
    have hz := up q hq
    have st : ∀ p : Int32, TO (fun p : Int32 × SS => p.1 = gI v 17 ∧ (∀ i : Nat, gI p.2 i = gI v i) ∧ (∀ a : Nat, a ≠ 24 → a ≠ 25 → a ≠ 26 → gA p.2 a = gA v a) ∧ (∀ l : Nat, l < 6 → gA p.2 24 l = if l < L then gA v 18 l else -9) ∧ RT k u p.2) (oi (nI i) 6 (lt (tA (tA y 24 (nI i) q) 25 (nI i) p) fun u18 => oi (nI i) 6 (lt (tA u18 26 (nI i) (0 : Int32)) fun u19 => lt (nI i + (1 : Int32)) fun x20 => f_X10_award_L72 F x20 u19))) := by
      intro p
      refine to_i (by decide) r6 (to_l (to_i (by decide) r6 (to_l ?_)))
      rw [lt_e, nI_1]
      refine hc2 (nI (i + 1), tA (tA (tA y 24 (nI i) q) 25 (nI i) p) 26 (nI i) 0) hi2 ⟨rfl, RT_m hz (FrM_A (by unfold kMA; omega) (FrM_A (by unfold kMA; omega) (FrM_r _))) ?_ ?_ rfl, g1, fun a a1 a2 a3 => ?_, fun l hl => ?_⟩
      · show gA (tA (tA (tA y 24 (nI i) q) 25 (nI i) p) 26 (nI i) 0) 18 = _
        rw [tAn (by decide), tAn (by decide)]
      · show gA (tA (tA (tA y 24 (nI i) q) 25 (nI i) p) 26 (nI i) 0) 24 = _
        rw [tAn (by decide), tAn (by decide)]
      · show gA (tA (tA (tA y 24 (nI i) q) 25 (nI i) p) 26 (nI i) 0) a = _
        rw [tAn a3, tAn a2, tAn a1]; exact g2 a a1 a2 a3
      · show gA (tA (tA (tA y 24 (nI i) q) 25 (nI i) p) 26 (nI i) 0) 24 l = _
        rw [tAn (by decide), tAn (by decide), tAe, nI_clamp (by omega)]
        by_cases z : l = i
        · rw [z, upd_s]; exact eq
        · rw [upd_n _ _ z]; exact g3 l (by omega)
    refine to_i (by decide) r6 (to_l (to_i (by decide) r6 ?_))
    rw [tAe, nI_clamp (show i < 2 ^ 31 by omega), upd_s]
    refine to_c (fun c => ?_) (fun _ => st _)
    have hq2 : eN 7 q := hq.resolve_left (fun z => by rw [z] at c; exact absurd c nl_m9)
    obtain ⟨m, hm, em⟩ := hq2
    subst em
    rw [cellM]
    obtain ⟨pp, -, -, ep⟩ := pr_c hz (show 8 * i + m < 48 by omega)
    rw [ep, ob_s]
    exact to_i (by decide) r6 (st _)
  rw [g1 2, eL]
  refine to_c (fun c2 => L102 _ (Or.inl rfl) (if_neg (by have := (nI_leI (a := L) (by omega) (show i < 2 ^ 31 by omega)).mp c2; omega)).symm) (fun c2 => to_i (by decide) r6 ?_)
  refine L102 _ ?_ ?_
  · rw [nI_clamp (by omega)]; exact f.2.2.2.2.2.2.2.2.2.2.2.2.2.1 i hi2
  · rw [nI_clamp (by omega), if_pos (ltn (by omega) c2), g2 18 (by decide) (by decide) (by decide)]
theorem st_awardE (hk : k < 1000000) (h : RW k u v) (n : Int32) : QQ (RW (k + 1)) (f_X9_award n u) (f_X10_award n v) := by
  have hR := RW_T h
  obtain ⟨⟨t, L, ht, hL1, hL6, e0, e0m, e2, e2m, e1, e1c⟩, -⟩ := id hR
  obtain ⟨hz, e22, b15, e23, b16, e24, -⟩ := hR.2.2.2.2.2.2.2.2.2.2.2.1
  unfold f_X9_award f_X10_award f_X9_award_L9 f_X9_award_L36 f_X10_award_L30
  rcases in_c n 2 with ⟨i, hi, rfl⟩ | hn
  rotate_left
  · rw [in_f (c := 1) (n := 1) (by decide) (by decide) hn v, ob_s, if_pos rfl]
    by_cases c1 : n < 0
    · rw [if_pos c1, rfB rwd2, rfM rwd2]; exact qq_rf wA1 h _
    · rw [if_neg c1, if_neg (show ¬ n ≤ (1 : Int32) from fun z => hn (rg_mk (by decide) c1 ((le_nI (n := 1) (by decide)).mp z))), rfB rwd2, rfM rwd2]; exact qq_rf wA1 h _
  rw [in_t (c := 1) (n := 1) (by decide) (by decide) ⟨i, hi, rfl⟩ v, ob_s, if_neg nz_1, if_neg (nI_pos (by omega)), if_pos (show nI i ≤ (1 : Int32) from nI_le (b := 1) (by omega) (by decide))]
  rcases Opn_dec u with ho | ho
  · rw [opB_t ho, opM_t hR.1 ho, ob_s, ob_s, if_neg nz_1, if_neg nz_1, rfB rwd3, rfM rwd3]; exact qq_rf wA1 h _
  rw [opB_f ho, opM_f hR.1 ho, ob_s, ob_s, if_pos rfl, if_pos rfl]
  rcases b15 with b15 | b15
  rotate_left
  · rw [e22, b15, if_neg nz_1, if_neg nz_1, rfB rwd3, rfM rwd3]; exact qq_rf wA1 h _
  rw [e22, b15, if_pos rfl, if_pos rfl]
  obtain ⟨D, cd⟩ := cvD_o hR
  obtain ⟨w, ew, ⟨fw, cw⟩, -, wn⟩ := to_a (fbV hR cd) (fbT hR)
  obtain ⟨w2, ew2, fw2, mw⟩ := fwW h ho cd
  obtain ⟨a1, a2, a3, a4⟩ := found_e (TU_k hR D) cw mw
  have eL : wlo (TU u D) = L := by show nn (gI u 2) = L; rw [e2, nn_nI (by omega)]
  rw [ew, ew2, ov_s, ov_s, lt_e]
  have hW := RW_wk h ho cd fw fw2 mw
  have hw : RT k w w2 := RW_T hW
  have w0 : gI w 0 = nI t := by rw [fw.1 0 (by unfold kBI; omega)]; exact e0
  have w20 : gI (sI w2 22 1) 0 = nI t := by rw [sIn (by decide), fw2.1.1 0 (by unfold kMI; omega)]; exact e0m
  have w2L : gI w2 2 = nI L := by rw [fw2.1.1 2 (by unfold kMI; omega)]; exact e2m
  have how : ¬ Opn w := by
    unfold Opn; rw [fw.1 0 (by unfold kBI; omega), fw.1 1 (by unfold kBI; omega)]; exact ho
  have w15 : gI w 15 = 0 := by rw [fw.1 15 (by unfold kBI; omega)]; exact b15
  have go : ∀ d : Int32, d * (1440 : Int32) = (1440 : Int32) * d → QQ (RW (k + 1)) (f_X9_award_L69 d (gI w 0) w) (f_X10_award_L65 d (1440 : Int32) (gI (sI w2 22 1) 0) (sI w2 22 1)) := by
    intro d hd
    unfold f_X9_award_L69 f_X0_begin f_X10_award_L65
    rw [w0, w20, hd, lt_e, lt_e, lt_e, ov_s, lt_e, sIn (show (18 : Nat) ≠ 19 by decide), sIn (show (18 : Nat) ≠ 15 by decide)]
    have hR2 := RT_aw hk hw how w15 (nI t + (1440 : Int32) * d)
    obtain ⟨⟨r, u9⟩, ea, r13, fa, ga⟩ := aw79W hR2 wn
    obtain ⟨⟨r2, v9⟩, eb, r17, i9, a9, g9, hb⟩ := aw72W hR2 (L := L) (by rw [sIn (by decide), sIn (by decide)]; exact w2L) hL6
    have r13 : r = gI w 13 := r13
    have r17 : r2 = gI w2 17 := r17
    have i9 : ∀ i : Nat, gI v9 i = gI (sI (sI w2 22 1) 24 (nI t + (1440 : Int32) * d)) i := i9
    have a9 : ∀ a : Nat, a ≠ 24 → a ≠ 25 → a ≠ 26 → gA v9 a = gA w2 a := a9
    have g9 : ∀ l : Nat, l < 6 → gA v9 24 l = if l < L then gA w2 18 l else -9 := g9
    have ga : ∀ l : Nat, l < 6 → gA u9 25 l = gA w 21 l := ga
    have i16 : gI v9 16 = gI w2 16 := by rw [i9 16, sIn (by decide), sIn (by decide)]
    refine ⟨r, u9, r2, v9, ea, eb, RW_i (RT_a hb fa) (fun l hl => ?_) (fun z => ?_), ?_⟩
    · rw [ga l hl, g9 l hl]
      by_cases z : l < L
      · rw [if_pos z]; exact a3 l (by omega)
      · rw [if_neg z]; exact a4 l hl (by omega)
    · rw [i16] at z
      refine FDu_b (u := sI (sI (sI w 15 1) 19 (nI t + (1440 : Int32) * d)) 18 (gI w 18 + 1)) (v := w2) fa (by rw [i9 17, sIn (by decide), sIn (by decide)]) (by rw [i9 18, sIn (by decide), sIn (by decide)]) (a9 18 (by decide) (by decide) (by decide)) ?_
      exact FDu_g (u := w) (v := w2) (CG_o (by rw [sIn (by decide), sIn (by decide), sIn (by decide)]) (fun _ _ _ => rfl)) (by rw [sIn (by decide), sIn (by decide), sIn (by decide)]) (by rw [sIn (by decide), sIn (by decide), sIn (by decide)]) rfl rfl rfl rfl rfl rfl (RW_f hW z)
    · rw [r13, r17]; exact a1
  by_cases i0 : nI i = 0
  · rw [if_pos i0, if_pos i0]; exact go 10 (by decide)
  · rw [if_neg i0, if_neg i0]; exact go 13 (by decide)
theorem RW_0 : RW 0 uB0 uM0 := RW_i RT_0 (fun l hl => rfl) (fun z => absurd z (by decide))
theorem qq_w {α : Type} {k : Nat} {x y : Option (α × SS)} (h : QQ (RW k) x y) : QN (RW k) x y := qq_n h
end ST56
