section ST55
variable {k n : Nat} {u v u2 v2 w x y : SS}
/-! the relation with the award and the found whole -/
def DOf (u : SS) (D : List Int32) : Prop := D.length ≤ 80 ∧ gI u 4 = nI D.length ∧ ∀ j : Nat, j < D.length → gA u 13 j = D.getD j 0
theorem DOf_u {D D2 : List Int32} (h : DOf u D) (h2 : DOf u D2) : D = D2 := by
  have e : D.length = D2.length := (nI_eq (by have := h.1; omega) (by have := h2.1; omega)).mp (h.2.1.symm.trans h2.2.1)
  exact getD_x e (fun j hj => (h.2.2 j hj).symm.trans (h2.2.2 j (by omega)))
theorem cvD_d {D : List Int32} (c : cvD u v D) : DOf u D := ⟨c.1, c.2.1, c.2.2.1⟩
def FDu (u v : SS) : Prop := ∃ D : List Int32, DOf u D ∧ FDm (TU u D) v
def AWu (a25 _a30 : Nat → Int32) (_l8 : Nat → Int64) (b24 _b25 _b26 : Nat → Int32) : Prop := ∀ l : Nat, l < 6 → a25 l = b24 l
def RW (k : Nat) (u v : SS) : Prop := RR (fun a n b m => GDT b m ∧ FEv a n b m) AWu FDu k u v
theorem RW_T (h : RW k u v) : RT k u v := by
  obtain ⟨h1, h2, h3, h4, h5, h6, h7, h8, h9, h10, h11, h12, h13, h14, h15, h16, h17, -, -⟩ := h
  exact ⟨h1, h2, h3, h4, h5, h6, h7, h8, h9, h10, h11, h12, h13, h14, h15, h16, h17, trivial, fun _ => trivial⟩
theorem RW_i (h : RT k u v) (a : ∀ l : Nat, l < 6 → gA u 25 l = gA v 24 l) (f : gI v 16 = 1 → FDu u v) : RW k u v := by
  obtain ⟨h1, h2, h3, h4, h5, h6, h7, h8, h9, h10, h11, h12, h13, h14, h15, h16, h17, -, -⟩ := h
  exact ⟨h1, h2, h3, h4, h5, h6, h7, h8, h9, h10, h11, h12, h13, h14, h15, h16, h17, a, f⟩
theorem RW_a (h : RW k u v) : ∀ l : Nat, l < 6 → gA u 25 l = gA v 24 l := h.2.2.2.2.2.2.2.2.2.2.2.2.2.2.2.2.2.1
theorem RW_f (h : RW k u v) : gI v 16 = 1 → FDu u v := h.2.2.2.2.2.2.2.2.2.2.2.2.2.2.2.2.2.2
/-- what the found whole looks at -/
theorem FDu_g (g : CG u u2) (e2 : gI u2 2 = gI u 2) (e4 : gI u2 4 = gI u 4) (e13 : gA u2 13 = gA u 13) (e20 : gA u2 20 = gA u 20) (e22 : gA u2 22 = gA u 22) (e17 : gI v2 17 = gI v 17) (e18 : gI v2 18 = gI v 18) (a18 : gA v2 18 = gA v 18) (h : FDu u v) : FDu u2 v2 := by
  obtain ⟨D, d, m⟩ := h
  refine ⟨D, ?_, ?_⟩
  · unfold DOf; rw [e4, e13]; exact d
  · rw [TU_g g e2 e20 e22]
    unfold FDm; rw [e17, e18, a18]; exact m
theorem CG_o (e0 : gI u2 0 = gI u 0) (ha : ∀ a : Nat, 1 ≤ a → a ≤ 11 → gA u2 a = gA u a) : CG u u2 := by
  refine ⟨fun c => ?_, ha 1 (by decide) (by decide), ha 2 (by decide) (by decide), ha 6 (by decide) (by decide), ha 7 (by decide) (by decide), ha 8 (by decide) (by decide), ha 9 (by decide) (by decide), ha 10 (by decide) (by decide), ha 11 (by decide) (by decide)⟩
  unfold Std Lps
  rw [ha 3 (by decide) (by decide), ha 4 (by decide) (by decide), ha 5 (by decide) (by decide), e0]
theorem wA1 : FDok FDu := fun u v i j x y h => FDu_g (u := u) (v := v) (u2 := tA u 0 i x) (v2 := tA v 11 j y) (CG_o rfl (fun a a1 a2 => tAn (by omega))) rfl rfl (tAn (by decide)) (tAn (by decide)) (tAn (by decide)) rfl rfl (tAn (by decide)) h
theorem wA2 : FDlate FDu := fun u v x y h => FDu_g (u := u) (v := v) (u2 := sI u 3 x) (v2 := sI v 3 y) (CG_o (sIn (by decide)) (fun a a1 a2 => rfl)) (sIn (by decide)) (sIn (by decide)) rfl rfl rfl (sIn (by decide)) (sIn (by decide)) rfl h
theorem wA3 : FDans FDu := fun u v c d hc hl h => by
  refine FDu_g (u := u) (v := v) (u2 := tA u 5 (nI c) 0) (v2 := tA v 7 (nI d) (-1)) ⟨fun q => ?_, tAn (by decide), tAn (by decide), tAn (by decide), tAn (by decide), tAn (by decide), tAn (by decide), tAn (by decide), tAn (by decide)⟩ rfl rfl (tAn (by decide)) (tAn (by decide)) (tAn (by decide)) rfl rfl (tAn (by decide)) h
  unfold Std Lps
  rw [tAn (show (3 : Nat) ≠ 5 by decide), tAn (show (4 : Nat) ≠ 5 by decide), tAe, nI_clamp (show c < 2 ^ 31 by omega)]
  by_cases z : q = c
  · rw [z, upd_s]
    exact ⟨fun y => ⟨y.1, y.2.1, hl⟩, fun y => ⟨y.1, y.2.1, fun r => r.1 rfl⟩⟩
  · rw [upd_n _ _ z]
    exact ⟨fun y => y, fun y => y⟩
theorem wA4 : FDtp FDu := fun u v u2 v2 hI hA hJ hB h => FDu_g (CG_o (hI 0 (by decide)) (fun a a1 a2 => hA a (by omega))) (hI 2 (by decide)) (hI 4 (by decide)) (hA 13 (by decide)) (hA 20 (by decide)) (hA 22 (by decide)) (hJ 17 (by decide)) (hJ 18 (by decide)) (hB 18 (by decide)) h
theorem wA5 : FDfw FDu := fun u v u2 v2 hI hA hJ hB h => FDu_g (CG_o (hI 0 (by decide)) (fun a a1 a2 => hA a (by omega) (by omega))) (hI 2 (by decide)) (hI 4 (by decide)) (hA 13 (by decide) (by decide)) (hA 20 (by decide) (by decide)) (hA 22 (by decide) (by decide)) (hJ 17 (by decide)) (hJ 18 (by decide)) (hB 18 (by decide) (by decide)) h
theorem wA6 : FDaw FDu := fun u v u2 v2 hI hA hJ hB h => FDu_g (CG_o (hI 0 (by omega)) (fun a a1 a2 => hA a (by omega))) (hI 2 (by omega)) (hI 4 (by omega)) (hA 13 (by omega)) (hA 20 (by omega)) (hA 22 (by omega)) (hJ 17 (by omega)) (hJ 18 (by omega)) (hB 18 (by omega)) h
theorem FDu_b (f : FrA u u2) (e17 : gI v2 17 = gI v 17) (e18 : gI v2 18 = gI v 18) (a18 : gA v2 18 = gA v 18) (h : FDu u v) : FDu u2 v2 := FDu_g (CG_o (f.1 0 (by unfold kBI; omega)) (fun a a1 a2 => f.2 a (by unfold kBA; omega) (by omega))) (f.1 2 (by unfold kBI; omega)) (f.1 4 (by unfold kBI; omega)) (f.2 13 (by unfold kBA; omega) (by decide)) (f.2 20 (by unfold kBA; omega) (by decide)) (f.2 22 (by unfold kBA; omega) (by decide)) e17 e18 a18 h
theorem RW_fr (h : RW k u v) (f : FrB u u2) (m : MK v v2) : RW k u2 v2 := by
  refine RW_i (RT_mk (RT_b (RW_T h) f) m) (fun l hl => ?_) (fun z => ?_)
  · rw [f.2 25 (by unfold kBA; omega), m.2.2.1]; exact RW_a h l hl
  · rw [m.2.2.2.1] at z
    exact FDu_b (FrB_a f) m.2.2.2.2.1 m.2.2.2.2.2 m.2.1 (RW_f h z)
theorem RW_s (h : RW k u v) : RW (k + 1) u v := RR_k h
theorem qn_fw {α : Type} {x y : Option (α × SS)} (h : RW k u v) (hb : TO (fun p => FrB u p.2) x) (hm : TO (fun p => MK v p.2) y) : QN (RW (k + 1)) x y := by
  obtain ⟨⟨r, u2⟩, e, f⟩ := hb
  obtain ⟨⟨r2, v2⟩, e2, f2⟩ := hm
  exact ⟨r, u2, r2, v2, e, e2, RW_s (RW_fr h f f2), trivial⟩
theorem w_count (h : RW k u v) (n : Int32) : QN (RW (k + 1)) (f_X9_count n u) (f_X10_count n v) := qn_fw h (to_w (coB_T (RW_T h) n) (fun p q => by rw [q]; exact FrB_r u)) (to_w (coM_T (RW_T h) n) (fun p q => by rw [q]; exact MK_r v))
theorem w_change (h : RW k u v) (l n : Int32) : QN (RW (k + 1)) (f_X9_change l n u) (f_X10_change l n v) := qn_fw h (chgB (RW_T h) l n) (chgM (RW_T h) l n)
theorem w_likeness (h : RW k u v) (l a b : Int32) : QN (RW (k + 1)) (f_X9_likeness l a b u) (f_X10_likeness l a b v) := qn_fw h (likB_T (RW_T h) l a b) (likM_T (RW_T h) l a b)
theorem w_chance (h : RW k u v) (l a b : Int32) : QN (RW (k + 1)) (f_X9_chance l a b u) (f_X10_chance l a b v) := qn_fw h (chaB_T (RW_T h) l a b) (chaM_T (RW_T h) l a b)
theorem w_ring (h : RW k u v) (l b : Int32) : QN (RW (k + 1)) (f_X9_ring l b u) (f_X10_ring l b v) := qn_fw h (riB_T (RW_T h) l b) (riM_T (RW_T h) l b)
theorem w_quality (h : RW k u v) (b l n : Int32) : QN (RW (k + 1)) (f_X9_quality b l n u) (f_X10_quality b l n v) := qn_fw h (quB_T (RW_T h) b l n) (quM_T (RW_T h) b l n)
theorem w_turned (h : RW k u v) (l a b : Int32) : QN (RW (k + 1)) (f_X9_turned l a b u) (f_X10_turned l a b v) := qn_fw h (tuB_T (RW_T h) l a b) (tuM_T (RW_T h) l a b)
theorem w_order (h : RW k u v) (l n : Int32) : QN (RW (k + 1)) (f_X9_order l n u) (f_X10_order l n v) := qn_fw h (orB_T (RW_T h) l n) (orM_T (RW_T h) l n)
theorem w_points (h : RW k u v) (b l n : Int32) : QN (RW (k + 1)) (f_X9_points b l n u) (f_X10_points b l n v) := qn_fw h (poB_T (RW_T h) b l n) (poM_T (RW_T h) b l n)
theorem w_gain (h : RW k u v) (b l n m : Int32) : QN (RW (k + 1)) (f_X9_gain b l n m u) (f_X10_gain b l n m v) := qn_fw h (gaB_T (RW_T h) b l n m) (gaM_T (RW_T h) b l n m)
theorem w_formula (h : RW k u v) : QN (RW (k + 1)) (f_X9_formula u) (f_X10_formula v) := by
  obtain ⟨r, u2, v2, e1, e2, hR, fb, fm, hx⟩ := st_formulaF (RW_T h)
  refine ⟨r, u2, r, v2, e1, e2, RW_i hR (fun l hl => ?_) (fun z => ?_), trivial⟩
  · rw [fb.2.1 25 (by unfold kBA; omega) (by decide), fm.2.2.2.1]; exact RW_a h l hl
  · rcases hx with ⟨q4, q13, q16, q17, q18⟩ | q
    · rw [q16] at z
      refine FDu_g (CG_o (fb.1 0 (by unfold kBI; omega) (by decide) (by decide)) (fun a a1 a2 => fb.2.1 a (by unfold kBA; omega) (by omega))) (fb.1 2 (by unfold kBI; omega) (by decide) (by decide)) q4 q13 (fb.2.1 20 (by unfold kBA; omega) (by decide)) (fb.2.1 22 (by unfold kBA; omega) (by decide)) q17 q18 fm.2.2.1 (RW_f h z)
    · rw [q] at z; exact absurd z n01
/-! both have found the same -/
theorem found_e {T : TD} (hT : TDk T) (c : CBs T y) (m : FDm T w) : gI y 13 = gI w 17 ∧ gI y 14 = gI w 18 ∧ (∀ l : Nat, l < wlo T → gA y 21 l = gA w 18 l) ∧ ∀ l : Nat, l < 6 → wlo T ≤ l → gA y 21 l = -9 := by
  obtain ⟨K, bK, c13, c14, c21⟩ := c
  obtain ⟨g, g1, g2, g17, g18, gw⟩ := m
  have eK : K = wKK T g := wBest_u bK ⟨⟨g, g1, rfl⟩, g2⟩
  obtain ⟨k1, k2, k3, k4⟩ := wKK_d hT g1
  subst eK
  have L6 := hT.1
  refine ⟨by rw [c13, g17, k1], by rw [c14, g18, k2], fun l hl => ?_, fun l h6 hl => ?_⟩
  · rw [c21 l (by omega), gw l hl]
    unfold WDg gvI
    rw [if_neg (by omega), k3, wdd_g g1 (show l < 6 by omega), show wxd T g l = g l from if_pos hl]
  · rw [c21 l h6]
    exact if_pos hl
theorem WK_r (h : RT k u v) (c : gI v 16 = 1) : WK v v := ⟨FrM_r v, rfl, h.2.2.2.2.2.2.2.2.2.2.2.2.2.1, c⟩
theorem fwW (h : RW k u v) (no : ¬ Opn u) {D : List Int32} (cd : cvD u v D) : TO (fun y => WK v y ∧ FDm (TU u D) y) (f_X10_findWhole v) := by
  have b16 := (RW_T h).2.2.2.2.2.2.2.2.2.2.2.2.2.2.2.1
  rcases b16 with z | z
  · exact fwV (RW_T h) no cd z
  · unfold f_X10_findWhole
    rw [if_neg (by rw [z]; exact nz_1)]
    obtain ⟨D2, d, m⟩ := RW_f h z
    have e := DOf_u d (cvD_d cd)
    subst e
    exact to_s ⟨WK_r (RW_T h) z, m⟩
theorem RW_wk {D : List Int32} (h : RW k u v) (no : ¬ Opn u) (cd : cvD u v D) (f : FrB u y) (m : WK v w) (fd : FDm (TU u D) w) : RW k y w := by
  refine RW_i (RT_b (RT_wk (RW_T h) no m) f) (fun l hl => ?_) (fun _ => ⟨D, cvD_d (cvD_b cd f), ?_⟩)
  · rw [f.2 25 (by unfold kBA; omega), m.2.1]; exact RW_a h l hl
  · rw [TU_g (CG_b f) (f.1 2 (by unfold kBI; omega)) (f.2 20 (by unfold kBA; omega)) (f.2 22 (by unfold kBA; omega))]; exact fd
theorem st_wholeE (h : RW k u v) (n : Int32) : QQ (RW (k + 1)) (f_X9_whole n u) (f_X10_whole n v) := by
  have hR := RW_T h
  unfold f_X9_whole f_X10_whole f_X9_whole_L9
  rcases in_c n 2 with ⟨i, hi, rfl⟩ | hn
  rotate_left
  · rw [in_f (c := 1) (n := 1) (by decide) (by decide) hn v, ob_s, if_pos rfl]
    by_cases c1 : n < 0
    · rw [if_pos c1, rfB rwd2, rfM rwd2]; exact qq_rf wA1 h _
    · rw [if_neg c1, if_neg (show ¬ n ≤ (1 : Int32) from fun z => hn (rg_mk (by decide) c1 ((le_nI (n := 1) (by decide)).mp z))), rfB rwd2, rfM rwd2]; exact qq_rf wA1 h _
  rw [in_t (c := 1) (n := 1) (by decide) (by decide) ⟨i, hi, rfl⟩ v, ob_s, if_neg nz_1, if_neg (nI_pos (by omega)), if_pos (show nI i ≤ (1 : Int32) from nI_le (b := 1) (by omega) (by decide))]
  rcases Opn_dec u with ho | ho
  · rw [opB_t ho, opM_t hR.1 ho, ob_s, ob_s, if_neg nz_1, if_neg nz_1, rfB rwd3, rfM rwd3]; exact qq_rf wA1 h _
  rw [opB_f ho, opM_f hR.1 ho, ob_s, ob_s, if_pos rfl, if_pos rfl]
  obtain ⟨D, cd⟩ := cvD_o hR
  obtain ⟨y, ey, fy, cy⟩ := fbV hR cd
  obtain ⟨w, ew, fw, mw⟩ := fwW h ho cd
  obtain ⟨a1, a2, -⟩ := found_e (TU_k hR D) cy mw
  have hN := RW_s (RW_wk h ho cd fy fw mw)
  rw [ey, ew, ov_s, ov_s]
  by_cases i0 : nI i = 0
  · rw [if_pos i0, if_pos i0]; exact ⟨_, _, _, _, rfl, rfl, hN, a1⟩
  · rw [if_neg i0, if_neg i0]; exact ⟨_, _, _, _, rfl, rfl, hN, a2⟩
theorem st_winnerE (h : RW k u v) (l : Int32) : QQ (RW (k + 1)) (f_X9_winner l u) (f_X10_winner l v) := by
  have hR := RW_T h
  obtain ⟨⟨t, L, ht, hL1, hL6, e0, e0m, e2, e2m, e1, e1c⟩, -⟩ := id hR
  unfold f_X9_winner f_X10_winner
  rcases cl_c l L with ⟨j, hj, rfl⟩ | hl
  rotate_left
  · rw [noLot_f e2 hL6 hl, isLot_f e2m hL1 hL6 hl, ob_s, ob_s, if_neg nz_1, if_pos rfl, rfB rwd1, rfM rwd1]; exact qq_rf wA1 h _
  rw [noLot_t e2 hL6 ⟨j, hj, rfl⟩, isLot_t e2m hL1 hL6 ⟨j, hj, rfl⟩, ob_s, ob_s, if_pos rfl, if_neg nz_1]
  rcases Opn_dec u with ho | ho
  · rw [opB_t ho, opM_t hR.1 ho, ob_s, ob_s, if_neg nz_1, if_neg nz_1, rfB rwd3, rfM rwd3]; exact qq_rf wA1 h _
  rw [opB_f ho, opM_f hR.1 ho, ob_s, ob_s, if_pos rfl, if_pos rfl]
  obtain ⟨D, cd⟩ := cvD_o hR
  obtain ⟨y, ey, fy, cy⟩ := fbV hR cd
  obtain ⟨w, ew, fw, mw⟩ := fwW h ho cd
  obtain ⟨-, -, a3, -⟩ := found_e (TU_k hR D) cy mw
  have hN := RW_s (RW_wk h ho cd fy fw mw)
  rw [ey, ew, ov_s, ov_s, oi_nI (by decide) (show j < 6 by omega), oi_nI (by decide) (show j < 6 by omega), nI_clamp (show j < 2 ^ 31 by omega)]
  exact ⟨_, _, _, _, rfl, rfl, hN, a3 j (by show j < nn (gI u 2); rw [e2, nn_nI (by omega)]; exact hj)⟩
theorem st_awardedE (h : RW k u v) (l : Int32) : QQ (RW (k + 1)) (f_X9_awarded l u) (f_X10_awarded l v) := by
  have hR := RW_T h
  obtain ⟨⟨t, L, ht, hL1, hL6, e0, e0m, e2, e2m, e1, e1c⟩, -⟩ := id hR
  obtain ⟨hz, e22, b15, e23, b16, e24, -⟩ := hR.2.2.2.2.2.2.2.2.2.2.2.1
  unfold f_X9_awarded f_X10_awarded
  rcases cl_c l L with ⟨j, hj, rfl⟩ | hl
  rotate_left
  · rw [noLot_f e2 hL6 hl, isLot_f e2m hL1 hL6 hl, ob_s, ob_s, if_neg nz_1, if_pos rfl, rfB rwd1, rfM rwd1]; exact qq_rf wA1 h _
  rw [noLot_t e2 hL6 ⟨j, hj, rfl⟩, isLot_t e2m hL1 hL6 ⟨j, hj, rfl⟩, ob_s, ob_s, if_pos rfl, if_neg nz_1, e22]
  rcases b15 with b15 | b15
  · rw [b15, if_pos rfl, if_pos rfl, rfB rwd3, rfM rwd3]; exact qq_rf wA1 h _
  · rw [b15, if_neg nz_1, if_neg nz_1, oi_nI (by decide) (show j < 6 by omega), oi_nI (by decide) (show j < 6 by omega), nI_clamp (show j < 2 ^ 31 by omega)]
    exact ⟨_, _, _, _, rfl, rfl, RW_s h, RW_a h j (by omega)⟩
end ST55
