section ST53
variable {k n : Nat} {u v v2 w x y : SS}
theorem vaV {T : TD} {g : Nat → Nat} {b : Nat} (hT : TDk T) (hb : b < 8) (hw : wwn g b ≤ 6) (e22 : gA w 22 b = nI (wwn g b)) (e23 : gA w 23 b = nI (wsp T g b)) (hs : wsp T g b ≤ 659998800) (e17 : gA w 17 (7 * b + wwn g b) = nI (wrb T b (wwn g b))) : f_X10_valueOf (nI b) w = some (nI (wvb T g b), w) := by
  unfold f_X10_valueOf
  have r50 := hT.2.2.1 b (wwn g b) hb (by omega)
  have s2 : wsp T g b * (100 - wrb T b (wwn g b)) ≤ 659998800 * 100 := Nat.mul_le_mul hs (Nat.sub_le _ _)
  have e7 : (7 : Int32) * nI b + nI (wwn g b) = nI (7 * b + wwn g b) := by rw [show (7 : Int32) = nI 7 by decide, pk_mul, nI_add]
  rw [oi_nI (by decide) hb, oi_nI (by decide) hb, nI_clamp (show b < 2 ^ 31 by omega), e22, e7, oi_nI (by decide) (show 7 * b + wwn g b < 56 by omega), nI_clamp (show 7 * b + wwn g b < 2 ^ 31 by omega), e17, e23, nI_l (by omega), show (100 : Int32) - nI (wrb T b (wwn g b)) = nI (100 - wrb T b (wwn g b)) from pk_sub (a := 100) (by omega), nI_l (by omega), lN_mul, show (99 : Int64) = lN 99 by decide, lN_add, show (100 : Int64) = lN 100 by decide, pk_lDiv (by omega) (by decide) (by decide), lN_i]
  rfl
theorem wsp_b {T : TD} {g : Nat → Nat} {b : Nat} (hT : TDk T) (hb : b < 8) : wsp T g b ≤ 659998800 := zs_bd (c := 109999800) (n := 6) (fun l hl => by
  show (if g l = b then wpz T l b else 0) ≤ 109999800
  by_cases c : g l = b
  · rw [if_pos c]; exact hT.2.1 l b hl hb
  · rw [if_neg c]; omega)
theorem wwn_b (g : Nat → Nat) (b : Nat) : wwn g b ≤ 6 := zs_bd (c := 1) (n := 6) (fun l _ => by
  show (if g l = b then 1 else 0) ≤ 1
  by_cases c : g l = b
  · rw [if_pos c]; exact Nat.le_refl 1
  · rw [if_neg c]; omega)
theorem wvb_0 {T : TD} {g : Nat → Nat} {b : Nat} (h : wwn g b = 0) : wvb T g b = 0 := by
  have key : ∀ n : Nat, zs (fun l => if g l = b then 1 else 0) n = 0 → zs (fun l => if g l = b then wpz T l b else 0) n = 0 := by
    intro n
    induction n with
    | zero => intro _; rfl
    | succ n ih =>
      intro h
      have h : zs (fun l => if g l = b then 1 else 0) n + (if g n = b then 1 else 0) = 0 := h
      show zs (fun l => if g l = b then wpz T l b else 0) n + (if g n = b then wpz T n b else 0) = 0
      by_cases c : g n = b
      · rw [if_pos c] at h; omega
      · rw [if_neg c] at h ⊢
        rw [ih (by omega)]
  have s : wsp T g b = 0 := key 6 h
  unfold wvb
  rw [s, Nat.zero_mul]
/-- the values of those who won, and the comparison -/
theorem tp130V {D : List Int32} {L : Nat} {p : Nat → Nat} {T : TD} {S : (Nat → Nat) → Prop} (hT : TDk T) (hL : L ≤ 6) (eT : wlo T = L) (m : WK v w) (o : WOu u D L w) (pk : PKp L p w) (bx : BXp u D L p) (e2 : gI w 2 = nI L) (hg1 : ∀ l : Nat, l < 6 → gP u D L p l = 8 ∨ (gP u D L p l < 8 ∧ wpc T l (gP u D L p l) < 8)) (hm : ∀ b : Nat, b < 8 → gA w 16 b = nI (wmo T b) ∧ wmo T b ≤ 6) (hr : ∀ b q : Nat, b < 8 → q < 7 → gA w 17 (7 * b + q) = nI (wrb T b q)) (e22 : ∀ b : Nat, b < 8 → gA w 22 b = nI (wwn (gP u D L p) b)) (e23 : ∀ b : Nat, b < 8 → gA w 23 b = nI (wsp T (gP u D L p) b)) (hb : BST T S w) : TO (fun y => TF v w y ∧ BST T (fun g => S g ∨ g = gP u D L p) y) (f_X10_tryPicks_L130 FU (nI (wlo T - wlf T (gP u D L p))) (nI (wpl T (gP u D L p))) (0 : Int32) (0 : Int32) w) := by
  refine loopR (fun F (x : Int32 × Int32 × SS) => f_X10_tryPicks_L130 F (nI (wlo T - wlf T (gP u D L p))) (nI (wpl T (gP u D L p))) x.1 x.2.1 x.2.2) (fun i x => x = (nI (zs (wvb T (gP u D L p)) i), nI i, w) ∧ ∀ b : Nat, b < i → wwn (gP u D L p) b ≤ wmo T b) _ 8 ?_ (F := FU) (x := ((0 : Int32), (0 : Int32), w)) (Nat.lt_trans (by decide) FU_ge) ⟨rfl, fun b hb => absurd hb (Nat.not_lt_zero b)⟩
  intro F x i hi hI hc2
  obtain ⟨rfl, hwm⟩ := hI
  show TO _ (b_X10_tryPicks_L130 (f_X10_tryPicks_L130 F) (nI (wlo T - wlf T (gP u D L p))) (nI (wpl T (gP u D L p))) (nI (zs (wvb T (gP u D L p)) i)) (nI i) w)
  unfold b_X10_tryPicks_L130
  by_cases c8 : i = 8
  · subst c8
    have hg : wGv T (gP u D L p) := ⟨hg1, hwm⟩
    rw [if_pos (show (8 : Int32) ≤ nI 8 by decide)]
    have vb := wb_vl (g := gP u D L p) hT
    have pb := wb_pl hg
    have L6 : wlo T ≤ 6 := hT.1
    rcases id hb with ⟨b20, bn⟩ | ⟨g, g1, g2, g3, g4, g5, g6⟩
    · rw [b20, if_neg (m1_n (by omega)), if_neg (le_m1 (by omega))]
      exact tp260V hL eT m o pk bx e2 hg rfl rfl rfl hb (Or.inr ⟨rfl, fun q hq wq => absurd wq (bn q hq)⟩)
    have kl := wKK_lt hT hg g1
    have vb2 := wb_vl (g := g) hT
    have pb2 := wb_pl g1
    have lf1 := wb_lf T (gP u D L p)
    have lf2 := wb_lf T g
    have no : ∀ q0 : Int32, q0 = 0 → ¬ wKK T (gP u D L p) < wKK T g → TO (fun y => TF v w y ∧ BST T (fun g => S g ∨ g = gP u D L p) y) (f_X10_tryPicks_L260 (nI (wlo T - wlf T (gP u D L p))) (nI (wpl T (gP u D L p))) (nI (zs (wvb T (gP u D L p)) 8)) q0 w) := fun q0 e h => tp260V hL eT m o pk bx e2 hg rfl rfl rfl hb (Or.inl ⟨e, g, g1, g2, g3, g4, g5, g6, Nat.le_of_not_lt h⟩)
    have ye : ∀ q0 : Int32, q0 = 1 → wKK T (gP u D L p) < wKK T g → TO (fun y => TF v w y ∧ BST T (fun g => S g ∨ g = gP u D L p) y) (f_X10_tryPicks_L260 (nI (wlo T - wlf T (gP u D L p))) (nI (wpl T (gP u D L p))) (nI (zs (wvb T (gP u D L p)) 8)) q0 w) := fun q0 e h => tp260V hL eT m o pk bx e2 hg rfl rfl rfl hb (Or.inr ⟨e, fun q hq wq => Nat.le_trans (Nat.le_of_lt h) (g6 q hq wq)⟩)
    have ev : zs (wvb T (gP u D L p)) 8 = wvl T (gP u D L p) := rfl
    rw [g2, g3, g4]
    by_cases d1 : wlf T (gP u D L p) = wlf T g
    rotate_left
    · rw [if_neg (fun z => d1 (by have := (nI_eq (by omega) (by omega)).mp z; omega))]
      by_cases d2 : wlo T - wlf T (gP u D L p) ≤ wlo T - wlf T g
      · rw [if_pos (nI_le d2 (by omega))]
        exact no 0 rfl (fun z => by rw [kl] at z; omega)
      · rw [if_neg (nI_ge (by omega) (by omega))]
        exact ye 1 rfl (by rw [kl]; omega)
    rw [if_pos (by rw [d1])]
    by_cases d3 : wvl T (gP u D L p) = wvl T g
    rotate_left
    · rw [ev, if_neg (fun z => d3 ((nI_eq (by omega) (by omega)).mp z))]
      by_cases d2 : wvl T g ≤ wvl T (gP u D L p)
      · rw [if_pos (nI_le d2 (by omega))]
        exact no 0 rfl (fun z => by rw [kl] at z; omega)
      · rw [if_neg (nI_ge (by omega) (by omega))]
        exact ye 1 rfl (by rw [kl]; omega)
    rw [if_pos (show nI (zs (wvb T (gP u D L p)) 8) = nI (wvl T g) by rw [ev, d3])]
    by_cases d5 : wpl T (gP u D L p) = wpl T g
    rotate_left
    · rw [if_neg (fun z => d5 ((nI_eq (by omega) (by omega)).mp z))]
      by_cases d2 : wpl T g ≤ wpl T (gP u D L p)
      · rw [if_pos (nI_le d2 (by omega))]
        exact no 0 rfl (fun z => by rw [kl] at z; omega)
      · rw [if_neg (nI_ge (by omega) (by omega))]
        exact ye 1 rfl (by rw [kl]; omega)
    rw [if_pos (by rw [d5])]
    obtain ⟨q, eq, hq⟩ := ifV hL eT o pk bx e2 hg g1 (fun l hl => g5 l (by omega))
    rw [eq, ob_s]
    rcases hq with ⟨eq1, hd⟩ | ⟨eq0, hd⟩
    · exact ye q eq1 (by rw [kl]; omega)
    · exact no q eq0 (fun z => by rw [kl] at z; omega)
  have hi2 : i < 8 := by omega
  have w6 := wwn_b (gP u D L p) i
  rw [if_neg (show ¬ (8 : Int32) ≤ nI i from nI_ge (b := 8) hi2 (by decide)), oi_nI (by decide) hi2, oi_nI (by decide) hi2, nI_clamp (show i < 2 ^ 31 by omega), e22 i hi2, (hm i hi2).1]
  have m6 := (hm i hi2).2
  by_cases c1 : wwn (gP u D L p) i ≤ wmo T i
  rotate_left
  · rw [if_neg (nI_ge (by omega) (by omega))]
    have ng : ¬ wGv T (gP u D L p) := fun z => c1 (z.2 i hi2)
    refine to_s ⟨⟨m, rfl, rfl, rfl⟩, ?_⟩
    rcases hb with ⟨b20, bn⟩ | ⟨g, g1, g2, g3, g4, g5, g6⟩
    · exact Or.inl ⟨b20, fun q hq => hq.elim (bn q) (fun z => by rw [z]; exact ng)⟩
    · exact Or.inr ⟨g, g1, g2, g3, g4, g5, fun q hq wq => hq.elim (fun z => g6 q z wq) (fun z => absurd (by rw [← z]; exact wq) ng)⟩
  rw [if_pos (nI_le c1 (by omega)), oi_nI (by decide) hi2]
  have st : ∀ q : Int32, q = nI (wvb T (gP u D L p) i) → TO (fun y => TF v w y ∧ BST T (fun g => S g ∨ g = gP u D L p) y) (f_X10_tryPicks_L176 (f_X10_tryPicks_L130 F) (nI (wlo T - wlf T (gP u D L p))) (nI (wpl T (gP u D L p))) (nI i) q (nI (zs (wvb T (gP u D L p)) i)) w) := by
    intro q eq
    unfold f_X10_tryPicks_L176
    rw [eq, lt_e, lt_e, nI_1, nI_add]
    refine hc2 (nI (zs (wvb T (gP u D L p)) (i + 1)), nI (i + 1), w) hi2 ⟨rfl, fun b hb => ?_⟩
    by_cases z : b = i
    · rw [z]; exact c1
    · exact hwm b (by omega)
  by_cases c2 : wwn (gP u D L p) i = 0
  · rw [c2, if_pos (show nI 0 ≤ (0 : Int32) by decide)]
    exact st 0 (by rw [wvb_0 c2]; rfl)
  · rw [if_neg (nI_nle (by omega) (by omega)), vaV hT hi2 w6 (e22 i hi2) (e23 i hi2) (wsp_b hT hi2) (hr i _ hi2 (by omega)), ob_s]
    exact st _ rfl
/-- the lots, one by one -/
theorem tp34V (h0 : RT k u v) (no : ¬ Opn u) {D : List Int32} {L : Nat} {p : Nat → Nat} {S : (Nat → Nat) → Prop} (hL : L ≤ 6) (eT : wlo (TU u D) = L) (m : WK v w) (o : WOu u D L w) (pk : PKp L p w) (bx : BXp u D L p) (e2 : gI w 2 = nI L) (z22 : ∀ b : Nat, b < 8 → gA w 22 b = 0 ∧ gA w 23 b = 0) (hb : BST (TU u D) S w) : TO (fun y => TF v w y ∧ BST (TU u D) (fun g => S g ∨ g = gP u D L p) y) (f_X10_tryPicks_L34 FU (0 : Int32) (0 : Int32) (0 : Int32) w) := by
  have hT := TU_k h0 D
  have eL : nn (gI u 2) = L := eT
  refine loopR (fun F (x : Int32 × Int32 × Int32 × SS) => f_X10_tryPicks_L34 F x.1 x.2.1 x.2.2.1 x.2.2.2) (fun i x => x.1 = nI (zs (fun l => if gP u D L p l < 8 then 1 else 0) i) ∧ x.2.1 = nI (zs (fun l => if gP u D L p l < 8 then wpc (TU u D) l (gP u D L p l) else 0) i) ∧ x.2.2.1 = nI i ∧ OF w x.2.2.2 ∧ ∀ b : Nat, b < 8 → gA x.2.2.2 22 b = nI (zs (fun l => if gP u D L p l = b then 1 else 0) i) ∧ gA x.2.2.2 23 b = nI (zs (fun l => if gP u D L p l = b then wpz (TU u D) l b else 0) i)) _ L ?_ (F := FU) (x := ((0 : Int32), (0 : Int32), (0 : Int32), w)) (Nat.lt_trans (show L < 1000 by omega) FU_ge) ⟨rfl, rfl, rfl, ⟨fun _ => rfl, fun _ _ _ => rfl⟩, fun b hb => z22 b hb⟩
  intro F x i hi hI hc2
  obtain ⟨b1, b2, b3, y⟩ := x
  obtain ⟨e1, ep, e3, f, cn⟩ := hI
  have e1 : b1 = nI (zs (fun l => if gP u D L p l < 8 then 1 else 0) i) := e1
  have ep : b2 = nI (zs (fun l => if gP u D L p l < 8 then wpc (TU u D) l (gP u D L p l) else 0) i) := ep
  have e3 : b3 = nI i := e3
  have f : OF w y := f
  have cn : ∀ b : Nat, b < 8 → gA y 22 b = nI (zs (fun l => if gP u D L p l = b then 1 else 0) i) ∧ gA y 23 b = nI (zs (fun l => if gP u D L p l = b then wpz (TU u D) l b else 0) i) := cn
  subst e1
  subst ep
  subst e3
  have my : WK v y := WK_k m (OF_mk f)
  have oy : WOu u D L y := by unfold WOu; rw [f.2 19 (by decide) (by decide), f.2 20 (by decide) (by decide)]; exact o
  have py : PKp L p y := by unfold PKp; rw [f.2 21 (by decide) (by decide)]; exact pk
  show TO _ (b_X10_tryPicks_L34 (f_X10_tryPicks_L34 F) (nI (zs (fun l => if gP u D L p l < 8 then 1 else 0) i)) (nI (zs (fun l => if gP u D L p l < 8 then wpc (TU u D) l (gP u D L p l) else 0) i)) (nI i) y)
  unfold b_X10_tryPicks_L34 f_X10_tryPicks_L119
  rw [f.1 2, e2]
  by_cases c : i = L
  · subst c
    rw [if_pos (nI_le (Nat.le_refl _) (by omega))]
    have g8 : ∀ l : Nat, gP u D i p l ≤ 8 := fun l => gP_8
    have n8 : ∀ b l : Nat, b < 8 → i ≤ l → ¬ gP u D i p l = b := fun b l hb hl z => by
      have := gP_L (u := u) (D := D) (p := p) hl
      omega
    have me := many_e (T := TU u D) (g := gP u D i p) (by omega) g8
    rw [eT] at me
    have pe : zs (fun l => if gP u D i p l < 8 then wpc (TU u D) l (gP u D i p l) else 0) i = wpl (TU u D) (gP u D i p) := (zs_6 hL (fun l h1 _ => if_neg (by have := gP_L (u := u) (D := D) (p := p) h1; omega))).symm
    rw [me, pe]
    have key := tp130V (v := v) (w := y) (S := S) hT hL eT my oy py bx ((f.1 2).trans e2) (fun l hl => ?_) (fun b hb => ?_) (fun b q hb hq => ?_) (fun b hb => ?_) (fun b hb => ?_) (BST_f hb (f.1 19) (f.1 20) (f.1 21) (f.2 18 (by decide) (by decide)))
    · rw [eT] at key
      exact to_w key (fun z hz => ⟨⟨hz.1.1, hz.1.2.1.trans (f.2 19 (by decide) (by decide)), hz.1.2.2.1.trans (f.2 20 (by decide) (by decide)), hz.1.2.2.2.trans (f.2 21 (by decide) (by decide))⟩, hz.2⟩)
    · by_cases z : l < i ∧ p l < (ordS u D l 8).1
      · refine Or.inr ⟨by rw [gP_t z.1 z.2]; exact ordB z.2, ?_⟩
        rw [gP_t z.1 z.2]
        show pcU u D l ((ordS u D l 8).2 (p l)) < 8
        rw [pcU_j (by omega) z.2]
        have := ord8 u D l
        omega
      · exact Or.inl (if_neg z)
    · obtain ⟨e, q, hq, eq⟩ := h0.2.2.2.2.2.2.2.2.2.2.1.1 b hb
      rw [my.1.2 16 (by unfold kMA; omega), e]
      show gA u 20 b = nI (nn (gA u 20 b)) ∧ nn (gA u 20 b) ≤ 6
      rw [eq, nn_nI (by omega)]; exact ⟨rfl, hq⟩
    · obtain ⟨e, r, hr, er⟩ := h0.2.2.2.2.2.2.2.2.2.2.1.2 b q hb hq
      rw [my.1.2 17 (by unfold kMA; omega), e]
      show gA u 22 (b * 7 + q) = nI (nn (gA u 22 (b * 7 + q)))
      rw [er, nn_nI (by omega)]
    · rw [(cn b hb).1]
      exact congrArg nI (zs_6 hL (fun l h1 _ => if_neg (n8 b l hb h1))).symm
    · rw [(cn b hb).2]
      exact congrArg nI (zs_6 hL (fun l h1 _ => if_neg (n8 b l hb h1))).symm
  have hi2 : i < L := by omega
  obtain ⟨o1, o2⟩ := oy i hi2
  have m8 := ord8 u D i
  have b8 := bx i hi2
  rw [if_neg (nI_ge hi2 (by omega)), oi_nI (by decide) (show i < 6 by omega), oi_nI (by decide) (show i < 6 by omega), nI_clamp (show i < 2 ^ 31 by omega), o1, py i hi2]
  by_cases c1 : (ordS u D i 8).1 ≤ p i
  · rw [if_pos (nI_le c1 (by omega)), lt_e, nI_1]
    have g8 : gP u D L p i = 8 := gP_n c1
    refine hc2 (_, _, nI (i + 1), y) hi2 ⟨?_, ?_, rfl, f, fun b hb => ?_⟩
    · show nI (zs (fun l => if gP u D L p l < 8 then 1 else 0) i) = nI (zs (fun l => if gP u D L p l < 8 then 1 else 0) i + (if gP u D L p i < 8 then 1 else 0))
      rw [if_neg (show ¬ gP u D L p i < 8 by omega)]; rfl
    · show nI (zs (fun l => if gP u D L p l < 8 then wpc (TU u D) l (gP u D L p l) else 0) i) = nI (zs (fun l => if gP u D L p l < 8 then wpc (TU u D) l (gP u D L p l) else 0) i + (if gP u D L p i < 8 then wpc (TU u D) i (gP u D L p i) else 0))
      rw [if_neg (show ¬ gP u D L p i < 8 by omega)]; rfl
    · show gA y 22 b = nI (zs (fun l => if gP u D L p l = b then 1 else 0) i + (if gP u D L p i = b then 1 else 0)) ∧ gA y 23 b = nI (zs (fun l => if gP u D L p l = b then wpz (TU u D) l b else 0) i + (if gP u D L p i = b then wpz (TU u D) i b else 0))
      rw [if_neg (show ¬ gP u D L p i = b by omega), if_neg (show ¬ gP u D L p i = b by omega)]
      exact cn b hb
  have lt1 : p i < (ordS u D i 8).1 := by omega
  have q8 := ordB (u := u) (D := D) lt1
  have ge : gP u D L p i = (ordS u D i 8).2 (p i) := gP_t hi2 lt1
  rw [if_neg (nI_ge lt1 (by omega)), oi_nI (by decide) (show i < 6 by omega), cellM, oi_nI (by decide) (show 8 * i + p i < 48 by omega), nI_clamp (show 8 * i + p i < 2 ^ 31 by omega), o2 (p i) lt1, lt_e]
  have pc : pcU u D i ((ordS u D i 8).2 (p i)) = p i := pcU_j (by omega) lt1
  generalize (ordS u D i 8).2 (p i) = q at q8 ge pc ⊢
  obtain ⟨n22, n23⟩ := cn q q8
  rw [oi_nI (by decide) q8, oi_nI (by decide) q8, lt_e, oi_nI (by decide) q8, nI_clamp (show q < 2 ^ 31 by omega), n22, nI_1, cellM]
  have f2 : OF w (tA y 22 (nI q) (nI (zs (fun l => if gP u D L p l = q then 1 else 0) i + 1))) := OF_A (by omega) f
  have m2 : WK v (tA y 22 (nI q) (nI (zs (fun l => if gP u D L p l = q then 1 else 0) i + 1))) := WK_k m (OF_mk f2)
  rw [prM (RT_wk h0 no m2) q8 (show i < 6 by omega), ob_s, oi_nI (by decide) q8, lt_e, oi_nI (by decide) (show i < 6 by omega), lt_e, lt_e, lt_e, nI_1, nI_1, tAn (show (23 : Nat) ≠ 22 by decide), n23, nI_add, tAn (show (21 : Nat) ≠ 23 by decide), tAn (show (21 : Nat) ≠ 22 by decide), py i hi2, nI_add]
  refine hc2 (_, _, nI (i + 1), _) hi2 ⟨?_, ?_, rfl, OF_A (by omega) f2, fun b hb => ?_⟩
  · show nI (zs (fun l => if gP u D L p l < 8 then 1 else 0) i + 1) = nI (zs (fun l => if gP u D L p l < 8 then 1 else 0) i + (if gP u D L p i < 8 then 1 else 0))
    rw [if_pos (show gP u D L p i < 8 by omega)]
  · show nI (zs (fun l => if gP u D L p l < 8 then wpc (TU u D) l (gP u D L p l) else 0) i + p i) = nI (zs (fun l => if gP u D L p l < 8 then wpc (TU u D) l (gP u D L p l) else 0) i + (if gP u D L p i < 8 then wpc (TU u D) i (gP u D L p i) else 0))
    rw [if_pos (show gP u D L p i < 8 by omega), ge, show wpc (TU u D) i q = p i from pc]
  · show gA (tA (tA y 22 (nI q) (nI (zs (fun l => if gP u D L p l = q then 1 else 0) i + 1))) 23 (nI q) (nI (zs (fun l => if gP u D L p l = q then wpz (TU u D) l q else 0) i + prN u (q * 6 + i)))) 22 b = nI (zs (fun l => if gP u D L p l = b then 1 else 0) i + (if gP u D L p i = b then 1 else 0)) ∧ gA (tA (tA y 22 (nI q) (nI (zs (fun l => if gP u D L p l = q then 1 else 0) i + 1))) 23 (nI q) (nI (zs (fun l => if gP u D L p l = q then wpz (TU u D) l q else 0) i + prN u (q * 6 + i)))) 23 b = nI (zs (fun l => if gP u D L p l = b then wpz (TU u D) l b else 0) i + (if gP u D L p i = b then wpz (TU u D) i b else 0))
    rw [tAn (show (22 : Nat) ≠ 23 by decide), tAe, tAe, nI_clamp (show q < 2 ^ 31 by omega), tAn (show (23 : Nat) ≠ 22 by decide)]
    by_cases z : b = q
    · subst z
      rw [upd_s, upd_s, if_pos ge, if_pos ge]; exact ⟨rfl, rfl⟩
    · rw [upd_n _ _ z, upd_n _ _ z, if_neg (show ¬ gP u D L p i = b by omega), if_neg (show ¬ gP u D L p i = b by omega)]
      exact cn b hb
theorem tpV (h0 : RT k u v) (no : ¬ Opn u) {D : List Int32} {L : Nat} {p : Nat → Nat} {S : (Nat → Nat) → Prop} (hL : L ≤ 6) (eT : wlo (TU u D) = L) (m : WK v w) (o : WOu u D L w) (pk : PKp L p w) (bx : BXp u D L p) (e2 : gI w 2 = nI L) (hb : BST (TU u D) S w) : TO (fun y => TF v w y ∧ BST (TU u D) (fun g => S g ∨ g = gP u D L p) y) (f_X10_tryPicks w) := by
  refine loopR (fun F (x : Int32 × SS) => f_X10_tryPicks_L6 F (0 : Int32) (0 : Int32) x.1 x.2) (fun i x => x.1 = nI i ∧ OF w x.2 ∧ ∀ b : Nat, b < i → gA x.2 22 b = 0 ∧ gA x.2 23 b = 0) _ 8 ?_ (F := FU) (x := ((0 : Int32), w)) (Nat.lt_trans (by decide) FU_ge) ⟨rfl, ⟨fun _ => rfl, fun _ _ _ => rfl⟩, fun b hb => absurd hb (Nat.not_lt_zero b)⟩
  intro F x i hi hI hc2
  obtain ⟨b3, y⟩ := x
  obtain ⟨e, f, z0⟩ := hI
  have e : b3 = nI i := e
  have f : OF w y := f
  have z0 : ∀ b : Nat, b < i → gA y 22 b = 0 ∧ gA y 23 b = 0 := z0
  subst e
  show TO _ (b_X10_tryPicks_L6 (f_X10_tryPicks_L6 F) (0 : Int32) (0 : Int32) (nI i) y)
  unfold b_X10_tryPicks_L6
  by_cases c : i = 8
  · subst c
    rw [if_pos (show (8 : Int32) ≤ nI 8 by decide)]
    refine to_w (tp34V h0 no hL eT (WK_k m (OF_mk f)) ?_ ?_ bx ((f.1 2).trans e2) z0 (BST_f hb (f.1 19) (f.1 20) (f.1 21) (f.2 18 (by decide) (by decide)))) (fun z hz => ⟨⟨hz.1.1, hz.1.2.1.trans (f.2 19 (by decide) (by decide)), hz.1.2.2.1.trans (f.2 20 (by decide) (by decide)), hz.1.2.2.2.trans (f.2 21 (by decide) (by decide))⟩, hz.2⟩)
    · unfold WOu; rw [f.2 19 (by decide) (by decide), f.2 20 (by decide) (by decide)]; exact o
    · unfold PKp; rw [f.2 21 (by decide) (by decide)]; exact pk
  · have hi2 : i < 8 := by omega
    rw [if_neg (show ¬ (8 : Int32) ≤ nI i from nI_ge (b := 8) hi2 (by decide)), oi_nI (by decide) hi2, lt_e, oi_nI (by decide) hi2, lt_e, lt_e, nI_1]
    refine hc2 (nI (i + 1), _) hi2 ⟨rfl, OF_A (by omega) (OF_A (by omega) f), fun b hb => ?_⟩
    show gA (tA (tA y 22 (nI i) 0) 23 (nI i) 0) 22 b = 0 ∧ gA (tA (tA y 22 (nI i) 0) 23 (nI i) 0) 23 b = 0
    rw [tAn (show (22 : Nat) ≠ 23 by decide), tAe, tAe, nI_clamp (show i < 2 ^ 31 by omega), tAn (show (23 : Nat) ≠ 22 by decide)]
    by_cases z : b = i
    · rw [z, upd_s, upd_s]; exact ⟨rfl, rfl⟩
    · rw [upd_n _ _ z, upd_n _ _ z]; exact z0 b (by omega)
end ST53
