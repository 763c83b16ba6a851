section ST50
variable {k n : Nat} {u v w x y : SS}
theorem f64V (w : SS) : TO (fun y => SFr w y ∧ ∀ S : Nat, S < 64 → gL y 6 S = MAXL) (f_J7_fill_d0a16_40 MAXL w) := by
  refine loopR (fun F (x : Int32 × SS) => f_J7_fill_d0a16_40_L6 F MAXL x.1 (64 : Int32) x.2) (fun i x => x.1 = nI i ∧ SFr w x.2 ∧ ∀ S : Nat, S < i → gL x.2 6 S = MAXL) _ 64 ?_ (F := FU) (x := ((0 : Int32), w)) (Nat.lt_trans (by decide) FU_ge) ⟨rfl, SFr_r w, fun S hS => absurd hS (Nat.not_lt_zero S)⟩
  intro F x i hi hI hc2
  obtain ⟨b3, y⟩ := x
  obtain ⟨e, f, g⟩ := hI
  have e : b3 = nI i := e
  have f : SFr w y := f
  have g : ∀ S : Nat, S < i → gL y 6 S = MAXL := g
  subst e
  show TO _ (b_J7_fill_d0a16_40_L6 (f_J7_fill_d0a16_40_L6 F) MAXL (nI i) (64 : Int32) y)
  unfold b_J7_fill_d0a16_40_L6
  by_cases c : i = 64
  · subst c
    rw [if_pos (show (64 : Int32) ≤ nI 64 by decide)]; exact to_s ⟨f, g⟩
  have hi2 : i < 64 := by omega
  rw [if_neg (show ¬ (64 : Int32) ≤ nI i from nI_ge (b := 64) hi2 (by decide)), oi_nI (by decide) hi2, lt_e, lt_e, nI_1]
  refine hc2 (nI (i + 1), _) hi2 ⟨rfl, SFr_L f, fun S hS => ?_⟩
  show gL (tL y 6 (nI i) MAXL) 6 S = MAXL
  rw [tLe, nI_clamp (by omega)]
  by_cases q : S = i
  · rw [q, pk_uLs]
  · rw [pk_uLn q]; exact g S (by omega)
theorem se27V {T : TD} {P : SS → Prop} {b : Nat} (hT : TDk T) (hb : b < 8) (b1 : Int32) (k19 : Int32 → Int32 → SS → Option SS) (hW : WTc T w) (h0 : ∀ S : Nat, S < 64 → MinO (VL T b S) (gL w 6 S)) (hk : ∀ y, SFr w y → (∀ S : Nat, S < 64 → MinO (VL T (b + 1) S) (gL y 6 S)) → TO P (k19 b1 (nI (b + 1)) y)) : TO P (f_X8_search_L27 k19 FU b1 (nI b) (1 : Int32) w) := by
  refine loopG (fun F (x : Int32 × SS) => f_X8_search_L27 k19 F b1 (nI b) x.1 x.2) (fun i x => x.1 = nI i ∧ SFr w x.2 ∧ gL x.2 6 = gL w 6 ∧ ∀ X : Nat, 0 < X → X < i → (zoS T b X ∧ gL x.2 7 X = lN (zcS T b X)) ∨ (¬ zoS T b X ∧ gL x.2 7 X = MAXL)) _ 64 ?_ 63 1 FU ((1 : Int32), w) (by omega) (Nat.lt_trans (by decide) FU_ge) ⟨rfl, SFr_r w, rfl, fun X x0 x1 => absurd x1 (by omega)⟩
  intro F x i hi hI hc2
  obtain ⟨b3, y⟩ := x
  obtain ⟨e, f, e6, g⟩ := hI
  have e : b3 = nI i := e
  have f : SFr w y := f
  have e6 : gL y 6 = gL w 6 := e6
  have g : ∀ X : Nat, 0 < X → X < i → (zoS T b X ∧ gL y 7 X = lN (zcS T b X)) ∨ (¬ zoS T b X ∧ gL y 7 X = MAXL) := g
  subst e
  show TO _ (b_X8_search_L27 k19 (f_X8_search_L27 k19 F) b1 (nI b) (nI i) y)
  unfold b_X8_search_L27
  by_cases c : i = 64
  · subst c
    rw [if_pos (show (64 : Int32) ≤ nI 64 by decide)]
    refine to_v (adV hT hb (w := y) g (fun S hS => by rw [e6]; exact h0 S hS)) (fun z hz => ?_)
    rw [lt_e, nI_1]
    exact hk z (SFr_t f hz.1) hz.2
  have hi2 : i < 64 := by omega
  obtain ⟨q, eq, hq⟩ := coV hT hb hi2 (WTc_s hW f)
  rw [if_neg (show ¬ (64 : Int32) ≤ nI i from nI_ge (b := 64) hi2 (by decide)), eq, ob_s, oi_nI (by decide) hi2, lt_e, lt_e, nI_1]
  refine hc2 (nI (i + 1), _) hi2 ⟨rfl, SFr_L f, ?_, fun X x0 x1 => ?_⟩
  · show gL (tL y 7 (nI i) q) 6 = _
    rw [tLn (by decide)]; exact e6
  · show (zoS T b X ∧ gL (tL y 7 (nI i) q) 7 X = lN (zcS T b X)) ∨ (¬ zoS T b X ∧ gL (tL y 7 (nI i) q) 7 X = MAXL)
    rw [tLe, nI_clamp (by omega)]
    by_cases z : X = i
    · rw [z, pk_uLs]; exact hq
    · rw [pk_uLn z]; exact g X x0 (by omega)
/-- who gets lot l, by the number found -/
def WDg (L K l : Nat) : Int32 := if L ≤ l then -9 else if dv9 (K % 1048576) (5 - l) % 9 = 8 then -9 else nI (dv9 (K % 1048576) (5 - l) % 9)
/-- the class has found the best -/
def CBs (T : TD) (y : SS) : Prop := ∃ K : Nat, wBest T K ∧ gI y 13 = nI (wlo T - K / 72057594037927936) ∧ gI y 14 = nI (K / 67108864 % 1073741824) ∧ ∀ l : Nat, l < 6 → gA y 21 l = WDg (wlo T) K l
theorem dv9_le (x : Nat) : ∀ i : Nat, dv9 x i ≤ x := by
  intro i
  induction i with
  | zero => exact Nat.le_refl _
  | succ i ih =>
    show dv9 x i / 9 ≤ x
    exact Nat.le_trans (Nat.div_le_self _ _) ih
theorem SFr_I {i : Nat} {q : Int32} (hi : i = 13 ∨ i = 14) (h : SFr w y) : SFr w (sI y i q) := ⟨fun j a b => by rw [sIn (by omega)]; exact h.1 j a b, h.2⟩
theorem SFr_A {i q : Int32} (h : SFr w y) : SFr w (tA y 21 i q) := ⟨h.1, fun b hb => by rw [tAn hb]; exact h.2 b hb⟩
theorem keV {T : TD} {K : Nat} (hT : TDk T) (hK : wBest T K) (w : SS) : TO (fun y => SFr w y ∧ CBs T y) (f_X8_keep (lN K) (nI (wlo T)) w) := by
  obtain ⟨⟨g, gk, eK⟩, -⟩ := id hK
  obtain ⟨k1, k2, k3, k4⟩ := wKK_d hT gk
  rw [eK] at k1 k2 k3 k4
  have lf := wb_lf T g
  have L6 := hT.1
  unfold f_X8_keep
  rw [shrL (by omega) ((56 : Int32).toInt64 &&& 63) 56 (by decide), lN_i, shrL (by omega) ((26 : Int32).toInt64 &&& 63) 26 (by decide), andL (Nat.lt_of_le_of_lt (Nat.div_le_self _ _) (by omega)) 30 (by decide), lN_i, andL (by omega) 20 (by decide), lN_i, lt_e, lt_e, lt_e, pk_sub (show K / 2 ^ 56 ≤ wlo T by show K / 72057594037927936 ≤ wlo T; omega)]
  have q20 : K % 2 ^ 20 < 1048576 := Nat.mod_lt _ (by decide)
  refine loopR (fun F (x : Int32 × Int32 × SS) => f_X8_keep_L35 F (nI (wlo T)) x.1 x.2.1 x.2.2) (fun i x => x.1 = nI (dv9 (K % 1048576) i) ∧ ((i ≤ 5 ∧ x.2.1 = nI (5 - i)) ∨ (i = 6 ∧ x.2.1 = -1)) ∧ SFr w x.2.2 ∧ gI x.2.2 13 = nI (wlo T - K / 72057594037927936) ∧ gI x.2.2 14 = nI (K / 67108864 % 1073741824) ∧ ∀ l : Nat, 6 - i ≤ l → l < 6 → gA x.2.2 21 l = WDg (wlo T) K l) _ 6 ?_ (F := FU) (x := (nI (K % 2 ^ 20), (5 : Int32), sI (sI w 13 (nI (wlo T - K / 2 ^ 56))) 14 (nI (K / 2 ^ 26 % 2 ^ 30)))) (Nat.lt_trans (by decide) FU_ge) ⟨rfl, Or.inl ⟨by decide, rfl⟩, SFr_I (by omega) (SFr_I (by omega) (SFr_r w)), rfl, rfl, fun l h1 h2 => absurd h1 (by omega)⟩
  intro F x i hi hI hc2
  obtain ⟨b4, b5, y⟩ := x
  obtain ⟨e4, e5, f, g13, g14, hw⟩ := hI
  have e4 : b4 = nI (dv9 (K % 1048576) i) := e4
  have f : SFr w y := f
  have g13 : gI y 13 = nI (wlo T - K / 72057594037927936) := g13
  have g14 : gI y 14 = nI (K / 67108864 % 1073741824) := g14
  have hw : ∀ l : Nat, 6 - i ≤ l → l < 6 → gA y 21 l = WDg (wlo T) K l := hw
  subst e4
  show TO _ (b_X8_keep_L35 (f_X8_keep_L35 F) (nI (wlo T)) (nI (dv9 (K % 1048576) i)) b5 y)
  unfold b_X8_keep_L35
  rcases e5 with ⟨h5, e5⟩ | ⟨h6, e5⟩
  rotate_left
  · have e5 : b5 = -1 := e5
    subst e5
    rw [if_pos lt_m1]
    exact to_s ⟨f, K, hK, g13, g14, fun l hl => hw l (by omega) hl⟩
  have e5 : b5 = nI (5 - i) := e5
  subst e5
  have dl : dv9 (K % 1048576) i < 2 ^ 31 := Nat.lt_of_le_of_lt (dv9_le _ _) (Nat.lt_trans (Nat.mod_lt K (show 0 < 1048576 by decide)) (by decide))
  rw [if_neg (nI_pos (by omega)), lt_e, lt_e, show nI (dv9 (K % 1048576) i) - nI (dv9 (K % 1048576) i) / (9 : Int32) * (9 : Int32) = nI (dv9 (K % 1048576) i % 9) from pk_rem (d := 9) dl (by decide) (by decide), show nI (dv9 (K % 1048576) i) / (9 : Int32) = nI (dv9 (K % 1048576) (i + 1)) from pk_div (d := 9) dl (by decide) (by decide)]
  have L80 : ∀ x4 : Int32, x4 = WDg (wlo T) K (5 - i) → TO (fun y => SFr w y ∧ CBs T y) (f_X8_keep_L80 (f_X8_keep_L35 F) (nI (wlo T)) (nI (dv9 (K % 1048576) (i + 1))) (nI (5 - i)) x4 (nI (5 - i)) y) := by
    intro x4 h4
    unfold f_X8_keep_L80
    rw [oi_nI (by decide) (show 5 - i < 6 by omega), lt_e, lt_e]
    refine hc2 (nI (dv9 (K % 1048576) (i + 1)), nI (5 - i) + (-1), _) (by omega) ⟨rfl, ?_, SFr_A f, g13, g14, fun l h1 h2 => ?_⟩
    · rcases Nat.lt_or_ge i 5 with z | z
      · refine Or.inl ⟨by omega, ?_⟩
        show nI (5 - i) + (-1) = nI (5 - (i + 1))
        rw [show 5 - i = (5 - (i + 1)) + 1 by omega]; exact pk_m1 _
      · refine Or.inr ⟨by omega, ?_⟩
        show nI (5 - i) + (-1) = -1
        rw [show 5 - i = 0 by omega]; rfl
    · show gA (tA y 21 (nI (5 - i)) x4) 21 l = _
      rw [tAe, nI_clamp (by omega)]
      by_cases z : l = 5 - i
      · rw [z, upd_s]; exact h4
      · rw [upd_n _ _ z]; exact hw l (by omega) h2
  have e55 : 5 - (5 - i) = i := by omega
  unfold f_X8_keep_L73
  by_cases c1 : wlo T ≤ 5 - i
  · rw [if_pos (nI_le c1 (by omega))]
    exact L80 _ (by unfold WDg; rw [if_pos c1])
  rw [if_neg (nI_ge (show 5 - i < wlo T by omega) (by omega))]
  have m := Nat.mod_lt (dv9 (K % 1048576) i) (show 0 < 9 by decide)
  by_cases c2 : dv9 (K % 1048576) i % 9 = 8
  · rw [c2, if_pos (show nI 8 = (8 : Int32) by decide)]
    exact L80 _ (by unfold WDg; rw [if_neg c1, e55, if_pos c2])
  · rw [if_neg (show ¬ nI (dv9 (K % 1048576) i % 9) = (8 : Int32) from fun z => c2 ((nI_eq (b := 8) (by omega) (by decide)).mp z))]
    exact L80 _ (by unfold WDg; rw [if_neg c1, e55, if_neg c2])
theorem se68V {T : TD} (hT : TDk T) (h8 : ∀ S : Nat, S < 64 → MinO (VL T 8 S) (gL w 6 S)) : TO (fun y => SFr w y ∧ CBs T y) (f_X8_search_L68 FU (nI (wlo T)) MAXL (0 : Int32) w) := by
  have L6 := hT.1
  refine loopR (fun F (x : Int64 × Int32 × SS) => f_X8_search_L68 F (nI (wlo T)) x.1 x.2.1 x.2.2) (fun i x => x.2 = (nI i, w) ∧ MinO (fun K => ∃ S c : Nat, S < i ∧ VL T 8 S c ∧ K = c + zrS T S) x.1) _ 64 ?_ (F := FU) (x := (MAXL, (0 : Int32), w)) (Nat.lt_trans (by decide) FU_ge) ⟨rfl, Or.inl ⟨rfl, fun K ⟨S, c, h, _⟩ => absurd h (Nat.not_lt_zero S)⟩⟩
  intro F x i hi hI hc
  obtain ⟨b2, b4, y⟩ := x
  obtain ⟨e, m⟩ := hI
  have m : MinO (fun K => ∃ S c : Nat, S < i ∧ VL T 8 S c ∧ K = c + zrS T S) b2 := m
  obtain ⟨rfl, rfl⟩ := Prod.mk.inj e
  show TO _ (b_X8_search_L68 (f_X8_search_L68 F) (nI (wlo T)) b2 (nI i) y)
  unfold b_X8_search_L68 f_X8_search_L108
  by_cases c : i = 64
  · subst c
    rw [if_pos (show (64 : Int32) ≤ nI 64 by decide)]
    rcases m with ⟨-, n⟩ | ⟨K, hK, e, pK, mK⟩
    · exact absurd ⟨0, 0, by decide, VL_00 T 8, rfl⟩ (n (0 + zrS T 0))
    · have e : b2 = lN K := e
      rw [e]
      have bK : wBest T K := VL_best pK (fun S c hS hv => mK _ ⟨S, c, hS, hv, rfl⟩)
      exact to_v (keV hT bK y) (fun z hz => to_s hz)
  have hi2 : i < 64 := by omega
  have st : ∀ q : Int64, MinO (fun K => ∃ S c : Nat, S < i + 1 ∧ VL T 8 S c ∧ K = c + zrS T S) q → TO (fun z => SFr y z ∧ CBs T z) (lt (nI i + (1 : Int32)) fun x6 => f_X8_search_L68 F (nI (wlo T)) q x6 y) := by
    intro q mq
    rw [lt_e, nI_1]; exact hc (q, nI (i + 1), y) hi2 ⟨rfl, mq⟩
  have dec : ∀ K : Nat, (∃ S c : Nat, S < i + 1 ∧ VL T 8 S c ∧ K = c + zrS T S) ↔ ((∃ S c : Nat, S < i ∧ VL T 8 S c ∧ K = c + zrS T S) ∨ ∃ c1 : Nat, VL T 8 i c1 ∧ K = c1 + zrS T i) := by
    intro K
    constructor
    · rintro ⟨S, d, h1, h2, h3⟩
      by_cases q : S = i
      · rw [q] at h2 h3; exact Or.inr ⟨d, h2, h3⟩
      · exact Or.inl ⟨S, d, by omega, h2, h3⟩
    · rintro (⟨S, d, h1, h2⟩ | ⟨d, h⟩)
      · exact ⟨S, d, by omega, h2⟩
      · exact ⟨i, d, by omega, h⟩
  rw [if_neg (show ¬ (64 : Int32) ≤ nI i from nI_ge (b := 64) hi2 (by decide)), oi_nI (by decide) hi2, nI_clamp (show i < 2 ^ 31 by omega)]
  have mi := h8 i hi2
  by_cases z : gL y 6 i = MAXL
  · rw [z, if_pos ((lg_cmp_eq _ _).mpr rfl)]
    refine st _ (MinO_c (fun K => ?_) m)
    rw [dec K]
    refine ⟨Or.inl, fun q => q.resolve_right (fun ⟨c1, q1, _⟩ => ?_)⟩
    rcases mi with ⟨-, n⟩ | ⟨c2, h2, e2, -⟩
    · exact n c1 q1
    · exact lt_max h2 (e2.symm.trans z)
  · rw [if_neg (fun q => z ((lg_cmp_eq _ _).mp q)), oi_nI (by decide) hi2, crV hi2 L6, ob_s, lt_e]
    exact st _ (MinO_a m mi z (fun c hv => VL_b hT (Nat.le_refl 8) hi2 hv) dec)
theorem seV {T : TD} (hT : TDk T) (hW : WTc T w) : TO (fun y => SFr w y ∧ CBs T y) (f_X8_search (nI (wlo T)) w) := by
  unfold f_X8_search
  refine to_v (f64V w) (fun y hy => ?_)
  obtain ⟨fy, my⟩ := hy
  rw [oi_in (by decide) (show rg 64 (0 : Int32) from ⟨0, by decide, rfl⟩), lt_e]
  refine loopR (fun F (x : Int32 × SS) => f_X8_search_L19 F (nI (wlo T)) x.1 x.2) (fun i x => x.1 = nI i ∧ SFr w x.2 ∧ ∀ S : Nat, S < 64 → MinO (VL T i S) (gL x.2 6 S)) _ 8 ?_ (F := FU) (x := ((0 : Int32), tL y 6 (0 : Int32) (0 : Int64))) (Nat.lt_trans (by decide) FU_ge) ⟨rfl, SFr_L fy, fun S hS => ?_⟩
  rotate_left
  · show MinO (VL T 0 S) (gL (tL y 6 (0 : Int32) (0 : Int64)) 6 S)
    rw [tLe, show (0 : Int32).toNatClampNeg = 0 by decide]
    by_cases z : S = 0
    · rw [z, pk_uLs]
      exact Or.inr ⟨0, by decide, rfl, ⟨rfl, rfl⟩, fun c _ => Nat.zero_le c⟩
    · rw [pk_uLn z]
      exact Or.inl ⟨my S hS, fun c q => z q.1⟩
  intro F x i hi hI hc2
  obtain ⟨b3, y⟩ := x
  obtain ⟨e, f, m⟩ := hI
  have e : b3 = nI i := e
  have f : SFr w y := f
  have m : ∀ S : Nat, S < 64 → MinO (VL T i S) (gL y 6 S) := m
  subst e
  show TO _ (b_X8_search_L19 (f_X8_search_L19 F) (nI (wlo T)) (nI i) y)
  unfold b_X8_search_L19
  by_cases c : i = 8
  · subst c
    rw [if_pos (show (8 : Int32) ≤ nI 8 by decide)]
    exact to_w (se68V hT m) (fun z hz => ⟨SFr_t f hz.1, hz.2⟩)
  · have hi2 : i < 8 := by omega
    rw [if_neg (show ¬ (8 : Int32) ≤ nI i from nI_ge (b := 8) hi2 (by decide))]
    exact se27V hT hi2 (nI (wlo T)) _ (WTc_s hW f) m (fun z fz mz => hc2 (nI (i + 1), z) hi2 ⟨rfl, SFr_t f fz, mz⟩)
end ST50
