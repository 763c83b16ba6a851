section ST51
variable {k n : Nat} {u v v2 w x y : SS}
/-! what the orders look at -/
def CG (u w : SS) : Prop := (∀ c : Nat, Std w c ↔ Std u c) ∧ gA w 1 = gA u 1 ∧ gA w 2 = gA u 2 ∧ gA w 6 = gA u 6 ∧ gA w 7 = gA u 7 ∧ gA w 8 = gA u 8 ∧ gA w 9 = gA u 9 ∧ gA w 10 = gA u 10 ∧ gA w 11 = gA u 11
theorem CG_b (f : FrB u w) : CG u w := by
  refine ⟨fun c => ?_, f.2 1 (by unfold kBA; omega), f.2 2 (by unfold kBA; omega), f.2 6 (by unfold kBA; omega), f.2 7 (by unfold kBA; omega), f.2 8 (by unfold kBA; omega), f.2 9 (by unfold kBA; omega), f.2 10 (by unfold kBA; omega), f.2 11 (by unfold kBA; omega)⟩
  unfold Std Lps
  rw [f.2 3 (by unfold kBA; omega), f.2 4 (by unfold kBA; omega), f.2 5 (by unfold kBA; omega), f.1 0 (by unfold kBI; omega)]
theorem prN_g {c : Nat} (g : CG u w) : prN w c = prN u c := by
  obtain ⟨-, g1, g2, g6, g7, g8, g9, -⟩ := g
  unfold prN p0N ctN isN
  rw [g1, g2, g6, g7, g8, g9]
theorem INC_g {l b : Nat} {a : Int32} (g : CG u w) : INC w l a b ↔ INC u l a b := by
  unfold INC
  rw [g.1]
theorem SL_g {l s : Nat} {a : Int32} (g : CG u w) : SL w l a s ↔ SL u l a s := by
  unfold SL
  rw [g.2.2.2.2.2.2.2.2]
  constructor
  · rintro ⟨b, h1, h2, h3, h4⟩
    exact ⟨b, h1, h2, (g.1 _).mp h3, h4⟩
  · rintro ⟨b, h1, h2, h3, h4⟩
    exact ⟨b, h1, h2, (g.1 _).mpr h3, h4⟩
theorem qv_g {l c : Nat} {a : Int32} (g : CG u w) : ∀ s : Nat, qv w l a c s = qv u l a c s := by
  intro s
  induction s with
  | zero => rfl
  | succ s ih =>
    have e10 : gA w 10 = gA u 10 := g.2.2.2.2.2.2.2.1
    by_cases z : gA u 10 (s * 48 + c) = -9 ∨ SL u l a s
    · rw [qv_t z, qv_t (u := w) (by rw [e10, SL_g g]; exact z), ih]
    · rw [qv_f z, qv_f (u := w) (by rw [e10, SL_g g]; exact z), ih, e10]
theorem qS_g {l c : Nat} {a : Int32} (g : CG u w) : qS w l a c = qS u l a c := by
  unfold qS
  rw [qv_g g]
theorem qC_g {l c : Nat} {a : Int32} (g : CG u w) : qC w l a c = qC u l a c := by
  unfold qC
  rw [qv_g g]
theorem gv_g {l : Nat} {a : Int32} (g : CG u w) : ∀ i : Nat, gv w l a i = gv u l a i := by
  intro i
  induction i with
  | zero => rfl
  | succ i ih =>
    by_cases z : INC u l a i
    · rw [gv_t z, gv_t ((INC_g g).mpr z), ih, prN_g g, qS_g g, qC_g g]
    · rw [gv_f z, gv_f (fun q => z ((INC_g g).mp q)), ih]
theorem NM_g {l b : Nat} {a : Int32} (g : CG u w) : NM w l a b = NM u l a b := by
  funext j
  unfold NM
  rw [prN_g g, gv_g g, qS_g g, qC_g g]
theorem PV_g {D : List Int32} {l b : Nat} {a : Int32} (g : CG u w) : PV w D l a b = PV u D l a b := by
  unfold PV
  rw [NM_g g]
theorem AH_g {D : List Int32} {l : Nat} {a : Int32} (g : CG u w) : AH w D l a = AH u D l a := by
  funext i j
  unfold AH
  rw [PV_g g, PV_g g, qS_g g, qC_g g, qS_g g, qC_g g, prN_g g, prN_g g]
theorem ordS_g {D : List Int32} {l : Nat} (g : CG u w) : ∀ i : Nat, ordS w D l i = ordS u D l i := by
  intro i
  induction i with
  | zero => rfl
  | succ i ih =>
    by_cases z : INC u l (-1) i ∧ evl (NM u l (-1) i) D = some [PV u D l (-1) i]
    · rw [ordS_t z, ordS_t (u := w) ⟨(INC_g g).mpr z.1, by rw [NM_g g, PV_g g]; exact z.2⟩, ih, AH_g g]
    · rw [ordS_f z, ordS_f (u := w) (fun q => z ⟨(INC_g g).mp q.1, by rw [← NM_g g, ← PV_g g]; exact q.2⟩), ih]
/-! nobody stands twice in an order -/
theorem insR_d {A : Nat → Nat → Prop} {b n : Nat} : ∀ (p : Nat) (R : Nat → Nat), p ≤ n → (∀ i j : Nat, i ≤ n → j ≤ n → i ≠ p → j ≠ p → R i = R j → i = j) → (∀ i : Nat, i ≤ n → i ≠ p → R i ≠ b) → ∀ i j : Nat, i ≤ n → j ≤ n → insR A b p R i = insR A b p R j → i = j := by
  intro p
  have last : ∀ (p : Nat) (R : Nat → Nat), p ≤ n → (∀ i j : Nat, i ≤ n → j ≤ n → i ≠ p → j ≠ p → R i = R j → i = j) → (∀ i : Nat, i ≤ n → i ≠ p → R i ≠ b) → ∀ i j : Nat, i ≤ n → j ≤ n → updN R p b i = updN R p b j → i = j := by
    intro p R hp h1 h2 i j hi hj e
    by_cases zi : i = p
    · by_cases zj : j = p
      · omega
      · rw [zi, updN_s, updN_n zj] at e
        exact absurd e.symm (h2 j hj zj)
    · by_cases zj : j = p
      · rw [zj, updN_s, updN_n zi] at e
        exact absurd e (h2 i hi zi)
      · rw [updN_n zi, updN_n zj] at e
        exact h1 i j hi hj zi zj e
  induction p with
  | zero => intro R hp h1 h2; exact last 0 R hp h1 h2
  | succ p ih =>
    intro R hp h1 h2
    by_cases c : A b (R p)
    · rw [insR_t c]
      refine ih _ (by omega) (fun i j hi hj ni nj e => ?_) (fun i hi ni => ?_)
      · by_cases zi : i = p + 1
        · by_cases zj : j = p + 1
          · omega
          · rw [zi, updN_s, updN_n zj] at e
            exact absurd (h1 p j (by omega) hj (by omega) zj e) (by omega)
        · by_cases zj : j = p + 1
          · rw [zj, updN_s, updN_n zi] at e
            exact absurd (h1 i p hi (by omega) zi (by omega) e) (by omega)
          · rw [updN_n zi, updN_n zj] at e
            exact h1 i j hi hj zi zj e
      · by_cases zi : i = p + 1
        · rw [zi, updN_s]; exact h2 p (by omega) (by omega)
        · rw [updN_n zi]; exact h2 i hi zi
    · rw [insR_f c]; exact last (p + 1) R hp h1 h2
theorem ordS_d {D : List Int32} {l : Nat} : ∀ i : Nat, ∀ a b : Nat, a < (ordS u D l i).1 → b < (ordS u D l i).1 → (ordS u D l i).2 a = (ordS u D l i).2 b → a = b := by
  intro i
  induction i with
  | zero => intro a b ha; exact absurd ha (Nat.not_lt_zero a)
  | succ i ih =>
    by_cases z : INC u l (-1) i ∧ evl (NM u l (-1) i) D = some [PV u D l (-1) i]
    · rw [ordS_t z]
      intro a b ha hb e
      have ha : a < (ordS u D l i).1 + 1 := ha
      have hb : b < (ordS u D l i).1 + 1 := hb
      have om := (ordS_m (u := u) (D := D) (l := l) i).2
      refine insR_d (A := AH u D l (-1)) (b := i) (n := (ordS u D l i).1) (ordS u D l i).1 (ordS u D l i).2 (Nat.le_refl _) (fun p q hp hq np nq e => ih p q (by omega) (by omega) e) (fun p hp np => ?_) a b (by omega) (by omega) e
      have := (om p (by omega)).1
      omega
    · rw [ordS_f z]; exact ih
/-! the tender of a state -/
noncomputable def pcU (u : SS) (D : List Int32) (l b : Nat) : Nat := by
  classical
  exact if h : l < nn (gI u 2) ∧ ∃ j : Nat, j < (ordS u D l 8).1 ∧ (ordS u D l 8).2 j = b then Classical.choose h.2 else 8
theorem pcU_o {D : List Int32} {l b : Nat} (h : pcU u D l b < 8) : l < nn (gI u 2) ∧ pcU u D l b < (ordS u D l 8).1 ∧ (ordS u D l 8).2 (pcU u D l b) = b := by
  by_cases c : l < nn (gI u 2) ∧ ∃ j : Nat, j < (ordS u D l 8).1 ∧ (ordS u D l 8).2 j = b
  · have e : pcU u D l b = Classical.choose c.2 := dif_pos c
    rw [e]
    exact ⟨c.1, Classical.choose_spec c.2⟩
  · have e : pcU u D l b = 8 := dif_neg c
    omega
theorem pcU_j {D : List Int32} {l j : Nat} (hl : l < nn (gI u 2)) (hj : j < (ordS u D l 8).1) : pcU u D l ((ordS u D l 8).2 j) = j := by
  have c : l < nn (gI u 2) ∧ ∃ i : Nat, i < (ordS u D l 8).1 ∧ (ordS u D l 8).2 i = (ordS u D l 8).2 j := ⟨hl, j, hj, rfl⟩
  have e : pcU u D l ((ordS u D l 8).2 j) = Classical.choose c.2 := dif_pos c
  rw [e]
  have s := Classical.choose_spec c.2
  exact ordS_d 8 _ _ s.1 hj s.2
theorem pcU_n {D : List Int32} {l b : Nat} (h : ¬ (l < nn (gI u 2) ∧ ∃ j : Nat, j < (ordS u D l 8).1 ∧ (ordS u D l 8).2 j = b)) : pcU u D l b = 8 := dif_neg h
theorem pcU_g {D : List Int32} {l b : Nat} (g : CG u w) (e2 : gI w 2 = gI u 2) : pcU w D l b = pcU u D l b := by
  unfold pcU
  simp only [ordS_g g, e2]
noncomputable def TU (u : SS) (D : List Int32) : TD := (pcU u D, fun l b => prN u (b * 6 + l), fun b => nn (gA u 20 b), fun b m => nn (gA u 22 (b * 7 + m)), nn (gI u 2))
theorem TU_g {D : List Int32} (g : CG u w) (e2 : gI w 2 = gI u 2) (e20 : gA w 20 = gA u 20) (e22 : gA w 22 = gA u 22) : TU w D = TU u D := by
  unfold TU
  have a : pcU w D = pcU u D := by funext l b; exact pcU_g g e2
  have b : (fun l b => prN w (b * 6 + l)) = (fun l b => prN u (b * 6 + l)) := by funext l b; exact prN_g g
  rw [a, b, e2, e20, e22]
theorem TU_k (h : RT k u v) (D : List Int32) : TDk (TU u D) := by
  obtain ⟨⟨t, L, ht, hL1, hL6, e0, e0m, e2, e2m, e1, e1c⟩, -⟩ := id h
  have eL : nn (gI u 2) = L := by rw [e2, nn_nI (by omega)]
  refine ⟨?_, fun l b hl hb => pr_le (BD_of h hb hl), fun b m hb hm => ?_, fun l b hl z => ?_⟩
  · show nn (gI u 2) ≤ 6; omega
  · show nn (gA u 22 (b * 7 + m)) ≤ 50
    obtain ⟨q, hq, e⟩ := (h.2.2.2.2.2.2.2.2.2.2.1.2 b m hb hm).2
    rw [e, nn_nI (by omega)]; exact hq
  · have hl : nn (gI u 2) ≤ l := hl
    have := (pcU_o (D := D) (show pcU u D l b < 8 from z)).1
    omega
/-! the class lays the orders -/
theorem cvD_b {D : List Int32} (c : cvD u v D) (f : FrB u w) : cvD w v D := by
  obtain ⟨c1, c2, c3, c4⟩ := c
  exact ⟨c1, by rw [f.1 4 (by unfold kBI; omega)]; exact c2, by rw [f.2 13 (by unfold kBA; omega)]; exact c3, c4⟩
theorem KRW_b (f : KRW w y) : FrB w y := ⟨fun i hi => f.1 i (by unfold kBI at hi; omega) (by unfold kBI at hi; omega) (by unfold kBI at hi; omega), fun a ha => f.2.1 a (by unfold kBA at ha; omega) (by unfold kBA at ha; omega)⟩
/-- only places and prices are written -/
def PLF (w y : SS) : Prop := (∀ i : Nat, gI y i = gI w i) ∧ ∀ a : Nat, a ≠ 23 → a ≠ 24 → gA y a = gA w a
theorem PLF_b (f : PLF w y) : FrB w y := ⟨fun i _ => f.1 i, fun a ha => f.2 a (by unfold kBA at ha; omega) (by unfold kBA at ha; omega)⟩
theorem c66 {b l b2 l2 : Nat} (hl : l < 6) (h2 : l2 < 6) : b * 6 + l = b2 * 6 + l2 ↔ b = b2 ∧ l = l2 := by omega
theorem fb50V {P : SS → Prop} {l n : Nat} {R Z : Nat → Nat} (hl : l < 6) (hn : n ≤ 8) (k9 : Int32 → SS → Option SS) (e10 : gI w 10 = nI n) (row : ∀ j : Nat, j < n → gA w 19 j = nI (R j) ∧ R j < 8 ∧ gA w 17 (R j) = nI (Z (R j))) (inj : ∀ i j : Nat, i < n → j < n → R i = R j → i = j) (hk : ∀ y, PLF w y → (∀ b l2 : Nat, b < 8 → l2 < 6 → l2 ≠ l → gA y 23 (b * 6 + l2) = gA w 23 (b * 6 + l2) ∧ gA y 24 (b * 6 + l2) = gA w 24 (b * 6 + l2)) → (∀ j : Nat, j < n → gA y 23 (R j * 6 + l) = nI j ∧ gA y 24 (R j * 6 + l) = nI (Z (R j))) → (∀ b : Nat, b < 8 → (∀ j : Nat, j < n → R j ≠ b) → gA y 23 (b * 6 + l) = gA w 23 (b * 6 + l)) → TO P (k9 (nI (l + 1)) y)) : TO P (f_X9_findBest_L50 k9 FU (nI l) (0 : Int32) w) := by
  refine loopR (fun F (x : Int32 × SS) => f_X9_findBest_L50 k9 F (nI l) x.1 x.2) (fun i x => x.1 = nI i ∧ PLF w x.2 ∧ (∀ b l2 : Nat, b < 8 → l2 < 6 → l2 ≠ l → gA x.2 23 (b * 6 + l2) = gA w 23 (b * 6 + l2) ∧ gA x.2 24 (b * 6 + l2) = gA w 24 (b * 6 + l2)) ∧ (∀ j : Nat, j < i → gA x.2 23 (R j * 6 + l) = nI j ∧ gA x.2 24 (R j * 6 + l) = nI (Z (R j))) ∧ (∀ b : Nat, b < 8 → (∀ j : Nat, j < i → R j ≠ b) → gA x.2 23 (b * 6 + l) = gA w 23 (b * 6 + l))) _ n ?_ (F := FU) (x := ((0 : Int32), w)) (Nat.lt_trans (show n < 1000 by omega) FU_ge) ⟨rfl, ⟨fun _ => rfl, fun _ _ _ => rfl⟩, fun _ _ _ _ _ => ⟨rfl, rfl⟩, fun j hj => absurd hj (Nat.not_lt_zero j), fun _ _ _ => rfl⟩
  intro F x i hi hI hc2
  obtain ⟨b3, y⟩ := x
  obtain ⟨e, f, f1, f2, f3⟩ := hI
  have e : b3 = nI i := e
  have f : PLF w y := f
  have f1 : ∀ b l2 : Nat, b < 8 → l2 < 6 → l2 ≠ l → gA y 23 (b * 6 + l2) = gA w 23 (b * 6 + l2) ∧ gA y 24 (b * 6 + l2) = gA w 24 (b * 6 + l2) := f1
  have f2 : ∀ j : Nat, j < i → gA y 23 (R j * 6 + l) = nI j ∧ gA y 24 (R j * 6 + l) = nI (Z (R j)) := f2
  have f3 : ∀ b : Nat, b < 8 → (∀ j : Nat, j < i → R j ≠ b) → gA y 23 (b * 6 + l) = gA w 23 (b * 6 + l) := f3
  subst e
  show TO _ (b_X9_findBest_L50 k9 (f_X9_findBest_L50 k9 F) (nI l) (nI i) y)
  unfold b_X9_findBest_L50
  rw [f.1 10, e10]
  by_cases c : i = n
  · subst c
    rw [if_pos (nI_le (Nat.le_refl _) (by omega)), lt_e, nI_1]
    exact hk y f f1 f2 f3
  have hi2 : i < n := by omega
  obtain ⟨r1, r2, r3⟩ := row i hi2
  have hc : R i * 6 + l < 48 := by omega
  have e24 : gA (tA y 23 (nI (R i * 6 + l)) (nI i)) 24 = gA y 24 := tAn (by decide)
  rw [if_neg (nI_ge hi2 (by omega)), oi_nI (by decide) (show i < 8 by omega), lt_e, nI_clamp (show i < 2 ^ 31 by omega), f.2 19 (by decide) (by decide), r1, oi_nI (by decide) r2, nI_clamp (show R i < 2 ^ 31 by omega), f.2 17 (by decide) (by decide), r3]
  unfold f_X8_offer
  rw [ceB, ob_s, cellB, oi_nI (by decide) hc, lt_e, ceB, ob_s, cellB, oi_nI (by decide) hc, lt_e, ov_s, lt_e, nI_1]
  have cl : (nI (R i * 6 + l)).toNatClampNeg = R i * 6 + l := nI_clamp (by omega)
  have c23 : ∀ b l2 : Nat, gA (tA (tA y 23 (nI (R i * 6 + l)) (nI i)) 24 (nI (R i * 6 + l)) (nI (Z (R i)))) 23 (b * 6 + l2) = upd (gA y 23) (R i * 6 + l) (nI i) (b * 6 + l2) := fun b l2 => by rw [tAn (by decide), tAe, cl]
  have c24 : ∀ b l2 : Nat, gA (tA (tA y 23 (nI (R i * 6 + l)) (nI i)) 24 (nI (R i * 6 + l)) (nI (Z (R i)))) 24 (b * 6 + l2) = upd (gA y 24) (R i * 6 + l) (nI (Z (R i))) (b * 6 + l2) := fun b l2 => by rw [tAe, cl, e24]
  refine hc2 (nI (i + 1), _) hi2 ⟨rfl, ⟨f.1, fun a a1 a2 => ?_⟩, fun b l2 hb h2 hne => ?_, fun j hj => ?_, fun b hb hne => ?_⟩
  · show gA (tA (tA y 23 (nI (R i * 6 + l)) (nI i)) 24 (nI (R i * 6 + l)) (nI (Z (R i)))) a = _
    rw [tAn a2, tAn a1]; exact f.2 a a1 a2
  · show gA (tA (tA y 23 (nI (R i * 6 + l)) (nI i)) 24 (nI (R i * 6 + l)) (nI (Z (R i)))) 23 (b * 6 + l2) = _ ∧ gA (tA (tA y 23 (nI (R i * 6 + l)) (nI i)) 24 (nI (R i * 6 + l)) (nI (Z (R i)))) 24 (b * 6 + l2) = _
    rw [c23, c24, upd_n _ _ (by omega), upd_n _ _ (by omega)]; exact f1 b l2 hb h2 hne
  · show gA (tA (tA y 23 (nI (R i * 6 + l)) (nI i)) 24 (nI (R i * 6 + l)) (nI (Z (R i)))) 23 (R j * 6 + l) = _ ∧ gA (tA (tA y 23 (nI (R i * 6 + l)) (nI i)) 24 (nI (R i * 6 + l)) (nI (Z (R i)))) 24 (R j * 6 + l) = _
    rw [c23, c24]
    by_cases q : j = i
    · rw [q, upd_s, upd_s]; exact ⟨rfl, rfl⟩
    · have ne : R j ≠ R i := fun z => q (inj j i (by omega) hi2 z)
      rw [upd_n _ _ (by omega), upd_n _ _ (by omega)]; exact f2 j (by omega)
  · show gA (tA (tA y 23 (nI (R i * 6 + l)) (nI i)) 24 (nI (R i * 6 + l)) (nI (Z (R i)))) 23 (b * 6 + l) = _
    have ne := hne i (by omega)
    rw [c23, upd_n _ _ (by omega)]
    exact f3 b hb (fun j hj => hne j (by omega))
theorem fi48V (w : SS) : TO (fun y => PLF w y ∧ ∀ c : Nat, c < 48 → gA y 23 c = -1) (f_X8_clear w) := by
  unfold f_X8_clear
  refine to_v (Q := fun y => PLF w y ∧ ∀ c : Nat, c < 48 → gA y 23 c = -1) ?_ (fun y hy => to_s hy)
  refine loopR (fun F (x : Int32 × SS) => f_J7_fill_53178_38_L5 F (-1 : Int32) x.1 (48 : Int32) x.2) (fun i x => x.1 = nI i ∧ PLF w x.2 ∧ ∀ c : Nat, c < i → gA x.2 23 c = -1) _ 48 ?_ (F := FU) (x := ((0 : Int32), w)) (Nat.lt_trans (by decide) FU_ge) ⟨rfl, ⟨fun _ => rfl, fun _ _ _ => rfl⟩, fun c hc => absurd hc (Nat.not_lt_zero c)⟩
  intro F x i hi hI hc2
  obtain ⟨b3, y⟩ := x
  obtain ⟨e, f, g⟩ := hI
  have e : b3 = nI i := e
  have f : PLF w y := f
  have g : ∀ c : Nat, c < i → gA y 23 c = -1 := g
  subst e
  show TO _ (b_J7_fill_53178_38_L5 (f_J7_fill_53178_38_L5 F) (-1 : Int32) (nI i) (48 : Int32) y)
  unfold b_J7_fill_53178_38_L5
  by_cases c : i = 48
  · subst c
    rw [if_pos (show (48 : Int32) ≤ nI 48 by decide)]; exact to_s ⟨f, g⟩
  have hi2 : i < 48 := by omega
  rw [if_neg (show ¬ (48 : Int32) ≤ nI i from nI_ge (b := 48) hi2 (by decide)), oi_nI (by decide) hi2, lt_e, lt_e, nI_1]
  refine hc2 (nI (i + 1), _) hi2 ⟨rfl, ⟨f.1, fun a a1 a2 => by show gA (tA y 23 (nI i) (-1)) a = _; rw [tAn a1]; exact f.2 a a1 a2⟩, fun c hc => ?_⟩
  show gA (tA y 23 (nI i) (-1)) 23 c = -1
  rw [tAe, nI_clamp (by omega)]
  by_cases q : c = i
  · rw [q, upd_s]
  · rw [upd_n _ _ q]; exact g c (by omega)
theorem to_a {ρ : Type} {P Q : ρ → Prop} {o : Option ρ} (h : TO P o) (h2 : TO Q o) : TO (fun r => P r ∧ Q r) o := by
  obtain ⟨r, e, p⟩ := h
  obtain ⟨r2, e2, p2⟩ := h2
  have e3 : r = r2 := Option.some.inj (e.symm.trans e2)
  subst e3
  exact ⟨r, e, p, p2⟩
/-- the places and prices of the lots below i -/
def PLi (u : SS) (D : List Int32) (i : Nat) (y : SS) : Prop := ∀ b l : Nat, b < 8 → l < 6 → (l < i → (pcU u D l b < 8 → gA y 23 (b * 6 + l) = nI (pcU u D l b) ∧ gA y 24 (b * 6 + l) = nI (prN u (b * 6 + l))) ∧ (¬ pcU u D l b < 8 → gA y 23 (b * 6 + l) = -1)) ∧ (i ≤ l → gA y 23 (b * 6 + l) = -1)
theorem fbV (h : RT k u v) {D : List Int32} (cd : cvD u v D) : TO (fun y => FrB u y ∧ CBs (TU u D) y) (f_X9_findBest u) := by
  refine to_w (to_a (fbT h) ?_) (fun y hy => ⟨hy.1.1, hy.2⟩)
  obtain ⟨⟨t, L, ht, hL1, hL6, e0, e0m, e2, e2m, e1, e1c⟩, -⟩ := id h
  have eL : nn (gI u 2) = L := by rw [e2, nn_nI (by omega)]
  unfold f_X9_findBest
  refine to_v (fi48V u) (fun y hy => ?_)
  refine loopR (fun F (x : Int32 × SS) => f_X9_findBest_L9 F x.1 x.2) (fun i x => x.1 = nI i ∧ FrB u x.2 ∧ PLi u D i x.2) _ L ?_ (F := FU) (x := ((0 : Int32), y)) (Nat.lt_trans (show L < 1000 by omega) FU_ge) ⟨rfl, PLF_b hy.1, fun b l hb hl => ⟨fun z => absurd z (Nat.not_lt_zero l), fun _ => hy.2 _ (by omega)⟩⟩
  intro F x i hi hI hc2
  obtain ⟨b3, y⟩ := x
  obtain ⟨e, f, pl⟩ := hI
  have e : b3 = nI i := e
  have f : FrB u y := f
  have pl : PLi u D i y := pl
  subst e
  show TO _ (b_X9_findBest_L9 (f_X9_findBest_L9 F) (nI i) y)
  unfold b_X9_findBest_L9
  rw [f.1 2 (by unfold kBI; omega), e2]
  by_cases c : i = L
  · subst c
    rw [if_pos (nI_le (Nat.le_refl _) (by omega))]
    have hT := TU_k h D
    have hW : WTc (TU u D) y := by
      refine ⟨fun b l hb hl => ?_, fun b hb => ?_, fun b m hb hm => ?_⟩
      · rcases Nat.lt_or_ge l i with q | q
        · exact (pl b l hb hl).1 q
        · have n8 : ¬ wpc (TU u D) l b < 8 := hT.2.2.2 l b (by show nn (gI u 2) ≤ l; omega)
          exact ⟨fun z => absurd z n8, fun _ => (pl b l hb hl).2 q⟩
      · obtain ⟨q, hq, eq⟩ := (h.2.2.2.2.2.2.2.2.2.2.1.1 b hb).2
        rw [f.2 20 (by unfold kBA; omega)]
        show gA u 20 b = nI (nn (gA u 20 b)) ∧ nn (gA u 20 b) ≤ 6
        rw [eq, nn_nI (by omega)]; exact ⟨rfl, hq⟩
      · obtain ⟨q, hq, eq⟩ := (h.2.2.2.2.2.2.2.2.2.2.1.2 b m hb hm).2
        rw [f.2 22 (by unfold kBA; omega)]
        show gA u 22 (b * 7 + m) = nI (nn (gA u 22 (b * 7 + m)))
        rw [eq, nn_nI (by omega)]
    have s := seV hT hW
    rw [show wlo (TU u D) = i from eL] at s
    exact to_v s (fun z hz => to_s hz.2)
  have hi2 : i < L := by omega
  have hi6 : i < 6 := by omega
  rw [if_neg (nI_ge hi2 (by omega))]
  have hy := RT_b h f
  have cy := cvD_b cd f
  have og := ordS_g (D := D) (l := i) (CG_b f) 8
  refine to_v (laV hy hi6 (-1)) (fun z lv => ?_)
  refine to_v (rkV hy cy hi6 lv) (fun q hq => ?_)
  obtain ⟨kr, q10, qrow⟩ := hq
  rw [og] at q10 qrow
  obtain ⟨lf, li, lp, lq, lsv⟩ := lv
  obtain ⟨om1, om2⟩ := ordS_m (u := u) (D := D) (l := i) 8
  have fq : FrB u q := FrB_t f (FrB_t (FW_b lf) (KRW_b kr))
  have q23 : gA q 23 = gA y 23 := by rw [kr.2.1 23 (by decide) (by decide), lf.2 23 (by decide) (by decide) (by decide) (by decide)]
  have q24 : gA q 24 = gA y 24 := by rw [kr.2.1 24 (by decide) (by decide), lf.2 24 (by decide) (by decide) (by decide) (by decide)]
  refine fb50V (R := (ordS u D i 8).2) (Z := fun b => prN u (b * 6 + i)) hi6 om1 _ q10 (fun j hj => ?_) (ordS_d 8) (fun r fr r1 r2 r3 => ?_)
  · obtain ⟨o1, o2, -⟩ := om2 j hj
    refine ⟨qrow j hj, o1, ?_⟩
    rw [kr.2.1 17 (by decide) (by decide), lp _ o1 ((INC_g (CG_b f)).mpr o2), prN_g (CG_b f)]
  refine hc2 (nI (i + 1), r) hi2 ⟨rfl, FrB_t fq (PLF_b fr), fun b l hb hl => ?_⟩
  show (l < i + 1 → (pcU u D l b < 8 → gA r 23 (b * 6 + l) = nI (pcU u D l b) ∧ gA r 24 (b * 6 + l) = nI (prN u (b * 6 + l))) ∧ (¬ pcU u D l b < 8 → gA r 23 (b * 6 + l) = -1)) ∧ (i + 1 ≤ l → gA r 23 (b * 6 + l) = -1)
  by_cases z : l = i
  · subst z
    refine ⟨fun _ => ⟨fun p8 => ?_, fun n8 => ?_⟩, fun y => absurd y (by omega)⟩
    · obtain ⟨-, p1, p2⟩ := pcU_o p8
      have := r2 _ p1
      rw [p2] at this
      exact this
    · rw [r3 b hb (fun j hj e => n8 ?_), q23]
      · exact (pl b l hb hl).2 (Nat.le_refl _)
      · rw [← e, pcU_j (by omega) hj]; omega
  · rw [(r1 b l hb hl z).1, (r1 b l hb hl z).2, q23, q24]
    exact ⟨fun y => (pl b l hb hl).1 (by omega), fun y => (pl b l hb hl).2 (by omega)⟩
end ST51
