section ST32
variable {k : Nat} {u v w x y : SS}
/-! ring: equal answers -/
theorem ad_c (x y : Nat) : ad x y = ad y x := by
  unfold ad
  by_cases h1 : x ≤ y
  · by_cases h2 : y ≤ x
    · rw [if_pos h1, if_pos h2]; omega
    · rw [if_pos h1, if_neg h2]
  · rw [if_neg h1, if_pos (by omega)]
theorem sm24_s (u : SS) (c d : Nat) : sm24 u c d 24 = ind u c d 0 1 2 3 + ind u c d 1 0 2 3 + ind u c d 2 1 0 3 + ind u c d 3 1 2 0 + ind u c d 0 2 1 3 + ind u c d 1 2 0 3 + ind u c d 2 0 1 3 + ind u c d 3 2 1 0 + ind u c d 0 3 2 1 + ind u c d 1 3 2 0 + ind u c d 2 3 0 1 + ind u c d 3 0 2 1 + ind u c d 0 1 3 2 + ind u c d 1 0 3 2 + ind u c d 2 1 3 0 + ind u c d 3 1 0 2 + ind u c d 0 2 3 1 + ind u c d 1 2 3 0 + ind u c d 2 0 3 1 + ind u c d 3 2 0 1 + ind u c d 0 3 1 2 + ind u c d 1 3 0 2 + ind u c d 2 3 1 0 + ind u c d 3 0 1 2 := by
  show 0 + _ + _ + _ + _ + _ + _ + _ + _ + _ + _ + _ + _ + _ + _ + _ + _ + _ + _ + _ + _ + _ + _ + _ + _ = _
  rw [Nat.zero_add]
  rfl
theorem lk_sw (u : SS) (c d : Nat) (p q r s : Nat) : lkN u c d p q r s = ad (im u d p * isN u c) (im u c 0 * isN u d) + ad (im u d q * isN u c) (im u c 1 * isN u d) + ad (im u d r * isN u c) (im u c 2 * isN u d) + ad (im u d s * isN u c) (im u c 3 * isN u d) := by
  unfold lkN
  rw [ad_c (im u c 0 * isN u d), ad_c (im u c 1 * isN u d), ad_c (im u c 2 * isN u d), ad_c (im u c 3 * isN u d)]
theorem lk_id (u : SS) (c d : Nat) : lkN u c d 0 1 2 3 = lkN u d c 0 1 2 3 := by
  rw [lk_sw]; rfl
theorem ind_c {u : SS} {c d p q r s p2 q2 r2 s2 : Nat} (e : lkN u c d p q r s = lkN u d c p2 q2 r2 s2) : ind u c d p q r s = ind u d c p2 q2 r2 s2 := by
  unfold ind
  rw [e, lk_id u c d]
theorem ic_0123 (u : SS) (c d : Nat) : ind u c d 0 1 2 3 = ind u d c 0 1 2 3 := ind_c (by rw [lk_sw]; unfold lkN; omega)
theorem ic_1023 (u : SS) (c d : Nat) : ind u c d 1 0 2 3 = ind u d c 1 0 2 3 := ind_c (by rw [lk_sw]; unfold lkN; omega)
theorem ic_2103 (u : SS) (c d : Nat) : ind u c d 2 1 0 3 = ind u d c 2 1 0 3 := ind_c (by rw [lk_sw]; unfold lkN; omega)
theorem ic_3120 (u : SS) (c d : Nat) : ind u c d 3 1 2 0 = ind u d c 3 1 2 0 := ind_c (by rw [lk_sw]; unfold lkN; omega)
theorem ic_0213 (u : SS) (c d : Nat) : ind u c d 0 2 1 3 = ind u d c 0 2 1 3 := ind_c (by rw [lk_sw]; unfold lkN; omega)
theorem ic_1203 (u : SS) (c d : Nat) : ind u c d 1 2 0 3 = ind u d c 2 0 1 3 := ind_c (by rw [lk_sw]; unfold lkN; omega)
theorem ic_2013 (u : SS) (c d : Nat) : ind u c d 2 0 1 3 = ind u d c 1 2 0 3 := ind_c (by rw [lk_sw]; unfold lkN; omega)
theorem ic_3210 (u : SS) (c d : Nat) : ind u c d 3 2 1 0 = ind u d c 3 2 1 0 := ind_c (by rw [lk_sw]; unfold lkN; omega)
theorem ic_0321 (u : SS) (c d : Nat) : ind u c d 0 3 2 1 = ind u d c 0 3 2 1 := ind_c (by rw [lk_sw]; unfold lkN; omega)
theorem ic_1320 (u : SS) (c d : Nat) : ind u c d 1 3 2 0 = ind u d c 3 0 2 1 := ind_c (by rw [lk_sw]; unfold lkN; omega)
theorem ic_2301 (u : SS) (c d : Nat) : ind u c d 2 3 0 1 = ind u d c 2 3 0 1 := ind_c (by rw [lk_sw]; unfold lkN; omega)
theorem ic_3021 (u : SS) (c d : Nat) : ind u c d 3 0 2 1 = ind u d c 1 3 2 0 := ind_c (by rw [lk_sw]; unfold lkN; omega)
theorem ic_0132 (u : SS) (c d : Nat) : ind u c d 0 1 3 2 = ind u d c 0 1 3 2 := ind_c (by rw [lk_sw]; unfold lkN; omega)
theorem ic_1032 (u : SS) (c d : Nat) : ind u c d 1 0 3 2 = ind u d c 1 0 3 2 := ind_c (by rw [lk_sw]; unfold lkN; omega)
theorem ic_2130 (u : SS) (c d : Nat) : ind u c d 2 1 3 0 = ind u d c 3 1 0 2 := ind_c (by rw [lk_sw]; unfold lkN; omega)
theorem ic_3102 (u : SS) (c d : Nat) : ind u c d 3 1 0 2 = ind u d c 2 1 3 0 := ind_c (by rw [lk_sw]; unfold lkN; omega)
theorem ic_0231 (u : SS) (c d : Nat) : ind u c d 0 2 3 1 = ind u d c 0 3 1 2 := ind_c (by rw [lk_sw]; unfold lkN; omega)
theorem ic_1230 (u : SS) (c d : Nat) : ind u c d 1 2 3 0 = ind u d c 3 0 1 2 := ind_c (by rw [lk_sw]; unfold lkN; omega)
theorem ic_2031 (u : SS) (c d : Nat) : ind u c d 2 0 3 1 = ind u d c 1 3 0 2 := ind_c (by rw [lk_sw]; unfold lkN; omega)
theorem ic_3201 (u : SS) (c d : Nat) : ind u c d 3 2 0 1 = ind u d c 2 3 1 0 := ind_c (by rw [lk_sw]; unfold lkN; omega)
theorem ic_0312 (u : SS) (c d : Nat) : ind u c d 0 3 1 2 = ind u d c 0 2 3 1 := ind_c (by rw [lk_sw]; unfold lkN; omega)
theorem ic_1302 (u : SS) (c d : Nat) : ind u c d 1 3 0 2 = ind u d c 2 0 3 1 := ind_c (by rw [lk_sw]; unfold lkN; omega)
theorem ic_2310 (u : SS) (c d : Nat) : ind u c d 2 3 1 0 = ind u d c 3 2 0 1 := ind_c (by rw [lk_sw]; unfold lkN; omega)
theorem ic_3012 (u : SS) (c d : Nat) : ind u c d 3 0 1 2 = ind u d c 1 2 3 0 := ind_c (by rw [lk_sw]; unfold lkN; omega)
theorem sm24_c (u : SS) (c d : Nat) : sm24 u c d 24 = sm24 u d c 24 := by
  rw [sm24_s u c d, sm24_s u d c, ic_0123 u c d, ic_1023 u c d, ic_2103 u c d, ic_3120 u c d, ic_0213 u c d, ic_1203 u c d, ic_2013 u c d, ic_3210 u c d, ic_0321 u c d, ic_1320 u c d, ic_2301 u c d, ic_3021 u c d, ic_0132 u c d, ic_1032 u c d, ic_2130 u c d, ic_3102 u c d, ic_0231 u c d, ic_1230 u c d, ic_2031 u c d, ic_3201 u c d, ic_0312 u c d, ic_1302 u c d, ic_2310 u c d, ic_3012 u c d]
  omega
/-- two bids are joined -/
def jN (u : SS) (c d : Nat) : Prop := lkN u c d 0 1 2 3 = 0 ∨ (sm24 u c d 24 = 1 ∧ lkN u c d 0 1 2 3 * 50 ≤ isN u c * isN u d)
theorem jN_c {u : SS} {c d : Nat} (h : jN u c d) : jN u d c := by
  unfold jN at h ⊢
  rw [← lk_id u c d, ← sm24_c u c d, Nat.mul_comm (isN u d)]
  exact h
theorem lkOf (h : RT k u v) {c d : Nat} (hc : c < 48) (hd : d < 48) : f_X6_likenessOf (nI c) (nI d) u = some (lN (lkN u c d 0 1 2 3), u) := by
  unfold f_X6_likenessOf
  have e := loE h hc hd (p := 0) (q := 1) (r := 2) (by omega) (by omega) (by omega) (by omega) (by omega)
  have e : f_X6_likenessInOrder (nI c) (nI d) (0 : Int32) (1 : Int32) (2 : Int32) u = some (lN (lkN u c d 0 1 2 3), u) := e
  rw [e, ob_s]
theorem n10 : ¬ (1 : Int32) = 0 := by decide
theorem lz {x : Nat} (h : x < 2 ^ 63) (c : ¬ x = 0) : ¬ lg_cmp (lN x) (0 : Int64) = 0 := fun z => c ((pk_lEQ (b := 0) h (by decide)).mp ((lg_cmp_eq (lN x) (0 : Int64)).mp z))
theorem ajE (h : RT k u v) {c d : Nat} (hc : c < 48) (hd : d < 48) : ∃ r : Int32, f_X6_areJoined (nI c) (nI d) u = some (r, u) ∧ bo r ∧ (r = 1 ↔ jN u c d) := by
  have i1 := isN_le (BD_c h hc)
  have i2 := isN_le (BD_c h hd)
  have l0 := lk_lt h hc hd (show 0 < 4 by decide) (show 1 < 4 by decide) (show 2 < 4 by decide) (show 3 < 4 by decide)
  have mm : isN u c * isN u d ≤ 399996 * 399996 := Nat.mul_le_mul i1 i2
  have s1 := sp_le u c d 4
  unfold f_X6_areJoined
  rw [lkOf h hc hd, ob_s, isB hc (BD_c h hc), ob_s, isB hd (BD_c h hd), ob_s, lt_e, nI_l (by omega), nI_l (by omega), lN_mul, show (50 : Int64) = lN 50 from rfl, lN_mul]
  by_cases c1 : lkN u c d 0 1 2 3 * 50 ≤ isN u c * isN u d
  · rw [if_pos ((lg_cmp_le _ _).mpr ((pk_lLE (by omega) (by omega)).mpr c1))]
    by_cases c2 : lkN u c d 0 1 2 3 = 0
    · rw [if_pos ((lg_cmp_eq _ _).mpr (by rw [c2]; rfl))]
      exact ⟨1, rfl, Or.inr rfl, fun _ => Or.inl c2, fun _ => rfl⟩
    · rw [if_neg (lz (by omega) c2), chE h hc hd, ob_s]
      by_cases c3 : sp u c d 4 = 1
      · rw [if_pos (by rw [c3]; rfl)]
        exact ⟨1, rfl, Or.inr rfl, fun _ => Or.inr ⟨by rw [← sm_eq]; exact c3, c1⟩, fun _ => rfl⟩
      · rw [if_neg (show ¬ nI (sp u c d 4) = (1 : Int32) from fun z => c3 ((nI_eq (b := 1) (by omega) (by omega)).mp z))]
        exact ⟨0, rfl, Or.inl rfl, fun z => (n01 z).elim, fun z => z.elim (fun q => (c2 q).elim) (fun q => (c3 (by rw [sm_eq]; exact q.1)).elim)⟩
  · rw [if_neg (fun z => c1 ((pk_lLE (by omega) (by omega)).mp ((lg_cmp_le _ _).mp z)))]
    exact ⟨0, rfl, Or.inl rfl, fun z => (n01 z).elim, fun z => z.elim (fun q => (c1 (by rw [q]; omega)).elim) (fun q => (c1 q.2).elim)⟩
theorem ajM (h : RT k u v) {i j b : Nat} (hi : i < 8) (hj : j < 6) (hb : b < 8) : ∃ (r : Int32) (y : SS), f_X10_areJoined (nI (8 * j + i)) (nI (8 * j + b)) v = some (r, y) ∧ LK v y ∧ bo r ∧ (r = 1 ↔ jN u (i * 6 + j) (b * 6 + j)) := by
  have hc : i * 6 + j < 48 := by omega
  have hd : b * 6 + j < 48 := by omega
  have i1 := isN_le (BD_c h hc)
  have i2 := isN_le (BD_c h hd)
  have l0 := lk_lt h hc hd (show 0 < 4 by decide) (show 1 < 4 by decide) (show 2 < 4 by decide) (show 3 < 4 by decide)
  have mm : isN u (i * 6 + j) * isN u (b * 6 + j) ≤ 399996 * 399996 := Nat.mul_le_mul i1 i2
  have s1 := sp_le u (i * 6 + j) (b * 6 + j) 4
  rw [sm_eq] at s1
  obtain ⟨y, ey, my⟩ := lbE h hi hj hb (n := 0) (by omega)
  have ey : f_X10_likenessBy (nI (8 * j + i)) (nI (8 * j + b)) (0 : Int32) v = some (lN (lkN u (i * 6 + j) (b * 6 + j) 0 1 2 3), y) := ey
  unfold f_X10_areJoined
  rw [ey, ob_s]
  by_cases c2 : lkN u (i * 6 + j) (b * 6 + j) 0 1 2 3 = 0
  · rw [if_pos ((lg_cmp_eq _ _).mpr (by rw [c2]; rfl))]
    exact ⟨1, y, rfl, my, Or.inr rfl, fun _ => Or.inl c2, fun _ => rfl⟩
  rw [if_neg (lz (by omega) c2)]
  obtain ⟨y2, ey2, my2⟩ := cmE (RT_lk h my) hi hj hb
  have m2 := LK_t my my2
  rw [ey2, ob_s]
  by_cases c3 : sm24 u (i * 6 + j) (b * 6 + j) 24 = 1
  · rw [if_pos (by rw [c3]; rfl), isM (RT_lk h m2) hi hj, ob_s, isM (RT_lk h m2) hb hj, ob_s, nI_l (by omega), nI_l (by omega), lN_mul, show (50 : Int64) = lN 50 from rfl, lN_mul]
    by_cases c1 : lkN u (i * 6 + j) (b * 6 + j) 0 1 2 3 * 50 ≤ isN u (i * 6 + j) * isN u (b * 6 + j)
    · rw [if_neg (fun z => absurd ((pk_lLT (by omega) (by omega)).mp ((lg_cmp_gt _ _).mp z)) (by omega))]
      exact ⟨1, y2, rfl, m2, Or.inr rfl, fun _ => Or.inr ⟨c3, c1⟩, fun _ => rfl⟩
    · rw [if_pos ((lg_cmp_gt _ _).mpr ((pk_lLT (by omega) (by omega)).mpr (by omega)))]
      exact ⟨0, y2, rfl, m2, Or.inl rfl, fun z => (n01 z).elim, fun z => z.elim (fun q => (c2 q).elim) (fun q => (c1 q.2).elim)⟩
  · rw [if_neg (show ¬ nI (sm24 u (i * 6 + j) (b * 6 + j) 24) = (1 : Int32) from fun z => c3 ((nI_eq (b := 1) (by omega) (by omega)).mp z))]
    exact ⟨0, y2, rfl, m2, Or.inl rfl, fun z => (n01 z).elim, fun z => z.elim (fun q => (c2 q).elim) (fun q => (c3 q.1).elim)⟩
/-- an edge of a lot's graph; what is reached -/
def Eg (u : SS) (l a b : Nat) : Prop := a < 8 ∧ b < 8 ∧ gA u 3 (a * 6 + l) ≠ 0 ∧ gA u 3 (b * 6 + l) ≠ 0 ∧ jN u (a * 6 + l) (b * 6 + l)
def Rc (u : SS) (l a b : Nat) : Prop := ∀ P : Nat → Prop, P a → (∀ x y, P x → Eg u l x y → P y) → P b
theorem Eg_c {l a b : Nat} (h : Eg u l a b) : Eg u l b a := ⟨h.2.1, h.1, h.2.2.2.1, h.2.2.1, jN_c h.2.2.2.2⟩
theorem Rc_r (l a : Nat) : Rc u l a a := fun _ h _ => h
theorem Rc_s {l a b c : Nat} (h : Rc u l a b) (e : Eg u l b c) : Rc u l a c := fun P ha hs => hs b c (h P ha hs) e
theorem Rc_t {l a b c : Nat} (h : Rc u l a b) (h2 : Rc u l b c) : Rc u l a c := fun P ha hs => h2 P (h P ha hs) hs
theorem Rc_c {l a b : Nat} (h : Rc u l a b) : Rc u l b a := h (fun t => Rc u l t a) (Rc_r l a) (fun x y hx e => Rc_t (Rc_s (Rc_r l y) (Eg_c e)) hx)
/-- q is the least that b reaches -/
def Lst (u : SS) (l b q : Nat) : Prop := Rc u l b q ∧ ∀ t, Rc u l b t → q ≤ t
theorem Lst_u {l b q r : Nat} (h : Lst u l b q) (h2 : Lst u l b r) : q = r := Nat.le_antisymm (h.2 r h2.1) (h2.2 q h.1)
theorem shr1 : ∀ i, i < 8 → ∀ m, m < 256 → ((nI m >>> (nI i &&& 31)) &&& (1 : Int32)) = if m.testBit i = true then 1 else 0 := by decide +kernel
theorem tb_or {m i t : Nat} : (m ||| 2 ^ i).testBit t = true ↔ (m.testBit t = true ∨ i = t) := by
  rw [Nat.testBit_or, Nat.testBit_two_pow, Bool.or_eq_true, decide_eq_true_eq]
theorem jwE (h : RT k u v) {l b M : Nat} (hl : l < 6) (hb : b < 8) (hM : M < 256) (tb : gA u 3 (b * 6 + l) ≠ 0) : ∃ R : Nat, R < 256 ∧ f_X6_joinedWith (nI l) (nI b) (nI M) u = some (nI R, u) ∧ ∀ t, R.testBit t = true ↔ (M.testBit t = false ∧ Eg u l b t) := by
  have key : TO (fun p : Int32 × SS => p.2 = u ∧ ∃ m : Nat, m < 256 ∧ p.1 = nI m ∧ ∀ t, m.testBit t = true ↔ (t < 8 ∧ M.testBit t = false ∧ Eg u l b t)) (f_X6_joinedWith (nI l) (nI b) (nI M) u) := by
    refine loopR (fun F (x : Int32 × Int32 × SS) => f_X6_joinedWith_L6 F (nI l) (nI b) (nI M) x.1 x.2.1 x.2.2) (fun i x => x.2 = (nI i, u) ∧ ∃ m : Nat, m < 256 ∧ x.1 = nI m ∧ ∀ t, m.testBit t = true ↔ (t < i ∧ M.testBit t = false ∧ Eg u l b t)) _ 8 ?_ (F := FU) (x := ((0 : Int32), (0 : Int32), u)) (Nat.lt_trans (by decide) FU_ge) ⟨rfl, 0, by decide, rfl, fun t => ⟨fun z => by rw [Nat.zero_testBit] at z; exact absurd z (by decide), fun z => absurd z.1 (by omega)⟩⟩
    intro F x i hi hI hc2
    obtain ⟨b4, b5, w⟩ := x
    obtain ⟨hI, m, hm, e4, hq⟩ := hI
    obtain ⟨rfl, rfl⟩ := Prod.mk.inj hI
    have e4 : b4 = nI m := e4
    subst e4
    show TO _ (b_X6_joinedWith_L6 (f_X6_joinedWith_L6 F) (nI l) (nI b) (nI M) (nI m) (nI i) w)
    unfold b_X6_joinedWith_L6 f_X6_joinedWith_L35 f_X6_joinedWith_L75
    by_cases c8 : i = 8
    · subst c8
      rw [if_pos (show (8 : Int32) ≤ nI 8 by decide)]; exact to_s ⟨rfl, m, hm, rfl, hq⟩
    have hi2 : i < 8 := by omega
    rw [if_neg (show ¬ (8 : Int32) ≤ nI i from nI_ge (b := 8) hi2 (by decide)), ceB, ob_s, cellB, shr1 i hi2 M hM]
    have sk : ¬ (M.testBit i = false ∧ Eg w l b i) → TO (fun p : Int32 × SS => p.2 = w ∧ ∃ m : Nat, m < 256 ∧ p.1 = nI m ∧ ∀ t, m.testBit t = true ↔ (t < 8 ∧ M.testBit t = false ∧ Eg w l b t)) (lt (nI i + (1 : Int32)) fun x4 => f_X6_joinedWith_L6 F (nI l) (nI b) (nI M) (nI m) x4 w) := by
      intro nz
      rw [lt_e, nI_1]
      refine hc2 (nI m, nI (i + 1), w) hi2 ⟨rfl, m, hm, rfl, fun t => (hq t).trans ⟨fun q => ⟨by omega, q.2⟩, fun q => ⟨?_, q.2⟩⟩⟩
      rcases Nat.lt_or_ge t i with z | z
      · exact z
      · have e : t = i := by omega
        subst e; exact absurd q.2 nz
    by_cases c1 : M.testBit i = true
    · rw [if_pos c1, if_neg nz_1, if_pos rfl]
      exact sk (fun z => by rw [c1] at z; exact absurd z.1 (by decide))
    rw [if_neg c1, if_pos rfl, if_neg nz_1, oi_nI (by decide) (show i * 6 + l < 48 by omega), nI_clamp (by omega)]
    have c1f : M.testBit i = false := Bool.not_eq_true _ ▸ c1
    by_cases c2 : gA w 3 (i * 6 + l) = 0
    · rw [if_pos c2]; exact sk (fun z => z.2.2.2.2.1 c2)
    obtain ⟨r, er, br, hr⟩ := ajE h (show b * 6 + l < 48 by omega) (show i * 6 + l < 48 by omega)
    rw [if_neg c2, ceB, ob_s, cellB, er, ob_s]
    by_cases c3 : r = 0
    · rw [if_pos c3]; exact sk (fun z => by have := hr.mpr z.2.2.2.2.2; rw [c3] at this; exact n01 this)
    rw [if_neg c3, lt_e, or_bit i hi2 m hm, lt_e, nI_1]
    refine hc2 (nI (m ||| 2 ^ i), nI (i + 1), w) hi2 ⟨rfl, m ||| 2 ^ i, or_lt hm hi2, rfl, fun t => ?_⟩
    have ed : Eg w l b i := ⟨hb, hi2, tb, c2, hr.mp (br.resolve_left c3)⟩
    rw [tb_or, hq t]
    constructor
    · intro z
      rcases z with z | z
      · exact ⟨by omega, z.2⟩
      · subst z; exact ⟨by omega, c1f, ed⟩
    · intro z
      rcases Nat.lt_or_ge t i with y | y
      · exact Or.inl ⟨y, z.2⟩
      · exact Or.inr (by omega)
  obtain ⟨⟨r, y⟩, e, e2, m, hm, e3, hq⟩ := key
  have e2 : y = u := e2
  have e3 : r = nI m := e3
  subst e2
  subst e3
  exact ⟨m, hm, e, fun t => (hq t).trans ⟨fun q => q.2, fun q => ⟨q.2.2.1, q⟩⟩⟩
def pcN (n : Nat) : Nat := n % 2 + n / 2 % 2 + n / 4 % 2 + n / 8 % 2 + n / 16 % 2 + n / 32 % 2 + n / 64 % 2 + n / 128 % 2
theorem pc_or : ∀ n, n < 256 → ∀ t, t < 8 → n.testBit t = false → pcN (n ||| 2 ^ t) = pcN n + 1 := by decide +kernel
theorem pc_8 : ∀ n, n < 256 → 8 ≤ pcN n → n = 255 := by decide +kernel
theorem tz_le : ∀ d, d < 256 → d ≠ 0 → ∀ t, t < 8 → d.testBit t = true → tzN d ≤ t := by decide +kernel
theorem tb_8 {m t : Nat} (hm : m < 256) (h : m.testBit t = true) : t < 8 := by
  rcases Nat.lt_or_ge t 8 with z | z
  · exact z
  · rw [Nat.testBit_lt_two_pow (Nat.lt_of_lt_of_le hm (Nat.pow_le_pow_right (n := 2) (i := 8) (by decide) z))] at h
    exact absurd h (by decide)
theorem t255 : ∀ t, t < 8 → (255 : Nat).testBit t = true := by decide +kernel
theorem ljE (h : RT k u v) {l b : Nat} (hl : l < 6) (hb : b < 8) (tb : gA u 3 (b * 6 + l) ≠ 0) : ∃ q : Nat, q < 8 ∧ f_X6_leastJoined (nI l) (nI b) u = some (nI q, u) ∧ Lst u l b q := by
  have fin : ∀ m : Nat, m < 256 → m.testBit b = true → (∀ t, m.testBit t = true → Rc u l b t) → (∀ s t, m.testBit s = true → Eg u l s t → m.testBit t = true) → TO (fun p : Int32 × SS => p.2 = u ∧ ∃ q : Nat, q < 8 ∧ p.1 = nI q ∧ Lst u l b q) (f_X6_leastJoined_L60 (nI m) u) := by
    intro m hm hmb hr hc
    have m0 : m ≠ 0 := fun z => by rw [z, Nat.zero_testBit] at hmb; exact absurd hmb (by decide)
    obtain ⟨t1, t2, t3⟩ := tzV m hm m0
    unfold f_X6_leastJoined_L60
    rw [tzE, ob_s, t1]
    refine to_s ⟨rfl, tzN m, t2, rfl, hr _ t3, fun t ht => ?_⟩
    have := ht (fun x => m.testBit x = true) hmb hc
    exact tz_le m hm m0 t (tb_8 hm this) this
  have key : TO (fun p : Int32 × SS => p.2 = u ∧ ∃ q : Nat, q < 8 ∧ p.1 = nI q ∧ Lst u l b q) (f_X6_leastJoined (nI l) (nI b) u) := by
    unfold f_X6_leastJoined
    rw [lt_e, shl1 b hb]
    have h2 : 2 ^ b < 256 := Nat.pow_lt_pow_right (n := 8) (by decide) hb
    refine loopR (fun F (x : Int32 × Int32 × Int32 × SS) => f_X6_leastJoined_L10 F (nI l) x.1 x.2.1 x.2.2.1 x.2.2.2) (fun i x => ∃ m n : Nat, m < 256 ∧ n < 256 ∧ (∀ j, n.testBit j = true → m.testBit j = true) ∧ x = (nI m, nI n, nI i, u) ∧ pcN n = i ∧ m.testBit b = true ∧ (∀ t, m.testBit t = true → Rc u l b t ∧ gA u 3 (t * 6 + l) ≠ 0) ∧ ∀ s t, n.testBit s = true → Eg u l s t → m.testBit t = true) _ 8 ?_ (F := FU) (x := (nI (2 ^ b), (0 : Int32), (0 : Int32), u)) (Nat.lt_trans (by decide) FU_ge) ⟨2 ^ b, 0, h2, by decide, fun j hj => by rw [Nat.zero_testBit] at hj; exact absurd hj (by decide), rfl, rfl, by rw [Nat.testBit_two_pow]; exact decide_eq_true rfl, fun t ht => by
      rw [Nat.testBit_two_pow] at ht
      have e : b = t := of_decide_eq_true ht
      subst e; exact ⟨Rc_r l b, tb⟩, fun s t hs => by rw [Nat.zero_testBit] at hs; exact absurd hs (by decide)⟩
    intro F x i hi hI hc2
    obtain ⟨m, n, hm, hn, hs, rfl, pc, hmb, hr, hcl⟩ := hI
    show TO _ (b_X6_leastJoined_L10 (f_X6_leastJoined_L10 F) (nI l) (nI m) (nI n) (nI i) u)
    unfold b_X6_leastJoined_L10
    by_cases nm : n = m
    · subst nm
      have f := fin n hm hmb (fun t ht => (hr t ht).1) hcl
      by_cases c1 : (8 : Int32) ≤ nI i
      · rw [if_pos c1]; exact f
      · rw [if_neg c1, if_pos rfl]; exact f
    by_cases c8 : i = 8
    · refine absurd ?_ nm
      have n255 := pc_8 n hn (by omega)
      refine Nat.eq_of_testBit_eq (fun t => ?_)
      by_cases t8 : t < 8
      · have a := t255 t t8
        rw [n255] at hs ⊢
        rw [a, hs t a]
      · rw [Nat.testBit_lt_two_pow (Nat.lt_of_lt_of_le hn (Nat.pow_le_pow_right (n := 2) (i := 8) (by decide) (by omega))), Nat.testBit_lt_two_pow (Nat.lt_of_lt_of_le hm (Nat.pow_le_pow_right (n := 2) (i := 8) (by decide) (by omega)))]
    have hi2 : i < 8 := by omega
    have c2 : ¬ nI n = nI m := fun z => nm ((nI_eq (by omega) (by omega)).mp z)
    rw [if_neg (show ¬ (8 : Int32) ≤ nI i from nI_ge (b := 8) hi2 (by decide)), if_neg c2]
    have d0 := andn_ne hm hs nm
    have dl : m &&& (n ^^^ 4294967295) < 256 := Nat.lt_of_le_of_lt Nat.and_le_left hm
    obtain ⟨t1, t2, t3⟩ := tzV _ dl d0
    rw [tzE, ob_s, nI_andn, t1, or_bit _ t2 n hn, lt_e]
    generalize tzN (m &&& (n ^^^ 4294967295)) = f at t2 t3 ⊢
    rw [andn_b hm] at t3
    have tm : m.testBit f = true := by
      revert t3
      cases m.testBit f
      · intro z; rw [Bool.false_and] at z; exact absurd z (by decide)
      · intro _; rfl
    have tn : n.testBit f = false := by
      revert t3
      cases n.testBit f
      · intro _; rfl
      · intro z; rw [tm] at z; exact absurd z (by decide)
    obtain ⟨R, hR, eR, qR⟩ := jwE h hl t2 hm (hr f tm).2
    rw [eR, ob_s, lt_e, nI_or, lt_e, nI_1]
    refine hc2 (nI (m ||| R), nI (n ||| 2 ^ f), nI (i + 1), u) hi2 ⟨m ||| R, n ||| 2 ^ f, Nat.or_lt_two_pow (n := 8) hm hR, or_lt hn t2, fun j hj => ?_, rfl, by rw [pc_or n hn f t2 tn, pc], ?_, fun t ht => ?_, fun s t hst e => ?_⟩
    · rw [Nat.testBit_or]
      rcases tb_or.mp hj with z | z
      · rw [hs j z]; rfl
      · rw [← z, tm]; rfl
    · rw [Nat.testBit_or, hmb]; rfl
    · rw [Nat.testBit_or, Bool.or_eq_true] at ht
      rcases ht with z | z
      · exact hr t z
      · have e := ((qR t).mp z).2
        exact ⟨Rc_s (hr f tm).1 e, e.2.2.2.1⟩
    · rw [Nat.testBit_or, Bool.or_eq_true]
      rcases tb_or.mp hst with z | z
      · exact Or.inl (hcl s t z e)
      · subst z
        cases q : m.testBit t
        · exact Or.inr ((qR t).mpr ⟨q, e⟩)
        · exact Or.inl rfl
  obtain ⟨⟨r, y⟩, e, e2, q, hq, e3, hL⟩ := key
  have e2 : y = u := e2
  have e3 : r = nI q := e3
  subst e2
  subst e3
  exact ⟨q, hq, e, hL⟩
/-! the reference's rings -/
def RGs (u : SS) (l : Nat) (w : SS) : Prop := ∀ t : Nat, t < 8 → eN 7 (gA w 31 t) ∧ nn (gA w 31 t) ≤ t ∧ Rc u l (nn (gA w 31 t)) t
def OKP (u : SS) (l : Nat) (w : SS) (a b : Nat) : Prop := Eg u l a b → nn (gA w 31 b) ≤ nn (gA w 31 a)
def RJE (u : SS) (l : Nat) (v : SS) (M i n : Nat) (b3 : Int32) (w : SS) : Prop := MK v w ∧ RGs u l w ∧ ((b3 = 0 ∧ sm8 (gA w 31) ≤ M ∧ ∀ a b, (a < i ∨ (a = i ∧ b < n)) → OKP u l w a b) ∨ (b3 = 1 ∧ sm8 (gA w 31) < M))
theorem RGs_e {l : Nat} (e : gA x 31 = gA w 31) (r : RGs u l w) : RGs u l x := by
  intro t ht
  rw [e]; exact r t ht
theorem OKP_e {l a b : Nat} (e : gA x 31 = gA w 31) (r : OKP u l w a b) : OKP u l x a b := by
  intro q
  rw [e]; exact r q
theorem re84 (h : RT k u v) {l i : Nat} (hl : l < 6) (hi : i < 8) (M : Nat) {P : Int32 × SS → Prop} (k74 : Int32 → Int32 → Int32 → Int32 → SS → Option (Int32 × SS)) (b2 : Int32) (hk : ∀ (b3 : Int32) (w : SS), RJE u l v M (i + 1) 0 b3 w → TO P (k74 (nI l) b2 b3 (nI (i + 1)) w)) {b3 : Int32} (hj : RJE u l v M i 0 b3 w) : TO P (f_X10_ring_L84 k74 FU (nI l) b2 b3 (nI i) (0 : Int32) w) := by
  refine loopR (fun F (x : Int32 × Int32 × SS) => f_X10_ring_L84 k74 F (nI l) b2 x.1 (nI i) x.2.1 x.2.2) (fun n x => x.2.1 = nI n ∧ RJE u l v M i n x.1 x.2.2) _ 8 ?_ (F := FU) (x := (b3, (0 : Int32), w)) (Nat.lt_trans (by decide) FU_ge) ⟨rfl, hj⟩
  intro F x n hn hI hc2
  obtain ⟨b3, b5, y⟩ := x
  obtain ⟨e5, hj⟩ := hI
  have e5 : b5 = nI n := e5
  have hj : RJE u l v M i n b3 y := hj
  subst e5
  show TO _ (b_X10_ring_L84 k74 (f_X10_ring_L84 k74 F) (nI l) b2 b3 (nI i) (nI n) y)
  unfold b_X10_ring_L84 f_X10_ring_L132 f_X10_ring_L133 f_X10_ring_L194
  by_cases c8 : n = 8
  · subst c8
    rw [if_pos (show (8 : Int32) ≤ nI 8 by decide), lt_e, nI_1]
    refine hk b3 y ⟨hj.1, hj.2.1, hj.2.2.elim (fun z => Or.inl ⟨z.1, z.2.1, fun a b q => ?_⟩) Or.inr⟩
    rcases Nat.lt_or_ge a i with q2 | q2
    · exact z.2.2 a b (Or.inl q2)
    · intro e
      exact z.2.2 a b (Or.inr ⟨by omega, e.2.1⟩) e
  have hn2 : n < 8 := by omega
  rw [if_neg (show ¬ (8 : Int32) ≤ nI n from nI_ge (b := 8) hn2 (by decide))]
  have st : ∀ (b : Int32) (z : SS), RJE u l v M i (n + 1) b z → TO P (lt (nI n + (1 : Int32)) fun x11 => f_X10_ring_L84 k74 F (nI l) b2 b (nI i) x11 z) := by
    intro b z q
    rw [lt_e, nI_1]; exact hc2 (b, nI (n + 1), z) hn2 ⟨rfl, q⟩
  have nx : ∀ z : SS, MK v z → gA z 31 = gA y 31 → OKP u l y i n → RJE u l v M i (n + 1) b3 z := by
    intro z mz e ok
    refine ⟨mz, RGs_e e hj.2.1, ?_⟩
    rcases hj.2.2 with ⟨q1, q2, q3⟩ | ⟨q1, q2⟩
    · refine Or.inl ⟨q1, by rw [e]; exact q2, fun a b q => OKP_e e ?_⟩
      rcases q with q | ⟨qa, qb⟩
      · exact q3 a b (Or.inl q)
      · rcases Nat.lt_or_ge b n with q4 | q4
        · exact q3 a b (Or.inr ⟨qa, q4⟩)
        · have eb : b = n := by omega
          subst qa; subst eb; exact ok
    · exact Or.inr ⟨q1, by rw [e]; exact q2⟩
  by_cases c1 : i = n
  · subst c1
    rw [if_pos rfl, if_pos rfl]
    exact st _ _ (nx y hj.1 rfl (fun _ => Nat.le_refl _))
  rw [if_neg (fun z => c1 ((nI_eq (by omega) (by omega)).mp z)), cellM, cellM, oi_nI (by decide) (show 8 * l + i < 48 by omega), oi_nI (by decide) (show 8 * l + n < 48 by omega), nI_clamp (show 8 * l + i < 2 ^ 31 by omega), nI_clamp (show 8 * l + n < 2 ^ 31 by omega)]
  have hR : RT k u y := RT_mk h hj.1
  have t1 := ((hR.2.2.2.1 i l hi hl).1).1
  have t2 := ((hR.2.2.2.1 n l hn2 hl).1).1
  rw [t1, t2]
  by_cases c2 : gA u 3 (i * 6 + l) = 0
  · rw [if_pos c2, if_pos rfl]; exact st _ _ (nx y hj.1 rfl (fun e => (e.2.2.1 c2).elim))
  rw [if_neg c2]
  by_cases c3 : gA u 3 (n * 6 + l) = 0
  · rw [if_pos c3, if_pos rfl]; exact st _ _ (nx y hj.1 rfl (fun e => (e.2.2.2.1 c3).elim))
  rw [if_neg c3, if_neg nz_1, oi_nI (by decide) hi, oi_nI (by decide) hn2, nI_clamp (show i < 2 ^ 31 by omega), nI_clamp (show n < 2 ^ 31 by omega)]
  have q1 : gA y 31 i = nI (nn (gA y 31 i)) ∧ nn (gA y 31 i) ≤ 7 := eN_nn (by decide) (hj.2.1 i hi).1
  have q2 : gA y 31 n = nI (nn (gA y 31 n)) ∧ nn (gA y 31 n) ≤ 7 := eN_nn (by decide) (hj.2.1 n hn2).1
  by_cases c4 : nn (gA y 31 n) ≤ nn (gA y 31 i)
  · rw [if_pos (by rw [q1.1, q2.1]; exact nI_le c4 (by omega))]
    exact st _ _ (nx y hj.1 rfl (fun _ => c4))
  rw [if_neg (fun z => c4 (by rw [q1.1, q2.1] at z; exact (nI_leI (by omega) (by omega)).mp z))]
  obtain ⟨r, z, er, lk, br, hr⟩ := ajM hR hi hl hn2
  have e31 := lk.2 31 (by decide)
  have mz := MK_t hj.1 (LK_mk lk)
  rw [er, ob_s]
  by_cases c5 : r = 0
  · rw [if_pos c5]
    exact st _ _ (nx z mz e31 (fun e => by have := hr.mpr e.2.2.2.2; rw [c5] at this; exact (n01 this).elim))
  rw [if_neg c5, oi_nI (by decide) hi, oi_nI (by decide) hn2, lt_e]
  have ed : Eg u l i n := ⟨hi, hn2, c2, c3, hr.mp (br.resolve_left c5)⟩
  have su : sm8 (gA (tA z 31 (nI n) (gA z 31 i)) 31) < sm8 (gA z 31) := by
    rw [tAe, nI_clamp (by omega)]
    exact sm8_u hn2 (by rw [e31]; omega)
  have le : sm8 (gA z 31) ≤ M := by
    rw [e31]
    rcases hj.2.2 with q | q
    · exact q.2.1
    · exact Nat.le_of_lt q.2
  refine st 1 _ ⟨MK_A (by unfold kMA; omega) mz, fun t ht => ?_, Or.inr ⟨rfl, by omega⟩⟩
  rw [tAe, nI_clamp (by omega)]
  by_cases z0 : t = n
  · subst z0
    rw [upd_s, e31]
    refine ⟨(hj.2.1 i hi).1, ?_, Rc_s (hj.2.1 i hi).2.2 ed⟩
    have : nn (gA y 31 t) ≤ t := (hj.2.1 t ht).2.1
    omega
  · rw [upd_n _ _ z0, e31]; exact hj.2.1 t ht
theorem re74 (h : RT k u v) {l : Nat} (hl : l < 6) (M : Nat) {P : Int32 × SS → Prop} (k65 : Int32 → Int32 → Int32 → SS → Option (Int32 × SS)) (b2 : Int32) (hk : ∀ (b3 : Int32) (w : SS), RJE u l v M 8 0 b3 w → TO P (k65 (nI l) b2 b3 w)) (hj : RJE u l v M 0 0 0 w) : TO P (f_X10_ring_L74 k65 FU (nI l) b2 (0 : Int32) (0 : Int32) w) := by
  refine loopR (fun F (x : Int32 × Int32 × SS) => f_X10_ring_L74 k65 F (nI l) b2 x.1 x.2.1 x.2.2) (fun n x => x.2.1 = nI n ∧ RJE u l v M n 0 x.1 x.2.2) _ 8 ?_ (F := FU) (x := ((0 : Int32), (0 : Int32), w)) (Nat.lt_trans (by decide) FU_ge) ⟨rfl, hj⟩
  intro F x n hn hI hc2
  obtain ⟨b3, b5, y⟩ := x
  obtain ⟨e5, hj⟩ := hI
  have e5 : b5 = nI n := e5
  have hj : RJE u l v M n 0 b3 y := hj
  subst e5
  show TO _ (b_X10_ring_L74 k65 (f_X10_ring_L74 k65 F) (nI l) b2 b3 (nI n) y)
  unfold b_X10_ring_L74
  by_cases c8 : n = 8
  · subst c8
    rw [if_pos (show (8 : Int32) ≤ nI 8 by decide)]; exact hk b3 y hj
  have hn2 : n < 8 := by omega
  rw [if_neg (show ¬ (8 : Int32) ≤ nI n from nI_ge (b := 8) hn2 (by decide))]
  exact re84 h hl hn2 M _ b2 (fun b z q => hc2 (b, nI (n + 1), z) hn2 ⟨rfl, q⟩) hj
theorem re65 (h : RT k u v) {l b : Nat} (hl : l < 6) (hb : b < 8) (m : MK v w) (r : RGs u l w) : TO (fun p : Int32 × SS => MK v p.2 ∧ ∃ q : Nat, p.1 = nI q ∧ Lst u l b q) (f_X10_ring_L65 FU (nI l) (nI b) (1 : Int32) w) := by
  have sl : ∀ w : SS, RGs u l w → sm8 (gA w 31) ≤ 56 := fun w r => sm8_le (fun i hi => (r i hi).1)
  refine loopR (fun F (x : Int32 × SS) => f_X10_ring_L65 F (nI l) (nI b) x.1 x.2) (fun n x => MK v x.2 ∧ RGs u l x.2 ∧ ((x.1 = 0 ∧ ∀ a b, a < 8 → OKP u l x.2 a b) ∨ (x.1 = 1 ∧ sm8 (gA x.2 31) + n ≤ 57))) _ 58 ?_ (F := FU) (x := ((1 : Int32), w)) (Nat.lt_trans (by decide) FU_ge) ⟨m, r, Or.inr ⟨rfl, by have := sl w r; show sm8 (gA w 31) + 0 ≤ 57; omega⟩⟩
  intro F x n hn hI hc2
  obtain ⟨b3, y⟩ := x
  obtain ⟨m, r, hs⟩ := hI
  have m : MK v y := m
  have r : RGs u l y := r
  have hs : (b3 = 0 ∧ ∀ a b, a < 8 → OKP u l y a b) ∨ (b3 = 1 ∧ sm8 (gA y 31) + n ≤ 57) := hs
  show TO _ (b_X10_ring_L65 (f_X10_ring_L65 F) (nI l) (nI b) b3 y)
  unfold b_X10_ring_L65
  rcases hs with ⟨e3, ok⟩ | ⟨e3, hs2⟩
  · rw [if_pos e3, oi_nI (by decide) hb, nI_clamp (by omega)]
    have q1 := eN_nn (by decide) (r b hb).1
    refine to_s ⟨m, nn (gA y 31 b), q1.1, Rc_c (r b hb).2.2, fun t ht => ?_⟩
    have cl : t < 8 ∧ nn (gA y 31 t) = nn (gA y 31 b) := ht (fun s => s < 8 ∧ nn (gA y 31 s) = nn (gA y 31 b)) ⟨hb, rfl⟩ (fun s t hs e => ⟨e.2.1, by
      have a1 := ok s t e.1 e
      have a2 := ok t s e.2.1 (Eg_c e)
      omega⟩)
    have := (r t cl.1).2.1
    omega
  · rw [if_neg (by rw [e3]; exact n10)]
    refine re74 (v := v) h hl (sm8 (gA y 31)) _ _ (fun b z q => ?_) ⟨m, r, Or.inl ⟨rfl, Nat.le_refl _, fun a b q => absurd q (by omega)⟩⟩
    refine hc2 (b, z) (by omega) ⟨q.1, q.2.1, q.2.2.elim (fun z => Or.inl ⟨z.1, fun a b ha => z.2.2 a b (Or.inl ha)⟩) (fun z2 => Or.inr ⟨z2.1, ?_⟩)⟩
    have := z2.2
    show sm8 (gA z 31) + (n + 1) ≤ 57
    omega
theorem st_ringE (h : RT k u v) (l b : Int32) : QQ (RT (k + 1)) (f_X9_ring l b u) (f_X10_ring l b v) := by
  obtain ⟨⟨t, L, ht, hL1, hL6, e0, e0m, e2, e2m, e1, e1c⟩, -⟩ := id h
  unfold f_X9_ring f_X10_ring f_X10_ring_L15
  rcases bl_c b l L hL6 with ⟨i, j, hi, hj, hj6, rfl, rfl⟩ | hbl
  rotate_left
  · rw [noBid_f e2 hL6 hbl, ob_s, if_neg nz_1, rfB rwd1, ob_s]
    by_cases c1 : rg L l
    · rw [isLot_t e2m hL1 hL6 c1, ob_s, if_neg nz_1, isBidder_f (fun z => hbl ⟨z, c1⟩), ob_s, if_pos rfl, rfM rwd1, ob_s]; exact qq_rf tA1 h _
    · rw [isLot_f e2m hL1 hL6 c1, ob_s, if_pos rfl, rfM rwd1, ob_s]; exact qq_rf tA1 h _
  rw [noBid_t e2 hL6 ⟨⟨i, hi, rfl⟩, ⟨j, hj, rfl⟩⟩, ob_s, if_pos rfl, ceB, ob_s, cellB, oi_nI (by decide) (show i * 6 + j < 48 by omega), nI_clamp (show i * 6 + j < 2 ^ 31 by omega), isLot_t e2m hL1 hL6 ⟨j, hj, rfl⟩, ob_s, if_neg nz_1, isBidder_t ⟨i, hi, rfl⟩, ob_s, if_neg nz_1, cellM, oi_nI (by decide) (show 8 * j + i < 48 by omega), nI_clamp (show 8 * j + i < 2 ^ 31 by omega), ((h.2.2.2.1 i j hi hj6).1).1]
  by_cases c1 : gA u 3 (i * 6 + j) = 0
  · rw [if_pos c1, if_pos c1, rfB rwd5, rfM rwd5, ob_s, ob_s]; exact qq_rf tA1 h _
  rw [if_neg c1, if_neg c1]
  obtain ⟨q, hq, eq, Lq⟩ := ljE h hj6 hi c1
  rw [eq, ob_s]
  have key : TO (fun p : Int32 × SS => MK v p.2 ∧ ∃ q : Nat, p.1 = nI q ∧ Lst u j i q) (f_X10_ring_L44 FU (nI j) (nI i) (0 : Int32) v) := by
    refine loopR (fun F (x : Int32 × SS) => f_X10_ring_L44 F (nI j) (nI i) x.1 x.2) (fun n x => x.1 = nI n ∧ MK v x.2 ∧ ∀ m : Nat, m < n → gA x.2 31 m = nI m) _ 8 ?_ (F := FU) (x := ((0 : Int32), v)) (Nat.lt_trans (by decide) FU_ge) ⟨rfl, MK_r v, fun m hm => absurd hm (by omega)⟩
    intro F x n hn hI hc2
    obtain ⟨b3, y⟩ := x
    obtain ⟨e5, m, pl⟩ := hI
    have e5 : b3 = nI n := e5
    have m : MK v y := m
    have pl : ∀ m : Nat, m < n → gA y 31 m = nI m := pl
    subst e5
    show TO _ (b_X10_ring_L44 (f_X10_ring_L44 F) (nI j) (nI i) (nI n) y)
    unfold b_X10_ring_L44
    by_cases c1 : n = 8
    · subst c1
      rw [if_pos (show (8 : Int32) ≤ nI 8 by decide)]
      refine re65 h (by omega) hi m (fun t ht => ?_)
      rw [pl t ht, nn_nI (by omega)]
      exact ⟨⟨t, by omega, rfl⟩, Nat.le_refl _, Rc_r j t⟩
    · rw [if_neg (show ¬ (8 : Int32) ≤ nI n from nI_ge (b := 8) (by omega) (by decide)), oi_nI (by decide) (show n < 8 by omega), lt_e, lt_e, nI_1]
      refine hc2 (nI (n + 1), _) (by omega) ⟨rfl, MK_A (by unfold kMA; omega) m, fun q hq => ?_⟩
      show gA (tA y 31 (nI n) (nI n)) 31 q = nI q
      rw [tAe, nI_clamp (by omega)]
      by_cases z : q = n
      · rw [z, upd_s]
      · rw [upd_n _ _ z]; exact pl q (by omega)
  obtain ⟨⟨r, y⟩, er, my, q2, e3, L2⟩ := key
  have e3 : r = nI q2 := e3
  subst e3
  rw [er, Lst_u L2 Lq]
  exact ⟨_, _, _, _, rfl, rfl, RT_s (RT_mk h my), rfl⟩
end ST32
