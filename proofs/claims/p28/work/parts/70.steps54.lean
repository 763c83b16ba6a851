section ST54
variable {k n : Nat} {u v v2 w x y : SS}
theorem vv_le2 {p q : Nat → Nat} {a : Nat} : ∀ d : Nat, vv q a ≤ vv p a → (∀ l : Nat, a ≤ l → l < a + d → q l ≤ p l) → vv q (a + d) ≤ vv p (a + d) := by
  intro d
  induction d with
  | zero => intro h _; exact h
  | succ d ih =>
    intro h h2
    have a1 := ih h (fun l l1 l2 => h2 l l1 (by omega))
    have a2 := h2 (a + d) (by omega) (by omega)
    show vv q (a + d) * 9 + q (a + d) ≤ vv p (a + d) * 9 + p (a + d)
    omega
theorem vv_inj {p q : Nat → Nat} : ∀ m : Nat, (∀ l : Nat, l < m → p l ≤ 8 ∧ q l ≤ 8) → vv p m = vv q m → ∀ l : Nat, l < m → p l = q l := by
  intro m
  induction m with
  | zero => intro _ _ l hl; exact absurd hl (Nat.not_lt_zero l)
  | succ m ih =>
    intro h e l hl
    have e : vv p m * 9 + p m = vv q m * 9 + q m := e
    have b := h m (by omega)
    by_cases z : l = m
    · rw [z]; omega
    · exact ih (fun l hl => h l (by omega)) (by omega) l (by omega)
/-- only the picks are written -/
def F21 (w y : SS) : Prop := (∀ i : Nat, gI y i = gI w i) ∧ ∀ a : Nat, a ≠ 21 → gA y a = gA w a
theorem F21_mk (f : F21 w y) : MK w y := ⟨⟨fun i _ => f.1 i, fun a ha => f.2 a (by unfold kMA at ha; omega)⟩, f.2 18 (by decide), f.2 24 (by decide), f.1 16, f.1 17, f.1 18⟩
/-- the next picks: none lies between -/
theorem fw106V {D : List Int32} {L : Nat} {p : Nat → Nat} (hL1 : 1 ≤ L) (hL : L ≤ 6) {P : SS → Prop} (k91 : Int32 → SS → Option SS) (o : WOu u D L w) (pk : PKp L p w) (bx : BXp u D L p) (hk : ∀ (y : SS) (p2 : Nat → Nat), F21 w y → PKp L p2 y → BXp u D L p2 → vv p L + 1 ≤ vv p2 L → (∀ q : Nat → Nat, BXp u D L q → vv q L < vv p2 L → vv q L ≤ vv p L) → TO P (k91 (1 : Int32) y)) (hk0 : ∀ y, F21 w y → (∀ q : Nat → Nat, BXp u D L q → vv q L ≤ vv p L) → TO P (k91 (0 : Int32) y)) : TO P (f_X10_findWhole_L106 k91 FU (nI L - 1) w) := by
  rw [show nI L - (1 : Int32) = nI (L - 1) from pk_sub (a := L) (b := 1) (by omega)]
  refine loopR (fun F (x : Int32 × SS) => f_X10_findWhole_L106 k91 F x.1 x.2) (fun i x => ((i < L ∧ x.1 = nI (L - 1 - i)) ∨ (i = L ∧ x.1 = -1)) ∧ F21 w x.2 ∧ (∀ l : Nat, l < L - i → gA x.2 21 l = nI (p l)) ∧ ∀ l : Nat, L - i ≤ l → l < L → gA x.2 21 l = 0 ∧ p l = (ordS u D l 8).1) _ L ?_ (F := FU) (x := (nI (L - 1), w)) (Nat.lt_trans (show L < 1000 by omega) FU_ge) ⟨Or.inl ⟨by omega, rfl⟩, ⟨fun _ => rfl, fun _ _ => rfl⟩, fun l hl => pk l (by omega), fun l h1 h2 => absurd h1 (by omega)⟩
  intro F x i hi hI hc2
  obtain ⟨b2, y⟩ := x
  obtain ⟨e, f, s1, s2⟩ := hI
  have f : F21 w y := f
  have s1 : ∀ l : Nat, l < L - i → gA y 21 l = nI (p l) := s1
  have s2 : ∀ l : Nat, L - i ≤ l → l < L → gA y 21 l = 0 ∧ p l = (ordS u D l 8).1 := s2
  show TO _ (b_X10_findWhole_L106 k91 (f_X10_findWhole_L106 k91 F) b2 y)
  unfold b_X10_findWhole_L106 f_X10_findWhole_L138 f_X10_findWhole_L147 f_X10_findWhole_L162
  rcases e with ⟨hiL, e⟩ | ⟨hiL, e⟩
  rotate_left
  · have e : b2 = -1 := e
    subst e
    rw [if_pos lt_m1, if_pos lt_m1, if_pos rfl]
    refine hk0 y f (fun q bq => ?_)
    have := vv_le2 (p := p) (q := q) (a := 0) L (Nat.le_refl _) (fun l _ h2 => by
      have a := (s2 l (by omega) (by omega)).2
      have b := bq l (by omega)
      omega)
    rw [show 0 + L = L by omega] at this
    exact this
  have e : b2 = nI (L - 1 - i) := e
  subst e
  have bl : L - 1 - i < L := by omega
  have m8 := ord8 u D (L - 1 - i)
  have b8 := bx (L - 1 - i) bl
  rw [if_neg (nI_pos (by omega)), nI_clamp (show L - 1 - i < 2 ^ 31 by omega), oi_nI (by decide) (show L - 1 - i < 6 by omega), oi_nI (by decide) (show L - 1 - i < 6 by omega), f.2 20 (by decide), (o _ bl).1, s1 (L - 1 - i) (by omega)]
  have fz : ∀ z : Int32, F21 w (tA y 21 (nI (L - 1 - i)) z) := fun z => ⟨f.1, fun a ha => by rw [tAn ha]; exact f.2 a ha⟩
  by_cases c : p (L - 1 - i) = (ordS u D (L - 1 - i) 8).1
  · rw [if_pos (by rw [c]), oi_nI (by decide) (show L - 1 - i < 6 by omega), lt_e, lt_e]
    refine hc2 (nI (L - 1 - i) + (-1), _) hiL ⟨?_, fz 0, fun l hl => ?_, fun l h1 h2 => ?_⟩
    · rcases Nat.lt_or_ge (i + 1) L with z | z
      · refine Or.inl ⟨z, ?_⟩
        show nI (L - 1 - i) + (-1) = nI (L - 1 - (i + 1))
        rw [show L - 1 - i = (L - 1 - (i + 1)) + 1 by omega]; exact pk_m1 _
      · refine Or.inr ⟨by omega, ?_⟩
        show nI (L - 1 - i) + (-1) = -1
        rw [show L - 1 - i = 0 by omega]; rfl
    · show gA (tA y 21 (nI (L - 1 - i)) 0) 21 l = _
      rw [tAe, nI_clamp (by omega), upd_n _ _ (by omega)]; exact s1 l (by omega)
    · show gA (tA y 21 (nI (L - 1 - i)) 0) 21 l = 0 ∧ _
      rw [tAe, nI_clamp (by omega)]
      by_cases z : l = L - 1 - i
      · rw [z, upd_s]; exact ⟨rfl, c⟩
      · rw [upd_n _ _ z]; exact s2 l (by omega) h2
  · rw [if_neg (fun z => c ((nI_eq (by omega) (by omega)).mp z)), if_neg (nI_pos (show L - 1 - i < 2 ^ 31 by omega)), if_neg nz_1, oi_nI (by decide) (show L - 1 - i < 6 by omega), oi_nI (by decide) (show L - 1 - i < 6 by omega), nI_1, lt_e]
    have pj : ∀ l : Nat, l < L - 1 - i → (if l < L - 1 - i then p l else if l = L - 1 - i then p l + 1 else 0) = p l := fun l hl => if_pos hl
    have pe : (if L - 1 - i < L - 1 - i then p (L - 1 - i) else if L - 1 - i = L - 1 - i then p (L - 1 - i) + 1 else 0) = p (L - 1 - i) + 1 := by rw [if_neg (Nat.lt_irrefl _), if_pos rfl]
    have pz : ∀ l : Nat, L - 1 - i < l → (if l < L - 1 - i then p l else if l = L - 1 - i then p l + 1 else 0) = 0 := fun l hl => by rw [if_neg (by omega), if_neg (by omega)]
    have ev1 : vv (fun l => if l < L - 1 - i then p l else if l = L - 1 - i then p l + 1 else 0) (L - 1 - i + 1) = vv p (L - 1 - i + 1) + 1 := by
      show vv (fun l => if l < L - 1 - i then p l else if l = L - 1 - i then p l + 1 else 0) (L - 1 - i) * 9 + (if L - 1 - i < L - 1 - i then p (L - 1 - i) else if L - 1 - i = L - 1 - i then p (L - 1 - i) + 1 else 0) = vv p (L - 1 - i) * 9 + p (L - 1 - i) + 1
      rw [vv_c (q := p) pj, pe]; omega
    have eL : L - 1 - i + 1 + i = L := by omega
    refine hk _ (fun l => if l < L - 1 - i then p l else if l = L - 1 - i then p l + 1 else 0) (fz _) (fun l hl => ?_) (fun l hl => ?_) ?_ (fun q bq lt => ?_)
    · show gA (tA y 21 (nI (L - 1 - i)) (nI (p (L - 1 - i) + 1))) 21 l = nI (if l < L - 1 - i then p l else if l = L - 1 - i then p l + 1 else 0)
      rw [tAe, nI_clamp (by omega)]
      rcases Nat.lt_trichotomy l (L - 1 - i) with z | z | z
      · rw [pj l z, upd_n _ _ (by omega)]; exact s1 l (by omega)
      · rw [z, upd_s, pe]
      · rw [pz l z, upd_n _ _ (by omega)]; exact (s2 l (by omega) hl).1
    · show (if l < L - 1 - i then p l else if l = L - 1 - i then p l + 1 else 0) ≤ _
      rcases Nat.lt_trichotomy l (L - 1 - i) with z | z | z
      · rw [pj l z]; exact bx l hl
      · rw [z, pe]; omega
      · rw [pz l z]; exact Nat.zero_le _
    · have key := vv_up (p := p) (q := fun l => if l < L - 1 - i then p l else if l = L - 1 - i then p l + 1 else 0) (b := L - 1 - i) pj pe i (fun l l1 l2 => by
        have := bx l (by omega)
        have := ord8 u D l
        omega)
      rw [eL] at key
      exact key
    · have lt1 : vv q (L - 1 - i + 1) ≤ vv p (L - 1 - i + 1) := by
        rcases Nat.lt_or_ge (vv q (L - 1 - i + 1)) (vv (fun l => if l < L - 1 - i then p l else if l = L - 1 - i then p l + 1 else 0) (L - 1 - i + 1)) with z | z
        · omega
        · have := vv_le2 (p := q) (q := fun l => if l < L - 1 - i then p l else if l = L - 1 - i then p l + 1 else 0) (a := L - 1 - i + 1) i z (fun l h1 _ => by
            show (if l < L - 1 - i then p l else if l = L - 1 - i then p l + 1 else 0) ≤ q l
            rw [pz l (by omega)]; exact Nat.zero_le _)
          rw [eL] at this
          omega
      have := vv_le2 (p := p) (q := q) (a := L - 1 - i + 1) i lt1 (fun l h1 h2 => by
        have a := (s2 l (by omega) (by omega)).2
        have b := bq l (by omega)
        omega)
      rw [eL] at this
      exact this
/-- the reference has found the best -/
def FDm (T : TD) (y : SS) : Prop := ∃ g : Nat → Nat, wGv T g ∧ (∀ g2 : Nat → Nat, wGv T g2 → wKK T g ≤ wKK T g2) ∧ gI y 17 = nI (wlo T - wlf T g) ∧ gI y 18 = nI (wvl T g) ∧ ∀ l : Nat, l < wlo T → gA y 18 l = gvI (g l)
theorem BST_m {T : TD} {S S2 : (Nat → Nat) → Prop} (h : BST T S w) (hs : ∀ g : Nat → Nat, S2 g → S g) : BST T S2 w := by
  rcases h with ⟨a, b⟩ | ⟨g, g1, g2, g3, g4, g5, g6⟩
  · exact Or.inl ⟨a, fun g hg => b g (hs g hg)⟩
  · exact Or.inr ⟨g, g1, g2, g3, g4, g5, fun q hq => g6 q (hs q hq)⟩
theorem gP_c {D : List Int32} {L : Nat} {p q : Nat → Nat} (h : ∀ l : Nat, l < L → p l = q l) : gP u D L p = gP u D L q := by
  funext l
  unfold gP
  by_cases c : l < L
  · rw [h l c]
  · rw [if_neg (fun z => c z.1), if_neg (fun z => c z.1)]
theorem BST_d (h0 : RT k u v) {D : List Int32} {L : Nat} (hL : L ≤ 6) (eT : wlo (TU u D) = L) (hb : BST (TU u D) (fun g => ∃ q : Nat → Nat, BXp u D L q ∧ g = gP u D L q) w) (e17 : gI y 17 = gI w 20) (e18 : gI y 18 = gI w 21) (a18 : gA y 18 = gA w 18) : FDm (TU u D) y := by
  have eL : nn (gI u 2) = L := eT
  rcases hb with ⟨-, b⟩ | ⟨g, g1, g2, g3, g4, g5, g6⟩
  · exfalso
    refine b (gP u D L (fun l => (ordS u D l 8).1)) ⟨_, fun l _ => Nat.le_refl _, rfl⟩ ?_
    have e8 : ∀ l : Nat, gP u D L (fun l => (ordS u D l 8).1) l = 8 := fun l => gP_n (Nat.le_refl _)
    refine ⟨fun l _ => Or.inl (e8 l), fun b hb => ?_⟩
    rw [(wbc_0 (T := TU u D) (g := gP u D L (fun l => (ordS u D l 8).1)) (b := b) (fun l _ => by rw [e8 l]; omega)).1]
    exact Nat.zero_le _
  · refine ⟨g, g1, fun g2 h2 => ?_, e17.trans g2, e18.trans g3, fun l hl => by rw [a18]; exact g5 l hl⟩
    have same : ∀ l : Nat, l < 6 → g2 l = gP u D L (fun l => if g2 l < 8 then pcU u D l (g2 l) else (ordS u D l 8).1) l := by
      intro l hl
      rcases h2.1 l hl with z | ⟨z, z2⟩
      · rw [gP_n (show (ordS u D l 8).1 ≤ (if g2 l < 8 then pcU u D l (g2 l) else (ordS u D l 8).1) by rw [if_neg (by omega)]; exact Nat.le_refl _)]; exact z
      · obtain ⟨z3, z4, z5⟩ := pcU_o (u := u) (D := D) (l := l) (b := g2 l) z2
        have e : (if g2 l < 8 then pcU u D l (g2 l) else (ordS u D l 8).1) = pcU u D l (g2 l) := if_pos z
        rw [gP_t (p := fun l => if g2 l < 8 then pcU u D l (g2 l) else (ordS u D l 8).1) (show l < L by omega) (by show (if g2 l < 8 then pcU u D l (g2 l) else (ordS u D l 8).1) < _; rw [e]; exact z4)]
        show g2 l = (ordS u D l 8).2 (if g2 l < 8 then pcU u D l (g2 l) else (ordS u D l 8).1)
        rw [e]; exact z5.symm
    obtain ⟨ek, ok⟩ := wKK_c (T := TU u D) same
    rw [ek]
    refine g6 _ ⟨_, fun l hl => ?_, rfl⟩ (ok h2)
    show (if g2 l < 8 then pcU u D l (g2 l) else (ordS u D l 8).1) ≤ _
    by_cases z : g2 l < 8
    · rw [if_pos z]
      rcases h2.1 l (by omega) with q | ⟨-, q⟩
      · omega
      · exact Nat.le_of_lt (pcU_o (u := u) (D := D) (l := l) (b := g2 l) q).2.1
    · rw [if_neg z]; exact Nat.le_refl _
theorem fw91V (h0 : RT k u v) (no : ¬ Opn u) {D : List Int32} {L : Nat} {p0 : Nat → Nat} (hL1 : 1 ≤ L) (hL : L ≤ 6) (eT : wlo (TU u D) = L) (m : WK v w) (o : WOu u D L w) (pk : PKp L p0 w) (z0 : ∀ l : Nat, l < L → p0 l = 0) (e20 : gI w 20 = -1) (e2v : gI v 2 = nI L) : TO (fun y => WK v y ∧ FDm (TU u D) y) (f_X10_findWhole_L91 FU (1 : Int32) w) := by
  have p9 : 9 ^ L ≤ 531441 := Nat.le_trans (Nat.pow_le_pow_right (by decide) hL) (by decide)
  have d8 : ∀ q : Nat → Nat, BXp u D L q → ∀ l : Nat, l < L → q l ≤ 8 := fun q bq l hl => by
    have := bq l hl
    have := ord8 u D l
    omega
  refine loopR (fun F (x : Int32 × SS) => f_X10_findWhole_L91 F x.1 x.2) (fun i x => WK v x.2 ∧ WOu u D L x.2 ∧ ((x.1 = 0 ∧ BST (TU u D) (fun g => ∃ q : Nat → Nat, BXp u D L q ∧ g = gP u D L q) x.2) ∨ (x.1 = 1 ∧ ∃ p : Nat → Nat, PKp L p x.2 ∧ BXp u D L p ∧ i ≤ vv p L ∧ BST (TU u D) (fun g => ∃ q : Nat → Nat, BXp u D L q ∧ vv q L < vv p L ∧ g = gP u D L q) x.2))) _ 531441 ?_ (F := FU) (x := ((1 : Int32), w)) (Nat.lt_trans (by decide) FU_9) ⟨m, o, Or.inr ⟨rfl, p0, pk, fun l hl => by rw [z0 l hl]; exact Nat.zero_le _, Nat.zero_le _, Or.inl ⟨e20, fun g ⟨q, bq, lt, _⟩ => ?_⟩⟩⟩
  rotate_left
  · have : vv p0 L ≤ vv q L := by
      have := vv_le2 (p := q) (q := p0) (a := 0) L (Nat.le_refl _) (fun l _ h2 => by rw [z0 l (by omega)]; exact Nat.zero_le _)
      rw [show 0 + L = L by omega] at this
      exact this
    omega
  intro F x i hi hI hc2
  obtain ⟨b1, y⟩ := x
  obtain ⟨my, oy, hv⟩ := hI
  have my : WK v y := my
  have oy : WOu u D L y := oy
  have e2 : gI y 2 = nI L := by rw [my.1.1 2 (by unfold kMI; omega)]; exact e2v
  show TO _ (b_X10_findWhole_L91 (f_X10_findWhole_L91 F) b1 y)
  unfold b_X10_findWhole_L91
  rcases hv with ⟨e, bs⟩ | ⟨e, p, pp, bp, ip, bs⟩
  · have e : b1 = 0 := e
    subst e
    have bs : BST (TU u D) (fun g => ∃ q : Nat → Nat, BXp u D L q ∧ g = gP u D L q) y := bs
    rw [if_pos rfl, lt_e, lt_e]
    refine to_s ⟨WK_I (by unfold kMI; omega) (WK_I (by unfold kMI; omega) my), BST_d h0 hL eT bs ?_ ?_ rfl⟩
    · rw [sIn (by decide), sIe]
    · rw [sIe, sIn (by decide)]
  · have e : b1 = 1 := e
    subst e
    have pp : PKp L p y := pp
    have bs : BST (TU u D) (fun g => ∃ q : Nat → Nat, BXp u D L q ∧ vv q L < vv p L ∧ g = gP u D L q) y := bs
    rw [if_neg nz_1]
    refine to_v (tpV h0 no hL eT my oy pp bp e2 bs) (fun z hz => ?_)
    obtain ⟨⟨mz, z19, z20, z21⟩, bz⟩ := hz
    have oz : WOu u D L z := by unfold WOu; rw [z19, z20]; exact oy
    have pz : PKp L p z := by unfold PKp; rw [z21]; exact pp
    have vlt : vv p L + 1 ≤ 9 ^ L := vv_le (fun l hl => d8 p bp l hl)
    have inn : ∀ q : Nat → Nat, BXp u D L q → vv q L ≤ vv p L → ((∃ q2 : Nat → Nat, BXp u D L q2 ∧ vv q2 L < vv p L ∧ gP u D L q = gP u D L q2) ∨ gP u D L q = gP u D L p) := by
      intro q bq le
      rcases Nat.lt_or_ge (vv q L) (vv p L) with lt | ge
      · exact Or.inl ⟨q, bq, lt, rfl⟩
      · exact Or.inr (gP_c (fun l hl => vv_inj L (fun l hl => ⟨d8 q bq l hl, d8 p bp l hl⟩) (by omega) l hl))
    rw [show gI z 2 = nI L by rw [mz.1.1 2 (by unfold kMI; omega)]; exact e2v, lt_e]
    refine fw106V hL1 hL _ oz pz bp (fun r p2 fr pr br up nb => ?_) (fun r fr nb => ?_)
    · refine hc2 (1, r) (by omega) ⟨WK_k mz (F21_mk fr), ?_, Or.inr ⟨rfl, p2, pr, br, show i + 1 ≤ vv p2 L by omega, ?_⟩⟩
      · show WOu u D L r
        unfold WOu; rw [fr.2 19 (by decide), fr.2 20 (by decide)]; exact oz
      · refine BST_f (w := z) (BST_m bz (fun g hg => ?_)) (fr.1 19) (fr.1 20) (fr.1 21) (fr.2 18 (by decide))
        obtain ⟨q, bq, lt, e⟩ := hg
        rw [e]; exact inn q bq (nb q bq lt)
    · refine hc2 (0, r) (by omega) ⟨WK_k mz (F21_mk fr), ?_, Or.inl ⟨rfl, ?_⟩⟩
      · show WOu u D L r
        unfold WOu; rw [fr.2 19 (by decide), fr.2 20 (by decide)]; exact oz
      · refine BST_f (w := z) (BST_m bz (fun g hg => ?_)) (fr.1 19) (fr.1 20) (fr.1 21) (fr.2 18 (by decide))
        obtain ⟨q, bq, e⟩ := hg
        rw [e]; exact inn q bq (nb q bq)
/-- an order is kept -/
theorem fw40V {D : List Int32} {L l : Nat} (hl : l < L) (hL : L ≤ 6) {P : SS → Prop} (k15 : Int32 → SS → Option SS) (m : WK v w) (o : WOu u D l w) (z0 : ∀ l2 : Nat, l2 < l → gA w 21 l2 = 0) (e20 : gA w 20 l = nI (ordS u D l 8).1) (e15 : gI w 15 = nI (ordS u D l 8).1) (row : ∀ j : Nat, j < (ordS u D l 8).1 → gA w 15 j = nI ((ordS u D l 8).2 j)) (hk : ∀ y, WK v y → WOu u D (l + 1) y → (∀ l2 : Nat, l2 < l + 1 → gA y 21 l2 = 0) → TO P (k15 (nI (l + 1)) y)) : TO P (f_X10_findWhole_L40 k15 FU (nI l) (0 : Int32) w) := by
  have m8 := ord8 u D l
  refine loopR (fun F (x : Int32 × SS) => f_X10_findWhole_L40 k15 F (nI l) x.1 x.2) (fun i x => x.1 = nI i ∧ WK v x.2 ∧ (∀ j : Nat, gI x.2 j = gI w j) ∧ (∀ a : Nat, a ≠ 19 → gA x.2 a = gA w a) ∧ (∀ l2 j : Nat, l2 < l → j < 8 → gA x.2 19 (8 * l2 + j) = gA w 19 (8 * l2 + j)) ∧ ∀ j : Nat, j < i → gA x.2 19 (8 * l + j) = nI ((ordS u D l 8).2 j)) _ (ordS u D l 8).1 ?_ (F := FU) (x := ((0 : Int32), w)) (Nat.lt_trans (show (ordS u D l 8).1 < 1000 by omega) FU_ge) ⟨rfl, m, fun _ => rfl, fun _ _ => rfl, fun _ _ _ _ => rfl, fun j hj => absurd hj (Nat.not_lt_zero j)⟩
  intro F x i hi hI hc2
  obtain ⟨b2, y⟩ := x
  obtain ⟨e, my, f1, f2, f3, f4⟩ := hI
  have e : b2 = nI i := e
  have my : WK v y := my
  have f1 : ∀ j : Nat, gI y j = gI w j := f1
  have f2 : ∀ a : Nat, a ≠ 19 → gA y a = gA w a := f2
  have f3 : ∀ l2 j : Nat, l2 < l → j < 8 → gA y 19 (8 * l2 + j) = gA w 19 (8 * l2 + j) := f3
  have f4 : ∀ j : Nat, j < i → gA y 19 (8 * l + j) = nI ((ordS u D l 8).2 j) := f4
  subst e
  show TO _ (b_X10_findWhole_L40 k15 (f_X10_findWhole_L40 k15 F) (nI l) (nI i) y)
  unfold b_X10_findWhole_L40
  rw [f1 15, e15]
  by_cases c : i = (ordS u D l 8).1
  · rw [if_pos (nI_le (by omega) (by omega)), oi_nI (by decide) (show l < 6 by omega), lt_e, lt_e, nI_1]
    refine hk _ (WK_A (by unfold kMA; omega) my) (fun l2 h2 => ?_) (fun l2 h2 => ?_)
    · rw [tAn (show (20 : Nat) ≠ 21 by decide), tAn (show (19 : Nat) ≠ 21 by decide), f2 20 (by decide)]
      by_cases z : l2 = l
      · subst z; exact ⟨e20, fun j hj => f4 j (by omega)⟩
      · obtain ⟨o1, o2⟩ := o l2 (by omega)
        exact ⟨o1, fun j hj => by rw [f3 l2 j (by omega) (by have := ord8 u D l2; omega)]; exact o2 j hj⟩
    · rw [tAe, nI_clamp (by omega)]
      by_cases z : l2 = l
      · rw [z, upd_s]
      · rw [upd_n _ _ z, f2 21 (by decide)]; exact z0 l2 (by omega)
  · have hi2 : i < (ordS u D l 8).1 := by omega
    rw [if_neg (nI_ge hi2 (by omega)), cellM, oi_nI (by decide) (show i < 8 by omega), oi_nI (by decide) (show 8 * l + i < 48 by omega), lt_e, lt_e, nI_1, nI_clamp (show i < 2 ^ 31 by omega), f2 15 (by decide), row i hi2]
    refine hc2 (nI (i + 1), _) hi2 ⟨rfl, WK_A (by unfold kMA; omega) my, f1, fun a ha => ?_, fun l2 j h2 hj => ?_, fun j hj => ?_⟩
    · show gA (tA y 19 (nI (8 * l + i)) (nI ((ordS u D l 8).2 i))) a = _
      rw [tAn ha]; exact f2 a ha
    · show gA (tA y 19 (nI (8 * l + i)) (nI ((ordS u D l 8).2 i))) 19 (8 * l2 + j) = _
      rw [tAe, nI_clamp (by omega), upd_n _ _ (by omega)]; exact f3 l2 j h2 hj
    · show gA (tA y 19 (nI (8 * l + i)) (nI ((ordS u D l 8).2 i))) 19 (8 * l + j) = _
      rw [tAe, nI_clamp (by omega)]
      by_cases z : j = i
      · rw [z, upd_s]
      · rw [upd_n _ _ (by omega)]; exact f4 j (by omega)
theorem cvD_k {D : List Int32} (c : cvD u v D) (m : WK v w) : cvD u w D := by
  obtain ⟨c1, c2, c3, c4, c5, m0, hm0, e7, vD⟩ := c
  refine ⟨c1, c2, c3, c4, c5, m0, hm0, by rw [m.1.1 7 (by unfold kMI; omega)]; exact e7, ?_⟩
  rw [m.1.2 13 (by unfold kMA; omega)]; exact vD
/-- the reference finds the best anew -/
theorem fwV (h : RT k u v) (no : ¬ Opn u) {D : List Int32} (cd : cvD u v D) (z16 : gI v 16 = 0) : TO (fun y => WK v y ∧ FDm (TU u D) y) (f_X10_findWhole v) := by
  obtain ⟨⟨t, L, ht, hL1, hL6, e0, e0m, e2, e2m, e1, e1c⟩, -⟩ := id h
  have eT : wlo (TU u D) = L := by show nn (gI u 2) = L; rw [e2, nn_nI (by omega)]
  unfold f_X10_findWhole
  have g18 := h.2.2.2.2.2.2.2.2.2.2.2.2.2.1
  rw [if_pos z16, lt_e]
  have m0 : WK v (sI v 16 1) := ⟨⟨fun i hi => sIn (by unfold kMI at hi; omega), fun _ _ => rfl⟩, rfl, g18, sIe⟩
  refine loopR (fun F (x : Int32 × SS) => f_X10_findWhole_L15 F x.1 x.2) (fun i x => x.1 = nI i ∧ WK v x.2 ∧ WOu u D i x.2 ∧ ∀ l : Nat, l < i → gA x.2 21 l = 0) _ L ?_ (F := FU) (x := ((0 : Int32), sI v 16 1)) (Nat.lt_trans (show L < 1000 by omega) FU_ge) ⟨rfl, m0, fun l hl => absurd hl (Nat.not_lt_zero l), fun l hl => absurd hl (Nat.not_lt_zero l)⟩
  intro F x i hi hI hc2
  obtain ⟨b1, y⟩ := x
  obtain ⟨e, m, o, z0⟩ := hI
  have e : b1 = nI i := e
  have m : WK v y := m
  have o : WOu u D i y := o
  have z0 : ∀ l : Nat, l < i → gA y 21 l = 0 := z0
  subst e
  have l2 : gI y 2 = nI L := by rw [m.1.1 2 (by unfold kMI; omega)]; exact e2m
  show TO _ (b_X10_findWhole_L15 (f_X10_findWhole_L15 F) (nI i) y)
  unfold b_X10_findWhole_L15
  rw [l2]
  by_cases c : i = L
  · subst c
    rw [if_pos (nI_le (Nat.le_refl _) (by omega)), lt_e]
    exact fw91V (p0 := fun _ => 0) h no hL1 hL6 eT (WK_I (by unfold kMI; omega) m) o (fun l hl => z0 l hl) (fun _ _ => rfl) sIe e2m
  · have hi2 : i < L := by omega
    rw [if_neg (nI_ge hi2 (by omega))]
    have hy := RT_wk h no m
    refine to_v (foV hy (cvD_k cd m) (show i < 6 by omega)) (fun z hz => ?_)
    obtain ⟨ok, r15, rr⟩ := hz
    rw [oi_nI (by decide) (show i < 6 by omega), lt_e, r15]
    have mz : WK v z := WK_k m (OK_mk ok)
    have z19 : gA z 19 = gA y 19 := ok.2 19 (by unfold kPA; omega) (by decide)
    have z20 : gA z 20 = gA y 20 := ok.2 20 (by unfold kPA; omega) (by decide)
    have z21 : gA z 21 = gA y 21 := ok.2 21 (by unfold kPA; omega) (by decide)
    refine fw40V hi2 hL6 _ (WK_A (by unfold kMA; omega) mz) (fun l hl => ?_) (fun l hl => ?_) ?_ r15 (fun j hj => ?_) (fun q mq oq pq => hc2 (nI (i + 1), q) hi2 ⟨rfl, mq, oq, pq⟩)
    · rw [tAe, nI_clamp (by omega), upd_n _ _ (by omega), tAn (by decide), z19, z20]; exact o l hl
    · rw [tAn (by decide), z21]; exact z0 l hl
    · rw [tAe, nI_clamp (by omega), upd_s]
    · rw [tAn (by decide)]; exact rr j hj
end ST54
