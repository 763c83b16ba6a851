section ST52
variable {k n : Nat} {u v v2 w x y : SS}
/-! the reference's search -/
def gvI (q : Nat) : Int32 := if q = 8 then -9 else nI q
/-- the giving of picks -/
noncomputable def gP (u : SS) (D : List Int32) (L : Nat) (p : Nat → Nat) (l : Nat) : Nat := if l < L ∧ p l < (ordS u D l 8).1 then (ordS u D l 8).2 (p l) else 8
theorem gP_t {D : List Int32} {L l : Nat} {p : Nat → Nat} (h1 : l < L) (h2 : p l < (ordS u D l 8).1) : gP u D L p l = (ordS u D l 8).2 (p l) := if_pos ⟨h1, h2⟩
theorem gP_n {D : List Int32} {L l : Nat} {p : Nat → Nat} (h2 : (ordS u D l 8).1 ≤ p l) : gP u D L p l = 8 := if_neg (fun z => by omega)
theorem gP_L {D : List Int32} {L l : Nat} {p : Nat → Nat} (h2 : L ≤ l) : gP u D L p l = 8 := if_neg (fun z => by omega)
theorem gP_8 {D : List Int32} {L l : Nat} {p : Nat → Nat} : gP u D L p l ≤ 8 := by
  by_cases c : l < L ∧ p l < (ordS u D l 8).1
  · rw [gP_t c.1 c.2]
    have := ((ordS_m (u := u) (D := D) (l := l) 8).2 _ c.2).1
    omega
  · have : gP u D L p l = 8 := if_neg c
    omega
def WOu (u : SS) (D : List Int32) (m : Nat) (w : SS) : Prop := ∀ l : Nat, l < m → gA w 20 l = nI (ordS u D l 8).1 ∧ ∀ j : Nat, j < (ordS u D l 8).1 → gA w 19 (8 * l + j) = nI ((ordS u D l 8).2 j)
def BXp (u : SS) (D : List Int32) (L : Nat) (p : Nat → Nat) : Prop := ∀ l : Nat, l < L → p l ≤ (ordS u D l 8).1
def PKp (L : Nat) (p : Nat → Nat) (w : SS) : Prop := ∀ l : Nat, l < L → gA w 21 l = nI (p l)
theorem ord8 (u : SS) (D : List Int32) (l : Nat) : (ordS u D l 8).1 ≤ 8 := (ordS_m (u := u) (D := D) (l := l) 8).1
theorem ordB {D : List Int32} {l j : Nat} (h : j < (ordS u D l 8).1) : (ordS u D l 8).2 j < 8 := ((ordS_m (u := u) (D := D) (l := l) 8).2 j h).1
/-- nothing but the counts of who won -/
def OF (w y : SS) : Prop := (∀ i : Nat, gI y i = gI w i) ∧ ∀ a : Nat, a ≠ 22 → a ≠ 23 → gA y a = gA w a
theorem OF_mk (f : OF w y) : MK w y := ⟨⟨fun i _ => f.1 i, fun a ha => f.2 a (by unfold kMA at ha; omega) (by unfold kMA at ha; omega)⟩, f.2 18 (by decide) (by decide), f.2 24 (by decide) (by decide), f.1 16, f.1 17, f.1 18⟩
theorem OF_A {a : Nat} {i q : Int32} (ha : a = 22 ∨ a = 23) (f : OF w y) : OF w (tA y a i q) := ⟨f.1, fun b h1 h2 => by rw [tAn (by omega)]; exact f.2 b h1 h2⟩
/-- the best so far, of those in S -/
def BST (T : TD) (S : (Nat → Nat) → Prop) (w : SS) : Prop := (gI w 20 = -1 ∧ ∀ g : Nat → Nat, S g → ¬ wGv T g) ∨ ∃ g : Nat → Nat, wGv T g ∧ gI w 20 = nI (wlo T - wlf T g) ∧ gI w 21 = nI (wvl T g) ∧ gI w 19 = nI (wpl T g) ∧ (∀ l : Nat, l < wlo T → gA w 18 l = gvI (g l)) ∧ ∀ g2 : Nat → Nat, S g2 → wGv T g2 → wKK T g ≤ wKK T g2
theorem BST_f {T : TD} {S : (Nat → Nat) → Prop} (h : BST T S w) (e19 : gI y 19 = gI w 19) (e20 : gI y 20 = gI w 20) (e21 : gI y 21 = gI w 21) (a18 : gA y 18 = gA w 18) : BST T S y := by
  unfold BST
  rw [e19, e20, e21, a18]; exact h
theorem many_e {T : TD} {g : Nat → Nat} (hL : wlo T ≤ 6) (h8 : ∀ l : Nat, g l ≤ 8) : zs (fun l => if g l < 8 then 1 else 0) (wlo T) = wlo T - wlf T g := by
  have key : ∀ m : Nat, m ≤ wlo T → zs (fun l => if g l < 8 then 1 else 0) m + zs (fun l => if g l = 8 ∧ l < wlo T then 1 else 0) m = m := by
    intro m
    induction m with
    | zero => intro _; rfl
    | succ m ih =>
      intro hm
      have a := ih (by omega)
      show zs (fun l => if g l < 8 then 1 else 0) m + (if g m < 8 then 1 else 0) + (zs (fun l => if g l = 8 ∧ l < wlo T then 1 else 0) m + (if g m = 8 ∧ m < wlo T then 1 else 0)) = m + 1
      have b := h8 m
      by_cases c : g m < 8
      · rw [if_pos c, if_neg (show ¬ (g m = 8 ∧ m < wlo T) from fun z => by omega)]; omega
      · rw [if_neg c, if_pos (show g m = 8 ∧ m < wlo T from ⟨by omega, by omega⟩)]; omega
  have e := key (wlo T) (Nat.le_refl _)
  have e2 : wlf T g = zs (fun l => if g l = 8 ∧ l < wlo T then 1 else 0) (wlo T) := zs_6 hL (fun i h1 _ => if_neg (fun z => by omega))
  rw [e2]; omega
theorem le_m1 {a : Nat} (h : a < 2 ^ 31) : ¬ nI a ≤ (-1 : Int32) := fun z => absurd (Int32.le_trans (nI_pos' h) z) nl_m1
theorem gvI_c {q : Nat} (h : q ≤ 8) : (q = 8 ∧ gvI q = -9) ∨ (q < 8 ∧ gvI q = nI q) := by
  unfold gvI
  by_cases c : q = 8
  · exact Or.inl ⟨c, if_pos c⟩
  · exact Or.inr ⟨by omega, if_neg c⟩
theorem gvI_nob {q : Nat} (h : q ≤ 8) : nob (gvI q) := by
  rcases gvI_c h with ⟨-, e⟩ | ⟨h2, e⟩
  · exact Or.inl e
  · exact Or.inr ⟨q, by omega, e⟩
/-- who is picked for lot l -/
theorem ifV {D : List Int32} {L : Nat} {p : Nat → Nat} {T : TD} {g2 : Nat → Nat} (hL : L ≤ 6) (eT : wlo T = L) (o : WOu u D L w) (pk : PKp L p w) (bx : BXp u D L p) (e2 : gI w 2 = nI L) (hg : wGv T (gP u D L p)) (h2 : wGv T g2) (e18 : ∀ l : Nat, l < L → gA w 18 l = gvI (g2 l)) : ∃ q : Int32, f_X10_isFirst w = some (q, w) ∧ ((q = 1 ∧ wdd T (gP u D L p) < wdd T g2) ∨ (q = 0 ∧ ¬ wdd T (gP u D L p) < wdd T g2)) := by
  suffices key : TO (fun r : Int32 × SS => r.2 = w ∧ ((r.1 = 1 ∧ wdd T (gP u D L p) < wdd T g2) ∨ (r.1 = 0 ∧ ¬ wdd T (gP u D L p) < wdd T g2))) (f_X10_isFirst w) by
    obtain ⟨⟨q, y⟩, e, ey, hq⟩ := key
    have ey : y = w := ey
    subst ey
    exact ⟨q, e, hq⟩
  refine loopR (fun F (x : Int32 × SS) => f_X10_isFirst_L2 F x.1 x.2) (fun i x => x = (nI i, w) ∧ ∀ l : Nat, l < i → gP u D L p l = g2 l) _ L ?_ (F := FU) (x := ((0 : Int32), w)) (Nat.lt_trans (show L < 1000 by omega) FU_ge) ⟨rfl, fun l hl => absurd hl (Nat.not_lt_zero l)⟩
  intro F x i hi hI hc2
  obtain ⟨rfl, same⟩ := hI
  show TO _ (b_X10_isFirst_L2 (f_X10_isFirst_L2 F) (nI i) w)
  unfold b_X10_isFirst_L2 f_X10_isFirst_L46 f_X10_isFirst_L67
  rw [e2]
  by_cases c : i = L
  · subst c
    rw [if_pos (nI_le (Nat.le_refl _) (by omega))]
    refine to_s ⟨rfl, Or.inr ⟨rfl, fun z => ?_⟩⟩
    rw [wdd_q (g := gP u D i p) (g2 := g2) (fun l hl => same l (by omega))] at z
    exact absurd z (Nat.lt_irrefl _)
  have hi2 : i < L := by omega
  obtain ⟨o1, o2⟩ := o i hi2
  have m8 := ord8 u D i
  have b8 := bx i hi2
  have xd : ∀ g : Nat → Nat, ∀ l : Nat, l < L → wxd T g l = g l := fun g l hl => if_pos (by omega)
  have L67 : ∀ a b : Nat, a = gP u D L p i → b = g2 i → TO (fun r : Int32 × SS => r.2 = w ∧ ((r.1 = 1 ∧ wdd T (gP u D L p) < wdd T g2) ∨ (r.1 = 0 ∧ ¬ wdd T (gP u D L p) < wdd T g2))) (if nI a = nI b then (lt (nI i + (1 : Int32)) fun x1 => f_X10_isFirst_L2 F x1 w) else (if nI b ≤ nI a then (some ((0 : Int32), w)) else (some ((1 : Int32), w)))) := by
    intro a b ea eb
    have a8 : a ≤ 8 := by rw [ea]; exact gP_8
    have b88 : b ≤ 8 := by rw [eb]; exact wGv_8 h2 i (by omega)
    by_cases q : a = b
    · rw [q, if_pos rfl, lt_e, nI_1]
      refine hc2 (nI (i + 1), w) hi2 ⟨rfl, fun l hl => ?_⟩
      by_cases z : l = i
      · rw [z]; omega
      · exact same l (by omega)
    · rw [if_neg (fun z => q ((nI_eq (by omega) (by omega)).mp z))]
      by_cases r : b ≤ a
      · rw [if_pos (nI_le r (by omega))]
        refine to_s ⟨rfl, Or.inr ⟨rfl, fun z => ?_⟩⟩
        have := wdd_l (T := T) h2 hg (i := i) (by omega) (fun l hl => by rw [xd _ l (by omega), xd _ l (by omega), same l hl]) (by rw [xd _ i hi2, xd _ i hi2]; omega)
        omega
      · rw [if_neg (nI_ge (by omega) (by omega))]
        refine to_s ⟨rfl, Or.inl ⟨rfl, ?_⟩⟩
        exact wdd_l (T := T) hg h2 (i := i) (by omega) (fun l hl => by rw [xd _ l (by omega), xd _ l (by omega), same l hl]) (by rw [xd _ i hi2, xd _ i hi2]; omega)
  have L46 : ∀ a : Nat, a = gP u D L p i → TO (fun r : Int32 × SS => r.2 = w ∧ ((r.1 = 1 ∧ wdd T (gP u D L p) < wdd T g2) ∨ (r.1 = 0 ∧ ¬ wdd T (gP u D L p) < wdd T g2))) (oi (nI i) 6 (if 0 ≤ gA w 18 (nI i).toNatClampNeg then (oi (nI i) 6 (if nI a = gA w 18 (nI i).toNatClampNeg then (lt (nI i + (1 : Int32)) fun x1 => f_X10_isFirst_L2 F x1 w) else (if gA w 18 (nI i).toNatClampNeg ≤ nI a then (some ((0 : Int32), w)) else (some ((1 : Int32), w))))) else (if nI a = (8 : Int32) then (lt (nI i + (1 : Int32)) fun x1 => f_X10_isFirst_L2 F x1 w) else (if (8 : Int32) ≤ nI a then (some ((0 : Int32), w)) else (some ((1 : Int32), w)))))) := by
    intro a ea
    rw [oi_nI (by decide) (show i < 6 by omega), nI_clamp (show i < 2 ^ 31 by omega), e18 i hi2]
    rcases gvI_c (wGv_8 h2 i (by omega)) with ⟨h8, e⟩ | ⟨h8, e⟩
    · rw [e, if_neg nl_m9]
      exact L67 a 8 ea h8.symm
    · rw [e, if_pos (nI_pos' (by omega)), oi_nI (by decide) (show i < 6 by omega)]
      exact L67 a (g2 i) ea rfl
  rw [if_neg (nI_ge hi2 (by omega)), oi_nI (by decide) (show i < 6 by omega), oi_nI (by decide) (show i < 6 by omega), show gA w 20 (nI i).toNatClampNeg = nI (ordS u D i 8).1 by rw [nI_clamp (by omega)]; exact o1, show gA w 21 (nI i).toNatClampNeg = nI (p i) by rw [nI_clamp (by omega)]; exact pk i hi2]
  by_cases c1 : (ordS u D i 8).1 ≤ p i
  · rw [if_pos (nI_le c1 (by omega))]
    exact L46 8 (gP_n c1).symm
  · rw [if_neg (nI_ge (by omega) (by omega)), oi_nI (by decide) (show i < 6 by omega), cellM, oi_nI (by decide) (show 8 * i + p i < 48 by omega), nI_clamp (show 8 * i + p i < 2 ^ 31 by omega), o2 (p i) (by omega)]
    exact L46 _ (gP_t hi2 (by omega)).symm
/-- the giving is written down -/
theorem tp285V {D : List Int32} {L : Nat} {p : Nat → Nat} (hL : L ≤ 6) (o : WOu u D L w) (pk : PKp L p w) (bx : BXp u D L p) (e2 : gI w 2 = nI L) : TO (fun y => (∀ i : Nat, gI y i = gI w i) ∧ (∀ a : Nat, a ≠ 18 → gA y a = gA w a) ∧ (∀ l : Nat, l < L → gA y 18 l = gvI (gP u D L p l)) ∧ ∀ l : Nat, L ≤ l → gA y 18 l = gA w 18 l) (f_X10_tryPicks_L285 FU (0 : Int32) w) := by
  refine loopR (fun F (x : Int32 × SS) => f_X10_tryPicks_L285 F x.1 x.2) (fun i x => x.1 = nI i ∧ (∀ j : Nat, gI x.2 j = gI w j) ∧ (∀ a : Nat, a ≠ 18 → gA x.2 a = gA w a) ∧ (∀ l : Nat, l < i → gA x.2 18 l = gvI (gP u D L p l)) ∧ ∀ l : Nat, i ≤ l → gA x.2 18 l = gA w 18 l) _ L ?_ (F := FU) (x := ((0 : Int32), w)) (Nat.lt_trans (show L < 1000 by omega) FU_ge) ⟨rfl, fun _ => rfl, fun _ _ => rfl, fun l hl => absurd hl (Nat.not_lt_zero l), fun _ _ => rfl⟩
  intro F x i hi hI hc2
  obtain ⟨b5, y⟩ := x
  obtain ⟨e, f1, f2, f3, f4⟩ := hI
  have e : b5 = nI i := e
  have f1 : ∀ j : Nat, gI y j = gI w j := f1
  have f2 : ∀ a : Nat, a ≠ 18 → gA y a = gA w a := f2
  have f3 : ∀ l : Nat, l < i → gA y 18 l = gvI (gP u D L p l) := f3
  have f4 : ∀ l : Nat, i ≤ l → gA y 18 l = gA w 18 l := f4
  subst e
  show TO _ (b_X10_tryPicks_L285 (f_X10_tryPicks_L285 F) (nI i) y)
  unfold b_X10_tryPicks_L285 f_X10_tryPicks_L340
  rw [f1 2, e2]
  by_cases c : i = L
  · subst c
    rw [if_pos (nI_le (Nat.le_refl _) (by omega))]; exact to_s ⟨f1, f2, f3, f4⟩
  have hi2 : i < L := by omega
  obtain ⟨o1, o2⟩ := o i hi2
  have m8 := ord8 u D i
  have b8 := bx i hi2
  have st : ∀ q : Int32, q = gvI (gP u D L p i) → TO (fun y => (∀ i : Nat, gI y i = gI w i) ∧ (∀ a : Nat, a ≠ 18 → gA y a = gA w a) ∧ (∀ l : Nat, l < L → gA y 18 l = gvI (gP u D L p l)) ∧ ∀ l : Nat, L ≤ l → gA y 18 l = gA w 18 l) (oi (nI i) 6 (lt (tA y 18 (nI i) q) fun u7 => lt (nI i + (1 : Int32)) fun x8 => f_X10_tryPicks_L285 F x8 u7)) := by
    intro q eq
    rw [oi_nI (by decide) (show i < 6 by omega), lt_e, lt_e, nI_1]
    refine hc2 (nI (i + 1), _) hi2 ⟨rfl, f1, fun a ha => by show gA (tA y 18 (nI i) q) a = _; rw [tAn ha]; exact f2 a ha, fun l hl => ?_, fun l hl => ?_⟩
    · show gA (tA y 18 (nI i) q) 18 l = _
      rw [tAe, nI_clamp (by omega)]
      by_cases z : l = i
      · rw [z, upd_s]; exact eq
      · rw [upd_n _ _ z]; exact f3 l (by omega)
    · show gA (tA y 18 (nI i) q) 18 l = _
      rw [tAe, nI_clamp (by omega), upd_n _ _ (by omega)]; exact f4 l (by omega)
  rw [if_neg (nI_ge hi2 (by omega)), oi_nI (by decide) (show i < 6 by omega), oi_nI (by decide) (show i < 6 by omega), nI_clamp (show i < 2 ^ 31 by omega), f2 20 (by decide), f2 21 (by decide), f2 19 (by decide), o1, pk i hi2]
  by_cases c1 : (ordS u D i 8).1 ≤ p i
  · rw [if_pos (nI_le c1 (by omega))]
    exact st _ (by rw [gP_n c1]; rfl)
  · rw [if_neg (nI_ge (by omega) (by omega)), oi_nI (by decide) (show i < 6 by omega), cellM, oi_nI (by decide) (show 8 * i + p i < 48 by omega), nI_clamp (show 8 * i + p i < 2 ^ 31 by omega), o2 (p i) (by omega)]
    refine st _ ?_
    rw [gP_t hi2 (by omega)]
    have := ordB (u := u) (D := D) (l := i) (show p i < (ordS u D i 8).1 by omega)
    unfold gvI
    rw [if_neg (by omega)]
/-- what stays while picks are tried -/
def TF (v w y : SS) : Prop := WK v y ∧ gA y 19 = gA w 19 ∧ gA y 20 = gA w 20 ∧ gA y 21 = gA w 21
theorem tp260V {D : List Int32} {L : Nat} {p : Nat → Nat} {T : TD} {S : (Nat → Nat) → Prop} {b1 b2 b3 q0 : Int32} (hL : L ≤ 6) (eT : wlo T = L) (m : WK v w) (o : WOu u D L w) (pk : PKp L p w) (bx : BXp u D L p) (e2 : gI w 2 = nI L) (hg : wGv T (gP u D L p)) (e1 : b1 = nI (wlo T - wlf T (gP u D L p))) (ep : b2 = nI (wpl T (gP u D L p))) (ev : b3 = nI (wvl T (gP u D L p))) (hb : BST T S w) (hq : (q0 = 0 ∧ ∃ g : Nat → Nat, wGv T g ∧ gI w 20 = nI (wlo T - wlf T g) ∧ gI w 21 = nI (wvl T g) ∧ gI w 19 = nI (wpl T g) ∧ (∀ l : Nat, l < wlo T → gA w 18 l = gvI (g l)) ∧ (∀ g2 : Nat → Nat, S g2 → wGv T g2 → wKK T g ≤ wKK T g2) ∧ wKK T g ≤ wKK T (gP u D L p)) ∨ (q0 = 1 ∧ ∀ g2 : Nat → Nat, S g2 → wGv T g2 → wKK T (gP u D L p) ≤ wKK T g2)) : TO (fun y => TF v w y ∧ BST T (fun g => S g ∨ g = gP u D L p) y) (f_X10_tryPicks_L260 b1 b2 b3 q0 w) := by
  unfold f_X10_tryPicks_L260
  rcases hq with ⟨rfl, g, g1, g2, g3, g4, g5, g6, g7⟩ | ⟨rfl, gm⟩
  · rw [if_pos rfl]
    refine to_s ⟨⟨m, rfl, rfl, rfl⟩, Or.inr ⟨g, g1, g2, g3, g4, g5, fun q hq wq => ?_⟩⟩
    rcases hq with hq | hq
    · exact g6 q hq wq
    · rw [hq]; exact g7
  · rw [if_neg nz_1, lt_e, lt_e, lt_e]
    have mz : WK v (sI (sI (sI w 20 b1) 21 b3) 19 b2) := WK_I (by unfold kMI; omega) (WK_I (by unfold kMI; omega) (WK_I (by unfold kMI; omega) m))
    refine to_w (tp285V (w := sI (sI (sI w 20 b1) 21 b3) 19 b2) hL o pk bx (by rw [sIn (by decide), sIn (by decide), sIn (by decide)]; exact e2)) (fun y hy => ?_)
    obtain ⟨y1, y2, y3, y4⟩ := hy
    refine ⟨⟨⟨⟨fun i hi => (y1 i).trans (mz.1.1 i hi), fun a ha => (y2 a (by unfold kMA at ha; omega)).trans (mz.1.2 a ha)⟩, (y2 24 (by decide)).trans mz.2.1, fun l hl => ?_, (y1 16).trans mz.2.2.2⟩, y2 19 (by decide), y2 20 (by decide), y2 21 (by decide)⟩, Or.inr ⟨gP u D L p, hg, ?_, ?_, ?_, fun l hl => y3 l (by omega), fun q hq wq => ?_⟩⟩
    · rcases Nat.lt_or_ge l L with z | z
      · rw [y3 l z]; exact gvI_nob gP_8
      · rw [y4 l z]; exact mz.2.2.1 l hl
    · rw [y1 20, sIn (by decide), sIn (by decide), sIe]; exact e1
    · rw [y1 21, sIn (by decide), sIe]; exact ev
    · rw [y1 19, sIe]; exact ep
    · rcases hq with hq | hq
      · exact gm q hq wq
      · rw [hq]; exact Nat.le_refl _
end ST52
