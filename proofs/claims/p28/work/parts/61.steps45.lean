section ST45
variable {k n : Nat} {u v v2 w x y : SS}
/-! the order: both insert the same bidders in the same way -/
def updN (R : Nat → Nat) (p x : Nat) : Nat → Nat := fun j => if j = p then x else R j
theorem updN_s {R : Nat → Nat} {p x : Nat} : updN R p x p = x := if_pos rfl
theorem updN_n {R : Nat → Nat} {p x j : Nat} (h : j ≠ p) : updN R p x j = R j := if_neg h
noncomputable def insR (A : Nat → Nat → Prop) (b : Nat) : Nat → (Nat → Nat) → Nat → Nat
  | 0, R => updN R 0 b
  | p + 1, R => by
      classical
      exact if A b (R p) then insR A b p (updN R (p + 1) (R p)) else updN R (p + 1) b
theorem insR_t {A : Nat → Nat → Prop} {b p : Nat} {R : Nat → Nat} (h : A b (R p)) : insR A b (p + 1) R = insR A b p (updN R (p + 1) (R p)) := if_pos h
theorem insR_f {A : Nat → Nat → Prop} {b p : Nat} {R : Nat → Nat} (h : ¬ A b (R p)) : insR A b (p + 1) R = updN R (p + 1) b := if_neg h
theorem insR_m {A : Nat → Nat → Prop} {b n : Nat} {Q : Nat → Prop} (hb : Q b) : ∀ (p : Nat) (R : Nat → Nat), p ≤ n → (∀ j : Nat, j ≤ n → j ≠ p → Q (R j)) → ∀ j : Nat, j ≤ n → Q (insR A b p R j) := by
  intro p
  induction p with
  | zero =>
    intro R hp hR j hj
    show Q (updN R 0 b j)
    by_cases z : j = 0
    · rw [z, updN_s]; exact hb
    · rw [updN_n z]; exact hR j hj z
  | succ p ih =>
    intro R hp hR j hj
    by_cases c : A b (R p)
    · rw [insR_t c]
      refine ih _ (by omega) (fun i hi hne => ?_) j hj
      by_cases z : i = p + 1
      · rw [z, updN_s]; exact hR p (by omega) (by omega)
      · rw [updN_n z]; exact hR i hi z
    · rw [insR_f c]
      by_cases z : j = p + 1
      · rw [z, updN_s]; exact hb
      · rw [updN_n z]; exact hR j hj z
/-! the class -/
/-- only the ranking is written -/
def KR (w y : SS) : Prop := (∀ i : Nat, i ≠ 10 → gI y i = gI w i) ∧ (∀ a : Nat, a ≠ 19 → gA y a = gA w a) ∧ (∀ i : Nat, gJ y i = gJ w i) ∧ ∀ i : Nat, gL y i = gL w i
theorem KR_I {q : Int32} (h : KR w y) : KR w (sI y 10 q) := ⟨fun j a => by rw [sIn a]; exact h.1 j a, h.2⟩
theorem KR_A {i q : Int32} (h : KR w y) : KR w (tA y 19 i q) := ⟨h.1, fun b hb => by rw [tAn hb]; exact h.2.1 b hb, h.2.2⟩
/-- bidder q is worked and laid out -/
def okC (u : SS) (D : List Int32) (l : Nat) (a : Int32) (w : SS) (q : Nat) : Prop := q < 8 ∧ WKd u D l a q w ∧ gA w 17 q = nI (prN u (q * 6 + l))
theorem okC_k {D : List Int32} {l q : Nat} {a : Int32} (h : KR w y) (o : okC u D l a w q) : okC u D l a y q := by
  unfold okC WKd
  rw [h.2.1 17 (by decide), h.2.2.2 2, h.2.2.2 3]; exact o
theorem isV (h : RT k u v) {D : List Int32} {b n l : Nat} (hl : l < 6) (a : Int32) (hn : n < 8) (hq : QLT u l a 8 w) (ob0 : okC u D l a w b) (e10 : gI w 10 = nI n) {R : Nat → Nat} (hR : ∀ j : Nat, j < n → okC u D l a w (R j)) (row : ∀ j : Nat, j < n → gA w 19 j = nI (R j)) : TO (fun y => KR w y ∧ gI y 10 = nI (n + 1) ∧ ∀ j : Nat, j ≤ n → gA y 19 j = nI (insR (AH u D l a) b n R j)) (f_X7_insert (nI b) w) := by
  unfold f_X7_insert
  rw [e10, lt_e, lt_e, nI_1]
  refine loopG (fun F (x : Int32 × SS) => f_X7_insert_L15 F (nI b) x.1 x.2) (fun i x => x.1 = nI (n - i) ∧ KR w x.2 ∧ gI x.2 10 = nI (n + 1) ∧ ∃ R2 : Nat → Nat, (∀ j : Nat, j ≤ n → j ≠ n - i → gA x.2 19 j = nI (R2 j)) ∧ (∀ j : Nat, j < n - i → okC u D l a w (R2 j)) ∧ insR (AH u D l a) b (n - i) R2 = insR (AH u D l a) b n R) _ n ?_ n 0 FU (nI n, sI w 10 (nI (n + 1))) (by omega) (Nat.lt_trans (show n < 1000 by omega) FU_ge) ⟨rfl, KR_I ⟨fun _ _ => rfl, fun _ _ => rfl, fun _ => rfl, fun _ => rfl⟩, sIe, R, fun j h1 h2 => row j (by omega), fun j hj => hR j (by omega), rfl⟩
  intro F x i hi hI hc2
  obtain ⟨b2, y⟩ := x
  obtain ⟨e, f, e10, R2, rr, ok, er⟩ := hI
  have e : b2 = nI (n - i) := e
  have f : KR w y := f
  have e10 : gI y 10 = nI (n + 1) := e10
  have rr : ∀ j : Nat, j ≤ n → j ≠ n - i → gA y 19 j = nI (R2 j) := rr
  subst e
  show TO _ (b_X7_insert_L15 (f_X7_insert_L15 F) (nI b) (nI (n - i)) y)
  unfold b_X7_insert_L15
  have put : insR (AH u D l a) b (n - i) R2 = updN R2 (n - i) b → TO (fun y => KR w y ∧ gI y 10 = nI (n + 1) ∧ ∀ j : Nat, j ≤ n → gA y 19 j = nI (insR (AH u D l a) b n R j)) (oi (nI (n - i)) 8 (lt (tA y 19 (nI (n - i)) (nI b)) fun u3 => some u3)) := by
    intro ep
    refine to_i (by decide) ⟨n - i, by omega, rfl⟩ (to_l (to_s ⟨KR_A f, e10, fun j hj => ?_⟩))
    rw [tAe, nI_clamp (by omega), ← er, ep]
    by_cases q : j = n - i
    · rw [q, upd_s, updN_s]
    · rw [upd_n _ _ q, updN_n q]; exact rr j hj q
  by_cases c0 : n - i = 0
  · rw [if_pos (show nI (n - i) ≤ (0 : Int32) by rw [c0]; decide)]
    exact put (by rw [c0]; rfl)
  obtain ⟨p, hp⟩ : ∃ p : Nat, n - i = p + 1 := ⟨n - i - 1, by omega⟩
  rw [hp] at put er rr ok ⊢
  rw [if_neg (show ¬ nI (p + 1) ≤ (0 : Int32) from nI_ge (b := p + 1) (a := 0) (by omega) (by omega))]
  have e1 : nI (p + 1) - (1 : Int32) = nI p := nI_pred p
  have e2 : nI (p + 1) + (-1 : Int32) = nI p := pk_m1 p
  have cp : (nI p).toNatClampNeg = p := nI_clamp (by omega)
  have ep : gA y 19 p = nI (R2 p) := rr p (by omega) (by omega)
  have okp := ok p (by omega)
  rw [e1, oi_nI (by decide) (show p < 8 by omega), cp, ep]
  have qy : QLT u l a 8 y := fun j hj => by rw [f.2.2.2 0, f.2.2.2 1]; exact hq j hj
  have o1 : okC u D l a y b := okC_k f ob0
  have o2 : okC u D l a y (R2 p) := okC_k f okp
  rcases iaC h o1.1 o2.1 hl a o1.2.1 o2.2.1 qy o1.2.2 o2.2.2 with ⟨ah, ea⟩ | ⟨ah, ea⟩
  · rw [ea, ob_s, if_neg nz_1, oi_nI (by decide) (show p < 8 by omega), oi_nI (by decide) (show p + 1 < 8 by omega), ep, lt_e, e2, lt_e]
    refine hc2 (nI p, _) (by omega) ⟨?_, KR_A f, e10, updN R2 (p + 1) (R2 p), fun j h1 h2 => ?_, fun j hj => ?_, ?_⟩
    · show nI p = nI (n - (i + 1))
      rw [show n - (i + 1) = p by omega]
    · show gA (tA y 19 (nI (p + 1)) (nI (R2 p))) 19 j = _
      rw [tAe, nI_clamp (by omega)]
      by_cases q : j = p + 1
      · rw [q, upd_s, updN_s]
      · rw [upd_n _ _ q, updN_n q]; exact rr j h1 q
    · rw [updN_n (by omega)]; exact ok j (by omega)
    · rw [show n - (i + 1) = p by omega, ← insR_t ah]; exact er
  · rw [ea, ob_s, if_pos rfl]
    exact put (insR_f ah)
/-- the order so far -/
noncomputable def ordS (u : SS) (D : List Int32) (l : Nat) : Nat → Nat × (Nat → Nat)
  | 0 => (0, fun _ => 0)
  | i + 1 => by
      classical
      exact if INC u l (-1) i ∧ evl (NM u l (-1) i) D = some [PV u D l (-1) i] then ((ordS u D l i).1 + 1, insR (AH u D l (-1)) i (ordS u D l i).1 (ordS u D l i).2) else ordS u D l i
theorem ordS_t {D : List Int32} {l i : Nat} (h : INC u l (-1) i ∧ evl (NM u l (-1) i) D = some [PV u D l (-1) i]) : ordS u D l (i + 1) = ((ordS u D l i).1 + 1, insR (AH u D l (-1)) i (ordS u D l i).1 (ordS u D l i).2) := if_pos h
theorem ordS_f {D : List Int32} {l i : Nat} (h : ¬ (INC u l (-1) i ∧ evl (NM u l (-1) i) D = some [PV u D l (-1) i])) : ordS u D l (i + 1) = ordS u D l i := if_neg h
theorem ordS_m {D : List Int32} {l : Nat} : ∀ i : Nat, (ordS u D l i).1 ≤ i ∧ ∀ j : Nat, j < (ordS u D l i).1 → (ordS u D l i).2 j < i ∧ INC u l (-1) ((ordS u D l i).2 j) ∧ evl (NM u l (-1) ((ordS u D l i).2 j)) D = some [PV u D l (-1) ((ordS u D l i).2 j)] := by
  intro i
  induction i with
  | zero => exact ⟨Nat.le_refl 0, fun j hj => absurd hj (Nat.not_lt_zero j)⟩
  | succ i ih =>
    obtain ⟨i1, i2⟩ := ih
    by_cases c : INC u l (-1) i ∧ evl (NM u l (-1) i) D = some [PV u D l (-1) i]
    · rw [ordS_t c]
      refine ⟨by show (ordS u D l i).1 + 1 ≤ i + 1; omega, fun j hj => ?_⟩
      have hj : j < (ordS u D l i).1 + 1 := hj
      show insR (AH u D l (-1)) i (ordS u D l i).1 (ordS u D l i).2 j < i + 1 ∧ INC u l (-1) (insR (AH u D l (-1)) i (ordS u D l i).1 (ordS u D l i).2 j) ∧ evl (NM u l (-1) (insR (AH u D l (-1)) i (ordS u D l i).1 (ordS u D l i).2 j)) D = some [PV u D l (-1) (insR (AH u D l (-1)) i (ordS u D l i).1 (ordS u D l i).2 j)]
      refine insR_m (Q := fun q => q < i + 1 ∧ INC u l (-1) q ∧ evl (NM u l (-1) q) D = some [PV u D l (-1) q]) ⟨by omega, c⟩ (ordS u D l i).1 (ordS u D l i).2 (Nat.le_refl _) (fun j h1 h2 => ?_) j (by omega)
      have q := i2 j (by omega)
      exact ⟨by omega, q.2⟩
    · rw [ordS_f c]
      exact ⟨by omega, fun j hj => ⟨by have := (i2 j hj).1; omega, (i2 j hj).2⟩⟩
/-- what ranking leaves -/
def KRW (w y : SS) : Prop := (∀ i : Nat, i ≠ 10 → i ≠ 11 → i ≠ 25 → gI y i = gI w i) ∧ (∀ a : Nat, a ≠ 18 → a ≠ 19 → gA y a = gA w a) ∧ (∀ i : Nat, i ≠ 6 → i ≠ 7 → gJ y i = gJ w i) ∧ ∀ i : Nat, i ≠ 2 → i ≠ 3 → i ≠ 4 → i ≠ 5 → gL y i = gL w i
theorem KRW_d {b : Nat} {z : SS} (h : KRW w y) (d : KD b y z) : KRW w z := ⟨fun i a b c => (d.1 i b c).trans (h.1 i a b c), fun i a b => (d.2.1 i a).trans (h.2.1 i a b), fun i a b => (d.2.2.2.1 i a b).trans (h.2.2.1 i a b), fun i a b c e => (d.2.2.2.2 i a b c e).trans (h.2.2.2 i a b c e)⟩
theorem KRW_r {z : SS} (h : KRW w y) (d : KR y z) : KRW w z := ⟨fun i a b c => (d.1 i a).trans (h.1 i a b c), fun i a b => (d.2.1 i b).trans (h.2.1 i a b), fun i a b => (d.2.2.1 i).trans (h.2.2.1 i a b), fun i a b c e => (d.2.2.2 i).trans (h.2.2.2 i a b c e)⟩
theorem HN_w {N : Nat → Fq} {b : Nat} (h : KRW w y) (hN : HN N b w) : HN N b y := by
  obtain ⟨h1, h2, h3, h4⟩ := h
  unfold HN
  rw [h2 17 (by decide) (by decide), h3 0 (by decide) (by decide), h3 1 (by decide) (by decide), h3 2 (by decide) (by decide), h3 3 (by decide) (by decide), h3 4 (by decide) (by decide), h3 5 (by decide) (by decide), h4 0 (by decide) (by decide) (by decide) (by decide), h4 1 (by decide) (by decide) (by decide) (by decide), h1 12 (by decide) (by decide) (by decide)]
  exact hN
theorem rkV (h : RT k u v) {D : List Int32} (cd : cvD u v D) {l : Nat} (hl : l < 6) (lv : LV u l (-1) w) : TO (fun y => KRW w y ∧ gI y 10 = nI (ordS u D l 8).1 ∧ ∀ j : Nat, j < (ordS u D l 8).1 → gA y 19 j = nI ((ordS u D l 8).2 j)) (f_X7_rank w) := by
  unfold f_X7_rank
  refine to_l ?_
  refine loopR (fun F (x : Int32 × SS) => f_X7_rank_L7 F x.1 x.2) (fun i x => x.1 = nI i ∧ KRW w x.2 ∧ gI x.2 10 = nI (ordS u D l i).1 ∧ (∀ j : Nat, j < (ordS u D l i).1 → gA x.2 19 j = nI ((ordS u D l i).2 j)) ∧ ∀ b : Nat, b < i → INC u l (-1) b ∧ evl (NM u l (-1) b) D = some [PV u D l (-1) b] → WKd u D l (-1) b x.2) _ 8 ?_ (F := FU) (x := ((0 : Int32), sI w 10 0)) (Nat.lt_trans (by decide) FU_ge) ⟨rfl, ⟨fun i a _ _ => sIn a, fun _ _ _ => rfl, fun _ _ _ => rfl, fun _ _ _ _ _ => rfl⟩, sIe, fun j hj => absurd hj (Nat.not_lt_zero j), fun b hb => absurd hb (by omega)⟩
  intro F x i hi hI hc2
  obtain ⟨b3, y⟩ := x
  obtain ⟨e, f, e10, row, wk⟩ := hI
  have e : b3 = nI i := e
  have f : KRW w y := f
  have e10 : gI y 10 = nI (ordS u D l i).1 := e10
  have row : ∀ j : Nat, j < (ordS u D l i).1 → gA y 19 j = nI ((ordS u D l i).2 j) := row
  have wk : ∀ b : Nat, b < i → INC u l (-1) b ∧ evl (NM u l (-1) b) D = some [PV u D l (-1) b] → WKd u D l (-1) b y := wk
  subst e
  show TO _ (b_X7_rank_L7 (f_X7_rank_L7 F) (nI i) y)
  unfold b_X7_rank_L7 f_X7_rank_L42
  by_cases c8 : i = 8
  · subst c8
    rw [if_pos (show (8 : Int32) ≤ nI 8 by decide)]; exact to_s ⟨f, e10, row⟩
  have hi2 : i < 8 := by omega
  obtain ⟨lf, li, lp, lq, lsv⟩ := lv
  obtain ⟨om1, om2⟩ := ordS_m (u := u) (D := D) (l := l) i
  rw [if_neg (show ¬ (8 : Int32) ≤ nI i from nI_ge (b := 8) hi2 (by decide)), oi_nI (by decide) hi2, nI_clamp (show i < 2 ^ 31 by omega), f.2.1 16 (by decide) (by decide)]
  by_cases ic : INC u l (-1) i
  rotate_left
  · rw [(li i hi2).2 ic, if_pos rfl, lt_e, nI_1]
    refine hc2 (nI (i + 1), y) hi2 ?_
    rw [ordS_f (fun z => ic z.1)]
    refine ⟨rfl, f, e10, row, fun b hb hc => wk b ?_ hc⟩
    by_cases z : b = i
    · rw [z] at hc; exact absurd hc.1 ic
    · omega
  rw [(li i hi2).1 ic, if_neg nz_1]
  obtain ⟨c1, c2, c3, c4, c5, -⟩ := cd
  have hN := HN_w f (LV_HN h hi2 hl ic ⟨lf, li, lp, lq, lsv⟩)
  obtain ⟨z, ez, kd, hz⟩ := woV (N := NM u l (-1) i) (D := D) (w := y) hi2 hN c1 (by rw [f.1 4 (by decide) (by decide) (by decide), lf.1 4 (by decide) (by decide) (by decide)]; exact c2) (fun j hj => by rw [f.2.1 13 (by decide) (by decide), lf.2 13 (by decide) (by decide) (by decide) (by decide)]; exact c3 j hj) c4 c5
  have fz : KRW w z := KRW_d f kd
  have z10 : gI z 10 = nI (ordS u D l i).1 := by rw [kd.1 10 (by decide) (by decide)]; exact e10
  have zrow : ∀ j : Nat, j < (ordS u D l i).1 → gA z 19 j = nI ((ordS u D l i).2 j) := fun j hj => by rw [kd.2.1 19 (by decide)]; exact row j hj
  have zwk : ∀ b : Nat, b < i → INC u l (-1) b ∧ evl (NM u l (-1) b) D = some [PV u D l (-1) b] → WKd u D l (-1) b z := by
    intro b hb hc
    obtain ⟨-, d2, d3⟩ := kd.2.2.1 b (by omega)
    unfold WKd
    rw [d2, d3]; exact wk b hb hc
  rw [ez, ov_s, oi_nI (by decide) hi2]
  rcases hz with ⟨g, eg, bg, z18, z2, z3⟩ | ⟨en, z18⟩
  rotate_left
  · rw [z18, if_neg nz_1, lt_e, nI_1]
    have nc : ¬ (INC u l (-1) i ∧ evl (NM u l (-1) i) D = some [PV u D l (-1) i]) := fun q => by
      have := q.2.symm.trans en
      cases this
    refine hc2 (nI (i + 1), z) hi2 ?_
    rw [ordS_f nc]
    refine ⟨rfl, fz, z10, zrow, fun b hb hc => zwk b ?_ hc⟩
    by_cases q : b = i
    · rw [q] at hc; exact absurd hc nc
    · omega
  have ep : PV u D l (-1) i = g := PV_e eg
  have yc : INC u l (-1) i ∧ evl (NM u l (-1) i) D = some [PV u D l (-1) i] := ⟨ic, by rw [ep]; exact eg⟩
  have wi : WKd u D l (-1) i z := by
    unfold WKd
    rw [ep]; exact ⟨z2, z3, bg⟩
  have pr : ∀ b : Nat, b < 8 → INC u l (-1) b → gA z 17 b = nI (prN u (b * 6 + l)) := fun b hb ib => by rw [fz.2.1 17 (by decide) (by decide)]; exact lp b hb ib
  have qz : QLT u l (-1) 8 z := fun j hj => by rw [fz.2.2.2 0 (by decide) (by decide) (by decide) (by decide), fz.2.2.2 1 (by decide) (by decide) (by decide) (by decide)]; exact lq j hj
  rw [z18, if_pos rfl]
  refine to_v (isV h hl (-1) (show (ordS u D l i).1 < 8 by omega) qz ⟨hi2, wi, pr i hi2 ic⟩ z10 (R := (ordS u D l i).2) (fun j hj => ?_) zrow) (fun q hq => ?_)
  · obtain ⟨o1, o2⟩ := om2 j hj
    exact ⟨by omega, zwk _ o1 o2, pr _ (by omega) o2.1⟩
  · obtain ⟨kr, q10, qrow⟩ := hq
    rw [lt_e, nI_1]
    refine hc2 (nI (i + 1), q) hi2 ?_
    rw [ordS_t yc]
    refine ⟨rfl, KRW_r fz kr, q10, fun j hj => qrow j ?_, fun b hb hc => ?_⟩
    · have hj : j < (ordS u D l i).1 + 1 := hj
      omega
    · show WKd u D l (-1) b q
      unfold WKd
      rw [kr.2.2.2 2, kr.2.2.2 3]
      by_cases z : b = i
      · rw [z]; exact wi
      · exact zwk b (by omega) hc
/-! the reference -/
theorem fo44V (h : RT k u v) {D : List Int32} (cd : cvD u v D) {l b n : Nat} (hl : l < 6) (hb : b < 8) (hn : n < 8) {P : SS → Prop} (k7 : Int32 → Int32 → SS → Option SS) (yc : INC u l (-1) b ∧ evl (NM u l (-1) b) D = some [PV u D l (-1) b]) {R : Nat → Nat} (hR : ∀ j : Nat, j < n → R j < 8 ∧ INC u l (-1) (R j) ∧ evl (NM u l (-1) (R j)) D = some [PV u D l (-1) (R j)]) (hk : ∀ y, OK v y → gI y 15 = nI (n + 1) → (∀ j : Nat, j ≤ n → gA y 15 j = nI (insR (AH u D l (-1)) b n R j)) → TO P (k7 (nI l) (nI (b + 1)) y)) (m : OK v w) (e15 : gI w 15 = nI n) (row : ∀ j : Nat, j < n → gA w 15 j = nI (R j)) : TO P (f_X10_findOrder_L44 k7 FU (nI l) (nI b) (nI (8 * l + b)) (nI n) w) := by
  refine loopG (fun F (x : Int32 × SS) => f_X10_findOrder_L44 k7 F (nI l) (nI b) (nI (8 * l + b)) x.1 x.2) (fun i x => x.1 = nI (n - i) ∧ OK v x.2 ∧ gI x.2 15 = nI n ∧ ∃ R2 : Nat → Nat, (∀ j : Nat, j ≤ n → j ≠ n - i → gA x.2 15 j = nI (R2 j)) ∧ (∀ j : Nat, j < n - i → R2 j < 8 ∧ INC u l (-1) (R2 j) ∧ evl (NM u l (-1) (R2 j)) D = some [PV u D l (-1) (R2 j)]) ∧ insR (AH u D l (-1)) b (n - i) R2 = insR (AH u D l (-1)) b n R) _ n ?_ n 0 FU (nI n, w) (by omega) (Nat.lt_trans (show n < 1000 by omega) FU_ge) ⟨rfl, m, e15, R, fun j h1 h2 => row j (by omega), fun j hj => hR j (by omega), rfl⟩
  intro F x i hi hI hc2
  obtain ⟨b4, y⟩ := x
  obtain ⟨e, f, e15, R2, rr, ok, er⟩ := hI
  have e : b4 = nI (n - i) := e
  have f : OK v y := f
  have e15 : gI y 15 = nI n := e15
  have rr : ∀ j : Nat, j ≤ n → j ≠ n - i → gA y 15 j = nI (R2 j) := rr
  subst e
  show TO _ (b_X10_findOrder_L44 k7 (f_X10_findOrder_L44 k7 F) (nI l) (nI b) (nI (8 * l + b)) (nI (n - i)) y)
  unfold b_X10_findOrder_L44
  have put : ∀ z : SS, OK v z → gI z 15 = nI n → gA z 15 = gA y 15 → insR (AH u D l (-1)) b (n - i) R2 = updN R2 (n - i) b → TO P (f_X10_findOrder_L94 k7 (nI l) (nI b) (nI (n - i)) z) := by
    intro z fz ez az ep
    unfold f_X10_findOrder_L94 f_X10_findOrder_L112
    refine to_i (by decide) ⟨n - i, by omega, rfl⟩ (to_l ?_)
    rw [gI_tA, ez, nI_1, lt_e, lt_e, nI_1]
    refine hk _ (OK_I (OK_A fz)) sIe (fun j hj => ?_)
    rw [gA_sI, tAe, nI_clamp (by omega), ← er, ep]
    by_cases q : j = n - i
    · rw [q, upd_s, updN_s]
    · rw [upd_n _ _ q, updN_n q, az]; exact rr j hj q
  by_cases c0 : n - i = 0
  · rw [if_pos (show nI (n - i) ≤ (0 : Int32) by rw [c0]; decide)]
    exact put y f e15 rfl (by rw [c0]; rfl)
  obtain ⟨p, hp⟩ : ∃ p : Nat, n - i = p + 1 := ⟨n - i - 1, by omega⟩
  rw [hp] at put er rr ok ⊢
  rw [if_neg (show ¬ nI (p + 1) ≤ (0 : Int32) from nI_ge (b := p + 1) (a := 0) (by omega) (by omega))]
  have e1 : nI (p + 1) - (1 : Int32) = nI p := nI_pred p
  have e2 : nI (p + 1) + (-1 : Int32) = nI p := pk_m1 p
  have cp : (nI p).toNatClampNeg = p := nI_clamp (by omega)
  have ep : gA y 15 p = nI (R2 p) := rr p (by omega) (by omega)
  obtain ⟨o1, o2, o3⟩ := ok p (by omega)
  rw [e1, oi_nI (by decide) (show p < 8 by omega), cp, ep, cellM]
  have hy : RT k u y := RT_mk h (OK_mk f)
  obtain ⟨z, mz, hz⟩ := iaR hy (cvD_m cd (OK_mk f)) hb o1 hl (-1) yc.1 o2 yc.2 o3
  have fz : OK v z := OK_p f mz
  have ez : gI z 15 = nI n := by rw [mz.1 15 (by unfold kPI; omega)]; exact e15
  have a15 : gA z 15 = gA y 15 := mz.2 15 (by unfold kPA; omega)
  rcases hz with ⟨ah, ea⟩ | ⟨ah, ea⟩
  · rw [ea, ob_s, if_neg nz_1, oi_nI (by decide) (show p < 8 by omega), oi_nI (by decide) (show p + 1 < 8 by omega), a15, ep, lt_e, e2, lt_e]
    refine hc2 (nI p, _) (by omega) ⟨?_, OK_A fz, ez, updN R2 (p + 1) (R2 p), fun j h1 h2 => ?_, fun j hj => ?_, ?_⟩
    · show nI p = nI (n - (i + 1))
      rw [show n - (i + 1) = p by omega]
    · show gA (tA z 15 (nI (p + 1)) (nI (R2 p))) 15 j = _
      rw [tAe, nI_clamp (by omega)]
      by_cases q : j = p + 1
      · rw [q, upd_s, updN_s]
      · rw [upd_n _ _ q, updN_n q, a15]; exact rr j h1 q
    · rw [updN_n (by omega)]; exact ok j (by omega)
    · rw [show n - (i + 1) = p by omega, ← insR_t ah]; exact er
  · rw [ea, ob_s, if_pos rfl]
    exact put z fz ez a15 (insR_f ah)
theorem foV (h : RT k u v) {D : List Int32} (cd : cvD u v D) {l : Nat} (hl : l < 6) : TO (fun y => OK v y ∧ gI y 15 = nI (ordS u D l 8).1 ∧ ∀ j : Nat, j < (ordS u D l 8).1 → gA y 15 j = nI ((ordS u D l 8).2 j)) (f_X10_findOrder (nI l) v) := by
  unfold f_X10_findOrder
  refine to_l ?_
  refine loopR (fun F (x : Int32 × SS) => f_X10_findOrder_L7 F (nI l) x.1 x.2) (fun i x => x.1 = nI i ∧ OK v x.2 ∧ gI x.2 15 = nI (ordS u D l i).1 ∧ ∀ j : Nat, j < (ordS u D l i).1 → gA x.2 15 j = nI ((ordS u D l i).2 j)) _ 8 ?_ (F := FU) (x := ((0 : Int32), sI v 15 0)) (Nat.lt_trans (by decide) FU_ge) ⟨rfl, OK_I (OK_r v), sIe, fun j hj => absurd hj (Nat.not_lt_zero j)⟩
  intro F x i hi hI hc2
  obtain ⟨b2, y⟩ := x
  obtain ⟨e, f, e15, row⟩ := hI
  have e : b2 = nI i := e
  have f : OK v y := f
  have e15 : gI y 15 = nI (ordS u D l i).1 := e15
  have row : ∀ j : Nat, j < (ordS u D l i).1 → gA y 15 j = nI ((ordS u D l i).2 j) := row
  subst e
  show TO _ (b_X10_findOrder_L7 (f_X10_findOrder_L7 F) (nI l) (nI i) y)
  unfold b_X10_findOrder_L7 f_X10_findOrder_L112
  by_cases c8 : i = 8
  · subst c8
    rw [if_pos (show (8 : Int32) ≤ nI 8 by decide)]; exact to_s ⟨f, e15, row⟩
  have hi2 : i < 8 := by omega
  have hy : RT k u y := RT_mk h (OK_mk f)
  obtain ⟨om1, om2⟩ := ordS_m (u := u) (D := D) (l := l) i
  rw [if_neg (show ¬ (8 : Int32) ≤ nI i from nI_ge (b := 8) hi2 (by decide)), cellM, lt_e]
  have skip : ∀ z : SS, OK v z → gI z 15 = gI y 15 → gA z 15 = gA y 15 → ¬ (INC u l (-1) i ∧ evl (NM u l (-1) i) D = some [PV u D l (-1) i]) → TO (fun y => OK v y ∧ gI y 15 = nI (ordS u D l 8).1 ∧ ∀ j : Nat, j < (ordS u D l 8).1 → gA y 15 j = nI ((ordS u D l 8).2 j)) (lt (nI i + (1 : Int32)) fun x6 => f_X10_findOrder_L7 F (nI l) x6 z) := by
    intro z fz z15 a15 nc
    rw [lt_e, nI_1]
    refine hc2 (nI (i + 1), z) hi2 ?_
    rw [ordS_f nc]
    exact ⟨rfl, fz, z15.trans e15, fun j hj => by show gA z 15 j = _; rw [a15]; exact row j hj⟩
  rcases Std_c u (i * 6 + l) with sd | sd
  rotate_left
  · rw [dsM_f hy hi2 hl sd, ob_s, if_pos rfl]; exact skip y f rfl rfl (fun z => sd z.1.2)
  have ic : INC u l (-1) i := ⟨m1_n (by omega), sd⟩
  rw [dsM_t hy hi2 hl sd, ob_s, if_neg nz_1]
  obtain ⟨q, mq, hq⟩ := fpV hy (cvD_m cd (OK_mk f)) hi2 hl (-1) ic
  have fq : OK v q := OK_p f mq
  have q15 : gI q 15 = gI y 15 := mq.1 15 (by unfold kPI; omega)
  have a15 : gA q 15 = gA y 15 := mq.2 15 (by unfold kPA; omega)
  rcases hq with ⟨ev, -, eq, -, -⟩ | ⟨en, eq⟩
  rotate_left
  · rw [eq, ob_s, if_pos rfl]
    refine skip q fq q15 a15 (fun z => ?_)
    have := z.2.symm.trans en
    cases this
  rw [eq, ob_s, if_neg nz_1, q15, e15, lt_e]
  refine fo44V h cd hl hi2 (show (ordS u D l i).1 < 8 by omega) _ ⟨ic, ev⟩ (R := (ordS u D l i).2) (fun j hj => ⟨by have := (om2 j hj).1; omega, (om2 j hj).2⟩) (fun z fz z15 zrow => ?_) fq (q15.trans e15) (fun j hj => by rw [a15]; exact row j hj)
  refine hc2 (nI (i + 1), z) hi2 ?_
  rw [ordS_t ⟨ic, ev⟩]
  refine ⟨rfl, fz, z15, fun j hj => zrow j ?_⟩
  have hj : j < (ordS u D l i).1 + 1 := hj
  omega
theorem st_orderE (h : RT k u v) (l n : Int32) : QQ (RT (k + 1)) (f_X9_order l n u) (f_X10_order l n v) := by
  obtain ⟨r, u2, r2, v2, e1, e2, hR, -⟩ := st_orderT h l n
  suffices key : ∃ A : Int32, TO (fun p : Int32 × SS => p.1 = A) (f_X9_order l n u) ∧ TO (fun p : Int32 × SS => p.1 = A) (f_X10_order l n v) by
    obtain ⟨A, ⟨⟨a1, w1⟩, q1, q2⟩, ⟨⟨a2, w2⟩, q3, q4⟩⟩ := key
    have q2 : a1 = A := q2
    have q4 : a2 = A := q4
    have c1 := (Prod.mk.inj (Option.some.inj (e1.symm.trans q1))).1
    have c2 := (Prod.mk.inj (Option.some.inj (e2.symm.trans q3))).1
    exact ⟨r, u2, r2, v2, e1, e2, hR, c1.trans (q2.trans (q4.symm.trans c2.symm))⟩
  clear e1 e2 hR
  obtain ⟨⟨t, L, ht, hL1, hL6, e0, e0m, e2, e2m, e1, e1c⟩, -⟩ := id h
  obtain ⟨D, cd⟩ := cvD_o h
  unfold f_X9_order f_X10_order
  rcases cl_c l L with ⟨j, hj, rfl⟩ | hl
  rotate_left
  · rw [noLot_f e2 hL6 hl, isLot_f e2m hL1 hL6 hl, ob_s, ob_s, if_neg nz_1, if_pos rfl, rfB rwd1, rfM rwd1, ob_s, ob_s]; exact ⟨_, to_s rfl, to_s rfl⟩
  have hj6 : j < 6 := by omega
  rw [noLot_t e2 hL6 ⟨j, hj, rfl⟩, ob_s, if_pos rfl, isLot_t e2m hL1 hL6 ⟨j, hj, rfl⟩, ob_s, if_neg nz_1]
  obtain ⟨y, ey, lv⟩ := laV h hj6 (-1)
  obtain ⟨z, ez, -, z10, zrow⟩ := rkV h cd hj6 lv
  obtain ⟨q, eq, fq, q15, qrow⟩ := foV h cd hj6
  have om1 := (ordS_m (u := u) (D := D) (l := j) 8).1
  rw [ey, ov_s, ez, ov_s, eq, ov_s, z10, q15]
  rcases in_c n (ordS u D j 8).1 with ⟨i, hi, rfl⟩ | hn
  · rw [inM_t (by omega) hi, ob_s, if_neg nz_1, if_neg (nI_pos (by omega)), if_pos (nI_lt hi (by omega)), oi_nI (by decide) (show i < 8 by omega), oi_nI (by decide) (show i < 8 by omega), nI_clamp (by omega), zrow i hi, qrow i hi]
    exact ⟨_, to_s rfl, to_s rfl⟩
  · rw [inM_f (by omega) hn, ob_s, if_pos rfl]
    refine ⟨-9, ?_, to_s rfl⟩
    refine to_c (fun _ => to_s rfl) (fun c1 => to_c (fun c2 => ?_) (fun _ => to_s rfl))
    exact absurd (rg_mk (show (ordS u D j 8).1 < 2 ^ 31 by omega) c1 c2) hn
end ST45
