section ST26
variable {k n : Nat} {u v v2 w x y : SS}
theorem FU_9 : 531442 < FU := by decide
/-- the reference while it looks for the best whole -/
def WK (v w : SS) : Prop := FrM v w ∧ gA w 24 = gA v 24 ∧ (∀ l : Nat, l < 6 → nob (gA w 18 l)) ∧ gI w 16 = 1
theorem RT_wk (h : RT k u v) (no : ¬ Opn u) (m : WK v w) : RT k u w := RT_f (Nat.le_refl _) h (FrB_r u) m.1 m.2.2.1 (by rw [m.2.1]; exact h.2.2.2.2.2.2.2.2.2.2.2.2.2.2.1) (Or.inr m.2.2.2) (fun z => absurd z no)
theorem WK_k (m : WK v w) (m2 : MK w x) : WK v x := ⟨FrM_t m.1 m2.1, m2.2.2.1.trans m.2.1, fun l hl => by rw [m2.2.1]; exact m.2.2.1 l hl, m2.2.2.2.trans m.2.2.2⟩
theorem WK_I {i : Nat} {z : Int32} (hi : ¬ kMI i ∧ i ≠ 16) (m : WK v w) : WK v (sI w i z) := WK_k m (MK_I hi (MK_r w))
theorem WK_A {a : Nat} {i z : Int32} (ha : ¬ kMA a ∧ a ≠ 18 ∧ a ≠ 24) (m : WK v w) : WK v (tA w a i z) := WK_k m (MK_A ha (MK_r w))
theorem WK_18 {l : Nat} {z : Int32} (hl : l < 6) (hz : nob z) (m : WK v w) : WK v (tA w 18 (nI l) z) := by
  obtain ⟨f, a24, g, i16⟩ := m
  refine ⟨FrM_A (by unfold kMA; omega) f, by rw [tAn (by decide)]; exact a24, fun j hj => ?_, i16⟩
  rw [tAe, nI_clamp (by omega)]
  by_cases q : j = l
  · rw [q, upd_s]; exact hz
  · rw [upd_n _ _ q]; exact g j hj
/-- the orders of the lots below m: how many, and who -/
def WO (m : Nat) (w : SS) : Prop := ∀ l : Nat, l < m → ∃ c : Nat, c ≤ 8 ∧ gA w 20 l = nI c ∧ ∀ j : Nat, j < c → eN 7 (gA w 19 (8 * l + j))
/-- the picks: none beyond how many there are -/
def WPK (m : Nat) (w : SS) : Prop := ∀ l : Nat, l < m → ∃ p : Nat, gA w 21 l = nI p ∧ p ≤ nn (gA w 20 l)
theorem WO_c {m l : Nat} (h : WO m w) (hl : l < m) : gA w 20 l = nI (nn (gA w 20 l)) ∧ nn (gA w 20 l) ≤ 8 ∧ ∀ j : Nat, j < nn (gA w 20 l) → eN 7 (gA w 19 (8 * l + j)) := by
  obtain ⟨c, hc, e, q⟩ := h l hl
  have : nn (gA w 20 l) = c := by rw [e, nn_nI (by omega)]
  rw [this]; exact ⟨e, hc, q⟩
theorem WPK_c {m l : Nat} (h : WPK m w) (h2 : WO m w) (hl : l < m) : gA w 21 l = nI (nn (gA w 21 l)) ∧ nn (gA w 21 l) ≤ nn (gA w 20 l) := by
  obtain ⟨p, e, q⟩ := h l hl
  have c8 := (WO_c h2 hl).2.1
  have : nn (gA w 21 l) = p := by rw [e, nn_nI (by omega)]
  rw [this]; exact ⟨e, q⟩
/-- picks, orders kept -/
def WS (L : Nat) (v w : SS) : Prop := WK v w ∧ WO L w ∧ WPK L w ∧ gI w 2 = nI L
theorem WS_f {L : Nat} (h : WS L v w) (m : WK v y) (e19 : gA y 19 = gA w 19) (e20 : gA y 20 = gA w 20) (e21 : gA y 21 = gA w 21) (e2 : gI y 2 = gI w 2) : WS L v y := by
  obtain ⟨-, o, p, l⟩ := h
  exact ⟨m, by unfold WO; rw [e19, e20]; exact o, by unfold WPK; rw [e20, e21]; exact p, e2.trans l⟩
theorem WS_I {L i : Nat} {z : Int32} (hi : ¬ kMI i ∧ i ≠ 16) (h : WS L v w) : WS L v (sI w i z) := WS_f h (WK_I hi h.1) rfl rfl rfl (sIn (fun q => hi.1 (by unfold kMI; omega)))
theorem WS_A {L a : Nat} {i z : Int32} (ha : a = 22 ∨ a = 23) (h : WS L v w) : WS L v (tA w a i z) := WS_f h (WK_A (by unfold kMA; omega) h.1) (tAn (by omega)) (tAn (by omega)) (tAn (by omega)) rfl
theorem WS_18 {L l : Nat} {z : Int32} (hl : l < 6) (hz : nob z) (h : WS L v w) : WS L v (tA w 18 (nI l) z) := WS_f h (WK_18 hl hz h.1) (tAn (by decide)) (tAn (by decide)) (tAn (by decide)) rfl
/-- won: each at most m lots -/
def WN22 (m : Nat) (w : SS) : Prop := ∀ b : Nat, b < 8 → eN m (gA w 22 b)
theorem ix48 {l p c : Nat} (hl : l < 6) (hp : p < c) (hc : c ≤ 8) : rg 48 ((8 : Int32) * nI l + nI p) := ⟨8 * l + p, by omega, cellM p l⟩
theorem vaT {b : Nat} (hb : b < 8) (h : WN22 6 w) : TO (fun p : Int32 × SS => p.2 = w) (f_X10_valueOf (nI b) w) := by
  unfold f_X10_valueOf
  obtain ⟨c, hc, e⟩ := h b hb
  rw [nI_clamp (by omega), e, show (7 : Int32) * nI b + nI c = nI (7 * b + c) by rw [show (7 : Int32) = nI 7 by decide, pk_mul, nI_add]]
  exact to_i (by decide) ⟨b, hb, rfl⟩ (to_i (by decide) ⟨b, hb, rfl⟩ (to_i (by decide) ⟨7 * b + c, by omega, rfl⟩ (to_s rfl)))
theorem ifT {L : Nat} (hL : L ≤ 6) (h : WS L v w) : TO (fun p : Int32 × SS => p.2 = w ∧ bo p.1) (f_X10_isFirst w) := by
  obtain ⟨m, o, p, e2⟩ := h
  refine loopR (fun F (x : Int32 × SS) => f_X10_isFirst_L2 F x.1 x.2) (fun i x => x = (nI i, w)) _ L ?_ (F := FU) (x := ((0 : Int32), w)) (Nat.lt_trans (show L < 1000 by omega) FU_ge) rfl
  intro F x i hi hI hc2
  subst hI
  show TO _ (b_X10_isFirst_L2 (f_X10_isFirst_L2 F) (nI i) w)
  unfold b_X10_isFirst_L2 f_X10_isFirst_L46 f_X10_isFirst_L67
  rw [e2]
  refine to_c (fun _ => to_s ⟨rfl, Or.inl rfl⟩) (fun c1 => ?_)
  have hi2 : i < L := ltn (by omega) c1
  have r6 : rg 6 (nI i) := ⟨i, by omega, rfl⟩
  obtain ⟨a1, a2, a3⟩ := WO_c o hi2
  obtain ⟨b1, b2⟩ := WPK_c p o hi2
  have L67 : ∀ q1 q2 : Int32, TO (fun p : Int32 × SS => p.2 = w ∧ bo p.1) (if q1 = q2 then (lt (nI i + (1 : Int32)) fun x1 => f_X10_isFirst_L2 F x1 w) else (if q2 ≤ q1 then (some ((0 : Int32), w)) else (some ((1 : Int32), w)))) := by
    intro q1 q2
    refine to_c (fun _ => ?_) (fun _ => to_c (fun _ => to_s ⟨rfl, Or.inl rfl⟩) (fun _ => to_s ⟨rfl, Or.inr rfl⟩))
    rw [lt_e, nI_1]; exact hc2 (nI (i + 1), w) hi2 rfl
  refine to_i (by decide) r6 (to_i (by decide) r6 ?_)
  rw [nI_clamp (by omega), a1, b1]
  refine to_c (fun _ => to_i (by decide) r6 (to_c (fun _ => to_i (by decide) r6 (L67 _ _)) (fun _ => L67 _ _))) (fun c2 => ?_)
  have lt : nn (gA w 21 i) < nn (gA w 20 i) := ltn (by omega) c2
  exact to_i (by decide) r6 (to_i (by decide) (ix48 (by omega) lt a2) (to_i (by decide) r6 (to_c (fun _ => to_i (by decide) r6 (L67 _ _)) (fun _ => L67 _ _))))
theorem tp285 {L : Nat} (hL : L ≤ 6) (h : WS L v w) : TO (fun y => WS L v y ∧ gA y 20 = gA w 20 ∧ gA y 21 = gA w 21) (f_X10_tryPicks_L285 FU (0 : Int32) w) := by
  refine loopR (fun F (x : Int32 × SS) => f_X10_tryPicks_L285 F x.1 x.2) (fun i x => x.1 = nI i ∧ WS L v x.2 ∧ gA x.2 20 = gA w 20 ∧ gA x.2 21 = gA w 21) _ L ?_ (F := FU) (x := ((0 : Int32), w)) (Nat.lt_trans (show L < 1000 by omega) FU_ge) ⟨rfl, h, rfl, rfl⟩
  intro F x i hi hI hc2
  obtain ⟨b5, y⟩ := x
  obtain ⟨e, h, q20, q21⟩ := hI
  have e : b5 = nI i := e
  have h : WS L v y := h
  have q20 : gA y 20 = gA w 20 := q20
  have q21 : gA y 21 = gA w 21 := q21
  subst e
  have h : WS L v y := h
  obtain ⟨m, o, p, e2⟩ := id h
  show TO _ (b_X10_tryPicks_L285 (f_X10_tryPicks_L285 F) (nI i) y)
  unfold b_X10_tryPicks_L285 f_X10_tryPicks_L340
  rw [e2]
  refine to_c (fun _ => to_s ⟨h, q20, q21⟩) (fun c1 => ?_)
  have hi2 : i < L := ltn (by omega) c1
  have r6 : rg 6 (nI i) := ⟨i, by omega, rfl⟩
  obtain ⟨a1, a2, a3⟩ := WO_c o hi2
  obtain ⟨b1, b2⟩ := WPK_c p o hi2
  have st : ∀ q : Int32, nob q → TO (fun y => WS L v y ∧ gA y 20 = gA w 20 ∧ gA y 21 = gA w 21) (oi (nI i) 6 (lt (tA y 18 (nI i) q) fun u7 => lt (nI i + (1 : Int32)) fun x8 => f_X10_tryPicks_L285 F x8 u7)) := by
    intro q hq
    refine to_i (by decide) r6 (to_l ?_)
    rw [lt_e, nI_1]
    refine hc2 (nI (i + 1), _) hi2 ⟨rfl, WS_18 (by omega) hq h, ?_, ?_⟩
    · show gA (tA y 18 (nI i) q) 20 = _
      rw [tAn (by decide)]; exact q20
    · show gA (tA y 18 (nI i) q) 21 = _
      rw [tAn (by decide)]; exact q21
  refine to_i (by decide) r6 (to_i (by decide) r6 ?_)
  rw [nI_clamp (by omega), a1, b1]
  refine to_c (fun _ => st _ (Or.inl rfl)) (fun c2 => ?_)
  have lt : nn (gA y 21 i) < nn (gA y 20 i) := ltn (by omega) c2
  refine to_i (by decide) r6 (to_i (by decide) (ix48 (by omega) lt a2) ?_)
  rw [cellM, nI_clamp (by omega)]
  exact st _ (Or.inr (a3 _ lt))
theorem tp130 {L : Nat} (hL : L ≤ 6) (b1 b2 : Int32) (h : WS L v w) (hw : WN22 6 w) : TO (fun y => WS L v y ∧ gA y 20 = gA w 20 ∧ gA y 21 = gA w 21) (f_X10_tryPicks_L130 FU b1 b2 (0 : Int32) (0 : Int32) w) := by
  refine loopR (fun F (x : Int32 × Int32 × SS) => f_X10_tryPicks_L130 F b1 b2 x.1 x.2.1 x.2.2) (fun i x => x.2 = (nI i, w)) _ 8 ?_ (F := FU) (x := ((0 : Int32), (0 : Int32), w)) (Nat.lt_trans (by decide) FU_ge) rfl
  intro F x i hi hI hc2
  obtain ⟨b3, b4, y⟩ := x
  obtain ⟨rfl, rfl⟩ := Prod.mk.inj hI
  show TO _ (b_X10_tryPicks_L130 (f_X10_tryPicks_L130 F) b1 b2 b3 (nI i) y)
  unfold b_X10_tryPicks_L130 f_X10_tryPicks_L176
  have same : TO (fun z => WS L v z ∧ gA z 20 = gA y 20 ∧ gA z 21 = gA y 21) (some y) := to_s ⟨h, rfl, rfl⟩
  have L260 : ∀ q : Int32, TO (fun z => WS L v z ∧ gA z 20 = gA y 20 ∧ gA z 21 = gA y 21) (f_X10_tryPicks_L260 b1 b2 b3 q y) := by
    intro q
    unfold f_X10_tryPicks_L260
    refine to_c (fun _ => same) (fun _ => to_l (to_l (to_l ?_)))
    exact to_w (tp285 hL (WS_I (by unfold kMI; omega) (WS_I (by unfold kMI; omega) (WS_I (by unfold kMI; omega) h)))) (fun z hz => ⟨hz.1, hz.2.1, hz.2.2⟩)
  refine to_c (fun _ => ?_) (fun c1 => ?_)
  · refine to_c (fun _ => to_c (fun _ => to_c (fun _ => ?_) (fun _ => to_c (fun _ => L260 _) (fun _ => L260 _))) (fun _ => to_c (fun _ => L260 _) (fun _ => L260 _))) (fun _ => to_c (fun _ => L260 _) (fun _ => L260 _))
    refine to_b (ifT hL h) (fun r z hz => ?_)
    have ez : z = y := hz.1
    subst ez
    exact L260 _
  · have hi2 : i < 8 := ltn (n := 8) (by omega) c1
    have r8 : rg 8 (nI i) := ⟨i, hi2, rfl⟩
    have st : ∀ q : Int32, TO (fun z => WS L v z ∧ gA z 20 = gA y 20 ∧ gA z 21 = gA y 21) (lt (b3 + q) fun x9 => lt (nI i + (1 : Int32)) fun x10 => f_X10_tryPicks_L130 F b1 b2 x9 x10 y) := by
      intro q
      rw [lt_e, lt_e, nI_1]; exact hc2 (b3 + q, nI (i + 1), y) hi2 rfl
    refine to_i (by decide) r8 (to_i (by decide) r8 (to_c (fun _ => to_i (by decide) r8 (to_c (fun _ => st _) (fun _ => ?_))) (fun _ => same)))
    refine to_b (vaT hi2 hw) (fun r z hz => ?_)
    have ez : z = y := hz
    subst ez
    exact st _
theorem tp34 (h0 : RT k u v) (no : ¬ Opn u) {L : Nat} (hL : L ≤ 6) (h : WS L v w) (hw : WN22 0 w) : TO (fun y => WS L v y ∧ gA y 20 = gA w 20 ∧ gA y 21 = gA w 21) (f_X10_tryPicks_L34 FU (0 : Int32) (0 : Int32) (0 : Int32) w) := by
  refine loopR (fun F (x : Int32 × Int32 × Int32 × SS) => f_X10_tryPicks_L34 F x.1 x.2.1 x.2.2.1 x.2.2.2) (fun i x => x.2.2.1 = nI i ∧ WS L v x.2.2.2 ∧ WN22 i x.2.2.2 ∧ gA x.2.2.2 20 = gA w 20 ∧ gA x.2.2.2 21 = gA w 21) _ L ?_ (F := FU) (x := ((0 : Int32), (0 : Int32), (0 : Int32), w)) (Nat.lt_trans (show L < 1000 by omega) FU_ge) ⟨rfl, h, hw, rfl, rfl⟩
  intro F x i hi hI hc2
  obtain ⟨b1, b2, b3, y⟩ := x
  obtain ⟨e, h, hw, q20, q21⟩ := hI
  have e : b3 = nI i := e
  have h : WS L v y := h
  have hw : WN22 i y := hw
  have q20 : gA y 20 = gA w 20 := q20
  have q21 : gA y 21 = gA w 21 := q21
  subst e
  have h : WS L v y := h
  obtain ⟨m, o, p, e2⟩ := id h
  show TO _ (b_X10_tryPicks_L34 (f_X10_tryPicks_L34 F) b1 b2 (nI i) y)
  unfold b_X10_tryPicks_L34 f_X10_tryPicks_L119
  rw [e2]
  refine to_c (fun _ => to_w (tp130 hL b1 b2 h (fun b hb => ?_)) (fun z hz => ⟨hz.1, hz.2.1.trans q20, hz.2.2.trans q21⟩)) (fun c1 => ?_)
  · obtain ⟨c, hc, ec⟩ := hw b hb
    exact ⟨c, by omega, ec⟩
  have hi2 : i < L := ltn (by omega) c1
  have r6 : rg 6 (nI i) := ⟨i, by omega, rfl⟩
  obtain ⟨a1, a2, a3⟩ := WO_c o hi2
  obtain ⟨d1, d2⟩ := WPK_c p o hi2
  have st : ∀ (p q : Int32) (z : SS), WS L v z → WN22 (i + 1) z → gA z 20 = gA w 20 → gA z 21 = gA w 21 → TO (fun y => WS L v y ∧ gA y 20 = gA w 20 ∧ gA y 21 = gA w 21) (lt (nI i + (1 : Int32)) fun x14 => f_X10_tryPicks_L34 F p q x14 z) := by
    intro p q z hz wz z20 z21
    rw [lt_e, nI_1]; exact hc2 (p, q, nI (i + 1), z) hi2 ⟨rfl, hz, wz, z20, z21⟩
  have up : WN22 (i + 1) y := fun b hb => by
    obtain ⟨c, hc, ec⟩ := hw b hb
    exact ⟨c, by omega, ec⟩
  refine to_i (by decide) r6 (to_i (by decide) r6 ?_)
  rw [nI_clamp (by omega), a1, d1]
  refine to_c (fun _ => st _ _ y h up q20 q21) (fun c2 => ?_)
  have lt : nn (gA y 21 i) < nn (gA y 20 i) := ltn (by omega) c2
  obtain ⟨q, hq, eq⟩ := a3 _ lt
  refine to_i (by decide) r6 (to_i (by decide) (ix48 (by omega) lt a2) ?_)
  rw [cellM, nI_clamp (show 8 * i + nn (gA y 21 i) < 2 ^ 31 by omega), eq, lt_e]
  have r8 : rg 8 (nI q) := ⟨q, by omega, rfl⟩
  obtain ⟨c, hc, ec⟩ := hw q (by omega)
  refine to_i (by decide) r8 (to_i (by decide) r8 (to_l (to_i (by decide) r8 ?_)))
  rw [nI_clamp (show q < 2 ^ 31 by omega), ec, nI_1 c, cellM]
  have h2 : WS L v (tA y 22 (nI q) (nI (c + 1))) := WS_A (by omega) h
  obtain ⟨pp, -, -, ep⟩ := pr_c (RT_wk h0 no h2.1) (show 8 * i + q < 48 by omega)
  rw [ep, ob_s]
  refine to_i (by decide) r8 (to_l (to_i (by decide) r6 (to_l (to_l ?_))))
  refine st _ _ _ (WS_A (by omega) h2) (fun b hb => ?_) ?_ ?_
  · rw [tAn (by decide), tAe, nI_clamp (by omega)]
    by_cases z : b = q
    · rw [z, upd_s]; exact ⟨c + 1, by omega, rfl⟩
    · rw [upd_n _ _ z]; exact up b hb
  · rw [tAn (by decide), tAn (by decide)]; exact q20
  · rw [tAn (by decide), tAn (by decide)]; exact q21
theorem tpT2 (h0 : RT k u v) (no : ¬ Opn u) {L : Nat} (hL : L ≤ 6) (h : WS L v w) : TO (fun y => WS L v y ∧ gA y 20 = gA w 20 ∧ gA y 21 = gA w 21) (f_X10_tryPicks w) := by
  refine loopR (fun F (x : Int32 × SS) => f_X10_tryPicks_L6 F (0 : Int32) (0 : Int32) x.1 x.2) (fun i x => x.1 = nI i ∧ WS L v x.2 ∧ (∀ b : Nat, b < i → eN 0 (gA x.2 22 b)) ∧ gA x.2 20 = gA w 20 ∧ gA x.2 21 = gA w 21) _ 8 ?_ (F := FU) (x := ((0 : Int32), w)) (Nat.lt_trans (by decide) FU_ge) ⟨rfl, h, fun b hb => absurd hb (by omega), rfl, rfl⟩
  intro F x i hi hI hc2
  obtain ⟨b3, y⟩ := x
  obtain ⟨e, h, hw, q20, q21⟩ := hI
  have e : b3 = nI i := e
  have h : WS L v y := h
  have hw : ∀ b : Nat, b < i → eN 0 (gA y 22 b) := hw
  have q20 : gA y 20 = gA w 20 := q20
  have q21 : gA y 21 = gA w 21 := q21
  subst e
  show TO _ (b_X10_tryPicks_L6 (f_X10_tryPicks_L6 F) (0 : Int32) (0 : Int32) (nI i) y)
  unfold b_X10_tryPicks_L6
  by_cases c : i = 8
  · subst c
    rw [if_pos (show (8 : Int32) ≤ nI 8 by decide)]
    exact to_w (tp34 h0 no hL h hw) (fun z hz => ⟨hz.1, hz.2.1.trans q20, hz.2.2.trans q21⟩)
  · have hi2 : i < 8 := by omega
    rw [if_neg (show ¬ (8 : Int32) ≤ nI i from nI_ge (b := 8) hi2 (by decide))]
    refine to_i (by decide) ⟨i, hi2, rfl⟩ (to_l (to_i (by decide) ⟨i, hi2, rfl⟩ (to_l ?_)))
    rw [lt_e, nI_1]
    refine hc2 (nI (i + 1), _) hi2 ⟨rfl, WS_A (by omega) (WS_A (by omega) h), fun b hb => ?_, ?_, ?_⟩
    · show eN 0 (gA (tA (tA y 22 (nI i) 0) 23 (nI i) 0) 22 b)
      rw [tAn (by decide), tAe, nI_clamp (by omega)]
      by_cases z : b = i
      · rw [z, upd_s]; exact ⟨0, by omega, rfl⟩
      · rw [upd_n _ _ z]; exact hw b (by omega)
    · show gA (tA (tA y 22 (nI i) 0) 23 (nI i) 0) 20 = _
      rw [tAn (by decide), tAn (by decide)]; exact q20
    · show gA (tA (tA y 22 (nI i) 0) 23 (nI i) 0) 21 = _
      rw [tAn (by decide), tAn (by decide)]; exact q21
/-! the picks as digits of a number -/
def vv (p : Nat → Nat) : Nat → Nat
  | 0 => 0
  | m + 1 => vv p m * 9 + p m
theorem vv_c {p q : Nat → Nat} : ∀ {m : Nat}, (∀ l, l < m → p l = q l) → vv p m = vv q m := by
  intro m
  induction m with
  | zero => intro _; rfl
  | succ m ih =>
    intro h
    show vv p m * 9 + p m = vv q m * 9 + q m
    rw [ih (fun l hl => h l (by omega)), h m (by omega)]
theorem vv_up {p q : Nat → Nat} {b : Nat} (h1 : ∀ l, l < b → q l = p l) (h2 : q b = p b + 1) : ∀ d : Nat, (∀ l, b < l → l < b + 1 + d → p l ≤ 8) → vv p (b + 1 + d) + 1 ≤ vv q (b + 1 + d) := by
  intro d
  induction d with
  | zero =>
    intro _
    show vv p b * 9 + p b + 1 ≤ vv q b * 9 + q b
    rw [vv_c h1, h2]; omega
  | succ d ih =>
    intro h
    have a := ih (fun l l1 l2 => h l l1 (by omega))
    have p8 := h (b + 1 + d) (by omega) (by omega)
    show vv p (b + 1 + d) * 9 + p (b + 1 + d) + 1 ≤ vv q (b + 1 + d) * 9 + q (b + 1 + d)
    omega
theorem vv_le {p : Nat → Nat} : ∀ {m : Nat}, (∀ l, l < m → p l ≤ 8) → vv p m + 1 ≤ 9 ^ m := by
  intro m
  induction m with
  | zero => intro _; exact Nat.le_refl _
  | succ m ih =>
    intro h
    have a := ih (fun l hl => h l (by omega))
    have b := h m (by omega)
    rw [Nat.pow_succ]
    show vv p m * 9 + p m + 1 ≤ _
    omega
def VW2 (w : SS) (L : Nat) : Nat := vv (fun l => nn (gA w 21 l)) L
/-- the next picks -/
theorem fw106 {L : Nat} (hL1 : 1 ≤ L) (hL : L ≤ 6) {P : SS → Prop} (k91 : Int32 → SS → Option SS) (h : WS L v w) (hk : ∀ y, WS L v y → VW2 w L + 1 ≤ VW2 y L → TO P (k91 (1 : Int32) y)) (hk0 : ∀ y, WS L v y → TO P (k91 (0 : Int32) y)) : TO P (f_X10_findWhole_L106 k91 FU (nI L - 1) w) := by
  rw [show nI L - (1 : Int32) = nI (L - 1) from pk_sub (a := L) (b := 1) (by omega)]
  refine loopR (fun F (x : Int32 × SS) => f_X10_findWhole_L106 k91 F x.1 x.2) (fun i x => ((i < L ∧ x.1 = nI (L - 1 - i)) ∨ (i = L ∧ x.1 = -1)) ∧ WS L v x.2 ∧ ∀ l : Nat, l < L - i → gA x.2 21 l = gA w 21 l) _ L ?_ (F := FU) (x := (nI (L - 1), w)) (Nat.lt_trans (show L < 1000 by omega) FU_ge) ⟨Or.inl ⟨by omega, rfl⟩, h, fun _ _ => rfl⟩
  intro F x i hi hI hc2
  obtain ⟨b2, y⟩ := x
  obtain ⟨e, hy, hs⟩ := hI
  have hy : WS L v y := hy
  have hs : ∀ l : Nat, l < L - i → gA y 21 l = gA w 21 l := hs
  show TO _ (b_X10_findWhole_L106 k91 (f_X10_findWhole_L106 k91 F) b2 y)
  unfold b_X10_findWhole_L106 f_X10_findWhole_L138 f_X10_findWhole_L147 f_X10_findWhole_L162
  rcases e with ⟨hiL, e⟩ | ⟨hiL, e⟩
  rotate_left
  · have e : b2 = -1 := e
    subst e
    rw [if_pos lt_m1, if_pos lt_m1, if_pos rfl]
    exact hk0 y hy
  have e : b2 = nI (L - 1 - i) := e
  subst e
  have hy : WS L v y := hy
  obtain ⟨m, o, p, e2⟩ := id hy
  have bl : L - 1 - i < L := by omega
  have r6 : rg 6 (nI (L - 1 - i)) := ⟨L - 1 - i, by omega, rfl⟩
  obtain ⟨a1, a2, a3⟩ := WO_c o bl
  obtain ⟨d1, d2⟩ := WPK_c p o bl
  rw [if_neg (nI_pos (by omega)), nI_clamp (show L - 1 - i < 2 ^ 31 by omega)]
  refine to_i (by decide) r6 (to_i (by decide) r6 ?_)
  rw [a1, d1]
  have p20 : ∀ (z : Int32) (l : Nat), gA (tA y 21 (nI (L - 1 - i)) z) 20 l = gA y 20 l := fun z l => by rw [tAn (by decide)]
  have upd21 : ∀ (z l : Nat), z ≤ nn (gA y 20 (L - 1 - i)) → WS L v (tA y 21 (nI (L - 1 - i)) (nI z)) := by
    intro z l hz
    refine ⟨WK_A (by unfold kMA; omega) m, ?_, fun l hl => ?_, e2⟩
    · unfold WO; rw [tAn (by decide), tAn (by decide)]; exact o
    · rw [p20, tAe, nI_clamp (by omega)]
      by_cases q : l = L - 1 - i
      · rw [q, upd_s]; exact ⟨z, rfl, hz⟩
      · rw [upd_n _ _ q]; exact p l hl
  refine to_c (fun _ => ?_) (fun c => ?_)
  · refine to_i (by decide) r6 (to_l (to_l ?_))
    refine hc2 (nI (L - 1 - i) + (-1), _) hiL ⟨?_, upd21 0 0 (by omega), fun l hl => ?_⟩
    · rcases Nat.lt_or_ge (i + 1) L with z | z
      · refine Or.inl ⟨z, ?_⟩
        show nI (L - 1 - i) + (-1) = nI (L - 1 - (i + 1))
        rw [show L - 1 - i = (L - 1 - (i + 1)) + 1 by omega]; exact pk_m1 _
      · refine Or.inr ⟨by omega, ?_⟩
        show nI (L - 1 - i) + (-1) = -1
        rw [show L - 1 - i = 0 by omega]; rfl
    · show gA (tA y 21 (nI (L - 1 - i)) (nI 0)) 21 l = _
      rw [tAe, nI_clamp (by omega), upd_n _ _ (by omega)]; exact hs l (by omega)
  · rw [if_neg (nI_pos (show L - 1 - i < 2 ^ 31 by omega)), if_neg nz_1]
    have lt : nn (gA y 21 (L - 1 - i)) < nn (gA y 20 (L - 1 - i)) := by
      rcases Nat.lt_or_ge (nn (gA y 21 (L - 1 - i))) (nn (gA y 20 (L - 1 - i))) with z | z
      · exact z
      · exact absurd (by rw [show nn (gA y 21 (L - 1 - i)) = nn (gA y 20 (L - 1 - i)) by omega]) c
    refine to_i (by decide) r6 (to_i (by decide) r6 ?_)
    rw [nI_1, lt_e]
    refine hk _ (upd21 _ 0 (by omega)) ?_
    unfold VW2
    have hw8 : ∀ l : Nat, l < L → nn (gA w 21 l) ≤ 8 := fun l hl => by
      have q1 := (WPK_c h.2.2.1 h.2.1 hl).2
      have q2 := (WO_c h.2.1 hl).2.1
      omega
    have key := vv_up (p := fun l => nn (gA w 21 l)) (q := fun l => nn (gA (tA y 21 (nI (L - 1 - i)) (nI (nn (gA y 21 (L - 1 - i)) + 1))) 21 l)) (b := L - 1 - i) (fun l hl => by
      show nn (gA (tA y 21 _ _) 21 l) = nn (gA w 21 l)
      rw [tAe, nI_clamp (by omega), upd_n _ _ (by omega), hs l (by omega)]) (by
      show nn (gA (tA y 21 _ _) 21 (L - 1 - i)) = nn (gA w 21 (L - 1 - i)) + 1
      rw [tAe, nI_clamp (by omega), upd_s, nn_nI (by omega), hs (L - 1 - i) (by omega)]) i (fun l l1 l2 => hw8 l (by omega))
    rw [show L - 1 - i + 1 + i = L by omega] at key
    exact key
theorem fw91 (h0 : RT k u v) (no : ¬ Opn u) {L : Nat} (hL1 : 1 ≤ L) (hL : L ≤ 6) (h : WS L v w) : TO (WK v) (f_X10_findWhole_L91 FU (1 : Int32) w) := by
  have p9 : 9 ^ L ≤ 531441 := Nat.le_trans (Nat.pow_le_pow_right (by decide) hL) (by decide)
  refine loopR (fun F (x : Int32 × SS) => f_X10_findWhole_L91 F x.1 x.2) (fun i x => WS L v x.2 ∧ (x.1 = 0 ∨ i ≤ VW2 x.2 L)) _ 531441 ?_ (F := FU) (x := ((1 : Int32), w)) (Nat.lt_trans (by decide) FU_9) ⟨h, Or.inr (Nat.zero_le _)⟩
  intro F x i hi hI hc2
  obtain ⟨b1, y⟩ := x
  obtain ⟨hy, hv⟩ := hI
  have hy : WS L v y := hy
  have hv : b1 = 0 ∨ i ≤ VW2 y L := hv
  show TO _ (b_X10_findWhole_L91 (f_X10_findWhole_L91 F) b1 y)
  unfold b_X10_findWhole_L91
  refine to_c (fun _ => to_l (to_l (to_s (WK_I (by unfold kMI; omega) (WK_I (by unfold kMI; omega) hy.1))))) (fun c => ?_)
  have hv := hv.resolve_left c
  refine to_v (tpT2 h0 no hL hy) (fun z hz => ?_)
  obtain ⟨hz, z20, z21⟩ := hz
  have vz : VW2 z L = VW2 y L := by unfold VW2; rw [z21]
  have vlt : VW2 z L + 1 ≤ 9 ^ L := vv_le (fun l hl => by
    have q1 := (WPK_c hz.2.2.1 hz.2.1 hl).2
    have q2 := (WO_c hz.2.1 hl).2.1
    show nn (gA z 21 l) ≤ 8
    omega)
  rw [hz.2.2.2, lt_e]
  exact fw106 hL1 hL _ hz (fun q hq vq => hc2 (1, q) (by omega) ⟨hq, Or.inr (show i + 1 ≤ VW2 q L by omega)⟩) (fun q hq => hc2 (0, q) (by omega) ⟨hq, Or.inl rfl⟩)
/-- while the orders are laid: those of lots below l -/
theorem fw40 {L l n : Nat} (hl : l < L) (hL : L ≤ 6) (hn : n ≤ 8) {P : SS → Prop} (k15 : Int32 → SS → Option SS) (m : WK v w) (o : WO l w) (p : WPK l w) (e20 : gA w 20 l = nI n) (e15 : gI w 15 = nI n) (hr : ∀ j : Nat, j < n → eN 7 (gA w 15 j)) (hk : ∀ y, WK v y → WO (l + 1) y → WPK (l + 1) y → TO P (k15 (nI (l + 1)) y)) : TO P (f_X10_findWhole_L40 k15 FU (nI l) (0 : Int32) w) := by
  refine loopR (fun F (x : Int32 × SS) => f_X10_findWhole_L40 k15 F (nI l) x.1 x.2) (fun i x => x.1 = nI i ∧ WK v x.2 ∧ WO l x.2 ∧ WPK l x.2 ∧ gA x.2 20 l = nI n ∧ gI x.2 15 = nI n ∧ (∀ j : Nat, j < n → eN 7 (gA x.2 15 j)) ∧ ∀ j : Nat, j < i → eN 7 (gA x.2 19 (8 * l + j))) _ n ?_ (F := FU) (x := ((0 : Int32), w)) (Nat.lt_trans (show n < 1000 by omega) FU_ge) ⟨rfl, m, o, p, e20, e15, hr, fun j hj => absurd hj (by omega)⟩
  intro F x i hi hI hc2
  obtain ⟨b2, y⟩ := x
  obtain ⟨e, m, o, p, e20, e15, hr, hq⟩ := hI
  have e : b2 = nI i := e
  have m : WK v y := m
  have o : WO l y := o
  have p : WPK l y := p
  have e20 : gA y 20 l = nI n := e20
  have e15 : gI y 15 = nI n := e15
  have hr : ∀ j : Nat, j < n → eN 7 (gA y 15 j) := hr
  have hq : ∀ j : Nat, j < i → eN 7 (gA y 19 (8 * l + j)) := hq
  subst e
  show TO _ (b_X10_findWhole_L40 k15 (f_X10_findWhole_L40 k15 F) (nI l) (nI i) y)
  unfold b_X10_findWhole_L40
  rw [e15]
  by_cases c : i = n
  · subst c
    rw [if_pos (nI_le (Nat.le_refl _) (by omega))]
    refine to_i (by decide) ⟨l, by omega, rfl⟩ (to_l ?_)
    rw [lt_e, nI_1]
    refine hk _ (WK_A (by unfold kMA; omega) m) (fun l2 h2 => ?_) (fun l2 h2 => ?_)
    · rw [tAn (by decide), tAn (by decide)]
      by_cases z : l2 = l
      · subst z; exact ⟨i, hn, e20, hq⟩
      · exact o l2 (by omega)
    · rw [tAn (show (20 : Nat) ≠ 21 by decide), tAe, nI_clamp (by omega)]
      by_cases z : l2 = l
      · rw [z, upd_s]; exact ⟨0, rfl, Nat.zero_le _⟩
      · rw [upd_n _ _ z]; exact p l2 (by omega)
  · have hi2 : i < n := by omega
    rw [if_neg (nI_ge hi2 (by omega)), cellM]
    refine to_i (by decide) ⟨i, by omega, rfl⟩ (to_i (by decide) ⟨8 * l + i, by omega, rfl⟩ (to_l ?_))
    rw [lt_e, nI_1, nI_clamp (show i < 2 ^ 31 by omega)]
    refine hc2 (nI (i + 1), _) hi2 ⟨rfl, WK_A (by unfold kMA; omega) m, fun l2 h2 => ?_, ?_, ?_, e15, ?_, fun j hj => ?_⟩
    · show ∃ c : Nat, c ≤ 8 ∧ gA (tA y 19 (nI (8 * l + i)) (gA y 15 i)) 20 l2 = nI c ∧ ∀ j : Nat, j < c → eN 7 (gA (tA y 19 (nI (8 * l + i)) (gA y 15 i)) 19 (8 * l2 + j))
      obtain ⟨c, hc, ec, hq2⟩ := o l2 h2
      refine ⟨c, hc, by rw [tAn (by decide)]; exact ec, fun j hj => ?_⟩
      rw [tAe, nI_clamp (by omega), upd_n _ _ (by omega)]; exact hq2 j hj
    · show WPK l (tA y 19 (nI (8 * l + i)) (gA y 15 i))
      unfold WPK; rw [tAn (by decide), tAn (by decide)]; exact p
    · show gA (tA y 19 (nI (8 * l + i)) (gA y 15 i)) 20 l = nI n
      rw [tAn (by decide)]; exact e20
    · show ∀ j : Nat, j < n → eN 7 (gA (tA y 19 (nI (8 * l + i)) (gA y 15 i)) 15 j)
      rw [tAn (by decide)]; exact hr
    · show eN 7 (gA (tA y 19 (nI (8 * l + i)) (gA y 15 i)) 19 (8 * l + j))
      rw [tAe, nI_clamp (by omega)]
      by_cases z : j = i
      · rw [z, upd_s]; exact hr i hi2
      · rw [upd_n _ _ (by omega)]; exact hq j (by omega)
theorem fwT (h : RT k u v) (no : ¬ Opn u) : TO (fun y => WK v y) (f_X10_findWhole v) := by
  obtain ⟨⟨t, L, ht, hL1, hL6, e0, e0m, e2, e2m, e1, e1c⟩, -⟩ := id h
  unfold f_X10_findWhole
  have g18 := h.2.2.2.2.2.2.2.2.2.2.2.2.2.1
  have b16 := h.2.2.2.2.2.2.2.2.2.2.2.2.2.2.2.1
  refine to_c (fun _ => to_l ?_) (fun c => to_s ⟨FrM_r v, rfl, g18, b16.resolve_left c⟩)
  have m0 : WK v (sI v 16 1) := ⟨⟨fun i hi => sIn (by unfold kMI at hi; omega), fun _ _ => rfl⟩, rfl, g18, sIe⟩
  refine loopR (fun F (x : Int32 × SS) => f_X10_findWhole_L15 F x.1 x.2) (fun i x => x.1 = nI i ∧ WK v x.2 ∧ WO i x.2 ∧ WPK i x.2) _ L ?_ (F := FU) (x := ((0 : Int32), sI v 16 1)) (Nat.lt_trans (show L < 1000 by omega) FU_ge) ⟨rfl, m0, fun l hl => absurd hl (by omega), fun l hl => absurd hl (by omega)⟩
  intro F x i hi hI hc2
  obtain ⟨b1, y⟩ := x
  obtain ⟨e, m, o, p⟩ := hI
  have e : b1 = nI i := e
  have m : WK v y := m
  have o : WO i y := o
  have p : WPK i y := p
  subst e
  have l2 : gI y 2 = nI L := by rw [m.1.1 2 (by unfold kMI; omega)]; exact e2m
  show TO _ (b_X10_findWhole_L15 (f_X10_findWhole_L15 F) (nI i) y)
  unfold b_X10_findWhole_L15
  rw [l2]
  by_cases c : i = L
  · subst c
    rw [if_pos (nI_le (Nat.le_refl _) (by omega))]
    refine to_l (fw91 h no hL1 hL6 (WS_I (by unfold kMI; omega) ⟨m, o, p, l2⟩))
  · have hi2 : i < L := by omega
    rw [if_neg (nI_ge hi2 (by omega))]
    have hy := RT_wk h no m
    refine to_v (foT hy (show i < 6 by omega)) (fun z hz => ?_)
    obtain ⟨ok, n, hn, r15, rr⟩ := hz
    refine to_i (by decide) ⟨i, by omega, rfl⟩ (to_l ?_)
    rw [r15]
    have mz : WK v z := WK_k m (OK_mk ok)
    have z19 : gA z 19 = gA y 19 := ok.2 19 (by unfold kPA; omega) (by decide)
    have z20 : gA z 20 = gA y 20 := ok.2 20 (by unfold kPA; omega) (by decide)
    have z21 : gA z 21 = gA y 21 := ok.2 21 (by unfold kPA; omega) (by decide)
    refine fw40 hi2 hL6 hn _ (WK_A (by unfold kMA; omega) mz) (fun l hl => ?_) (fun l hl => ?_) ?_ r15 (fun j hj => ?_) (fun q mq oq pq => hc2 (nI (i + 1), q) hi2 ⟨rfl, mq, oq, pq⟩)
    · rw [tAe, nI_clamp (by omega), upd_n _ _ (by omega), tAn (by decide), z19, z20]; exact o l hl
    · rw [tAn (show (21 : Nat) ≠ 20 by decide), tAe, nI_clamp (by omega), upd_n _ _ (by omega), z20, z21]; exact p l hl
    · rw [tAe, nI_clamp (by omega), upd_s]
    · rw [tAn (by decide)]
      obtain ⟨b, hb, eb, -⟩ := rr j hj
      exact ⟨b, by omega, eb⟩
end ST26
