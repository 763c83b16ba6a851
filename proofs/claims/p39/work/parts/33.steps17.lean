section ST17
variable {k : Nat} {u v w x : SS}
theorem sw97 {x : Int32} (h : ¬ (x.toInt < 97 ∨ 113 < x.toInt)) (c97 : ¬ x = 97) (c98 : ¬ x = 98) (c99 : ¬ x = 99) (c100 : ¬ x = 100) (c101 : ¬ x = 101) (c102 : ¬ x = 102) (c103 : ¬ x = 103) (c104 : ¬ x = 104) (c105 : ¬ x = 105) (c106 : ¬ x = 106) (c107 : ¬ x = 107) (c108 : ¬ x = 108) (c109 : ¬ x = 109) (c110 : ¬ x = 110) (c111 : ¬ x = 111) (c112 : ¬ x = 112) (c113 : ¬ x = 113) : False := by
  have t : ∀ y : Int32, ¬ x = y → x.toInt ≠ y.toInt := fun y q z => q (Int32.toInt_inj.mp z)
  have a97 : x.toInt ≠ 97 := t 97 c97
  have a98 : x.toInt ≠ 98 := t 98 c98
  have a99 : x.toInt ≠ 99 := t 99 c99
  have a100 : x.toInt ≠ 100 := t 100 c100
  have a101 : x.toInt ≠ 101 := t 101 c101
  have a102 : x.toInt ≠ 102 := t 102 c102
  have a103 : x.toInt ≠ 103 := t 103 c103
  have a104 : x.toInt ≠ 104 := t 104 c104
  have a105 : x.toInt ≠ 105 := t 105 c105
  have a106 : x.toInt ≠ 106 := t 106 c106
  have a107 : x.toInt ≠ 107 := t 107 c107
  have a108 : x.toInt ≠ 108 := t 108 c108
  have a109 : x.toInt ≠ 109 := t 109 c109
  have a110 : x.toInt ≠ 110 := t 110 c110
  have a111 : x.toInt ≠ 111 := t 111 c111
  have a112 : x.toInt ≠ 112 := t 112 c112
  have a113 : x.toInt ≠ 113 := t 113 c113
  omega
theorem sw42 {x : Int32} (h : ¬ (x.toInt < 42 ∨ 47 < x.toInt)) (c42 : ¬ x = 42) (c43 : ¬ x = 43) (c44 : ¬ x = 44) (c45 : ¬ x = 45) (c46 : ¬ x = 46) (c47 : ¬ x = 47) : False := by
  have t : ∀ y : Int32, ¬ x = y → x.toInt ≠ y.toInt := fun y q z => q (Int32.toInt_inj.mp z)
  have a42 : x.toInt ≠ 42 := t 42 c42
  have a43 : x.toInt ≠ 43 := t 43 c43
  have a44 : x.toInt ≠ 44 := t 44 c44
  have a45 : x.toInt ≠ 45 := t 45 c45
  have a46 : x.toInt ≠ 46 := t 46 c46
  have a47 : x.toInt ≠ 47 := t 47 c47
  omega
theorem inmT (x : Int32) (u : SS) : TO (fun p : Int32 × SS => p.2 = u ∧ bo p.1) (f_X2_isName x u) := by
  unfold f_X2_isName
  refine to_c (fun _ => to_s ⟨rfl, Or.inl rfl⟩) (fun c => ?_)
  refine to_c (fun _ => to_s ⟨rfl, Or.inr rfl⟩) (fun c97 => ?_)
  refine to_c (fun _ => to_s ⟨rfl, Or.inr rfl⟩) (fun c98 => ?_)
  refine to_c (fun _ => to_s ⟨rfl, Or.inl rfl⟩) (fun c99 => ?_)
  refine to_c (fun _ => to_s ⟨rfl, Or.inl rfl⟩) (fun c100 => ?_)
  refine to_c (fun _ => to_s ⟨rfl, Or.inl rfl⟩) (fun c101 => ?_)
  refine to_c (fun _ => to_s ⟨rfl, Or.inl rfl⟩) (fun c102 => ?_)
  refine to_c (fun _ => to_s ⟨rfl, Or.inl rfl⟩) (fun c103 => ?_)
  refine to_c (fun _ => to_s ⟨rfl, Or.inr rfl⟩) (fun c104 => ?_)
  refine to_c (fun _ => to_s ⟨rfl, Or.inl rfl⟩) (fun c105 => ?_)
  refine to_c (fun _ => to_s ⟨rfl, Or.inl rfl⟩) (fun c106 => ?_)
  refine to_c (fun _ => to_s ⟨rfl, Or.inr rfl⟩) (fun c107 => ?_)
  refine to_c (fun _ => to_s ⟨rfl, Or.inr rfl⟩) (fun c108 => ?_)
  refine to_c (fun _ => to_s ⟨rfl, Or.inl rfl⟩) (fun c109 => ?_)
  refine to_c (fun _ => to_s ⟨rfl, Or.inl rfl⟩) (fun c110 => ?_)
  refine to_c (fun _ => to_s ⟨rfl, Or.inl rfl⟩) (fun c111 => ?_)
  refine to_c (fun _ => to_s ⟨rfl, Or.inr rfl⟩) (fun c112 => ?_)
  refine to_c (fun _ => to_s ⟨rfl, Or.inr rfl⟩) (fun c113 => ?_)
  exact (sw97 c c97 c98 c99 c100 c101 c102 c103 c104 c105 c106 c107 c108 c109 c110 c111 c112 c113).elim
def HT (w : SS) : Prop := ∃ n : Nat, n ≤ 80 ∧ gI w 11 = nI n
def WH (u w : SS) : Prop := FW u w ∧ HT w
theorem psT (a b : Int64) (h : WH u w) : TO (WH u) (f_X7_push a b w) := by
  obtain ⟨f, n, hn, e⟩ := h
  unfold f_X7_push
  rw [e]
  refine to_c (fun _ => to_s ⟨f, n, hn, e⟩) (fun c => ?_)
  have hn2 : n < 80 := ltn (n := 80) (by omega) c
  refine to_i (by decide) ⟨n, hn2, rfl⟩ (to_l ?_)
  rw [gI_tL, e]
  refine to_i (by decide) ⟨n, hn2, rfl⟩ (to_l ?_)
  rw [gI_tL, gI_tL, e, lt_e, nI_1]
  exact to_s ⟨FW_I (by omega) (FW_L (FW_L f)), n + 1, by omega, sIe⟩
theorem PF_h (p : PF w x) (h : WH u w) : WH u x := ⟨FW_t h.1 (PF_w p), h.2.imp (fun n q => ⟨q.1, by rw [p.1 11 (by decide)]; exact q.2⟩)⟩
theorem op264 {n : Nat} (hn : n + 2 ≤ 80) (f : FW u w) : TO (WH u) (f_X7_operate_L264 (nI (n + 1)) (nI n) w) := by
  unfold f_X7_operate_L264
  exact to_i (by decide) ⟨n, by omega, rfl⟩ (to_l (to_i (by decide) ⟨n, by omega, rfl⟩ (to_l (to_l (to_s ⟨FW_I (by omega) (FW_L (FW_L f)), n + 1, by omega, sIe⟩)))))
theorem op261 {n : Nat} (hn : n + 2 ≤ 80) (a b : Int64) (f : FW u w) : TO (WH u) (f_X7_operate_L261 (nI (n + 1)) (nI n) a b w) := by
  unfold f_X7_operate_L261
  exact to_v (puT _ _ w) (fun y hy => op264 hn (FW_t f (PF_w hy)))
theorem op231 {n : Nat} (hn : n + 2 ≤ 80) (a b c d : Int64) (q : Int32) (f : FW u w) : TO (WH u) (f_X7_operate_L231 (nI (n + 1)) (nI n) a b c d q w) := by
  unfold f_X7_operate_L231 f_X7_operate_L249
  exact to_c (fun _ => to_c (fun _ => op261 hn _ _ f) (fun _ => op261 hn _ _ f)) (fun _ => to_c (fun _ => op261 hn _ _ f) (fun _ => op261 hn _ _ f))
theorem opT (a : Int32) (h : WH u w) : TO (WH u) (f_X7_operate a w) := by
  have h0 := h
  obtain ⟨f, n, hn, e⟩ := h
  unfold f_X7_operate
  rw [e, lt_e, lt_e]
  refine to_c (fun c0 => ?_) (fun _ => to_s h0)
  match n, hn, e, c0 with
  | 0, _, _, c0 => exact absurd c0 (by decide)
  | 1, _, _, c0 => exact absurd c0 (by decide)
  | n + 2, hn, e, c0 =>
    have e1 : nI (n + 2) - (1 : Int32) = nI (n + 1) := nI_pred (n + 1)
    have e2 : nI (n + 2) - (2 : Int32) = nI n := pk_sub (a := n + 2) (b := 2) (by omega)
    rw [e1, e2]
    have r1 : rg 80 (nI n) := ⟨n, by omega, rfl⟩
    have r2 : rg 80 (nI (n + 1)) := ⟨n + 1, by omega, rfl⟩
    refine to_i (by decide) r1 (to_l (to_i (by decide) r1 (to_l (to_i (by decide) r2 (to_l (to_i (by decide) r2 (to_l ?_)))))))
    have P : ∀ x y : Int64, TO (WH u) (ov (f_X3_put x y w) fun u13 => f_X7_operate_L264 (nI (n + 1)) (nI n) u13) := fun x y => to_v (puT _ _ w) (fun y hy => op264 hn (FW_t f (PF_w hy)))
    have D : ∀ (a b c d : Int64) (p q r : Prop) (_ : Decidable p) (_ : Decidable q) (_ : Decidable r), TO (WH u) (if p then (if q then (f_X7_operate_L231 (nI (n + 1)) (nI n) a b c d (0 : Int32) w) else (f_X7_operate_L231 (nI (n + 1)) (nI n) a b c d (1 : Int32) w)) else (if r then (f_X7_operate_L231 (nI (n + 1)) (nI n) a b c d (0 : Int32) w) else (f_X7_operate_L231 (nI (n + 1)) (nI n) a b c d (1 : Int32) w))) := fun a b c d p q r _ _ _ => to_c (fun _ => to_c (fun _ => op231 hn _ _ _ _ _ f) (fun _ => op231 hn _ _ _ _ _ f)) (fun _ => to_c (fun _ => op231 hn _ _ _ _ _ f) (fun _ => op231 hn _ _ _ _ _ f))
    refine to_c (fun _ => D _ _ _ _ _ _ _ _ _ _) (fun c => ?_)
    refine to_c (fun _ => P _ _) (fun c42 => ?_)
    refine to_c (fun _ => P _ _) (fun c43 => ?_)
    refine to_c (fun _ => D _ _ _ _ _ _ _ _ _ _) (fun c44 => ?_)
    refine to_c (fun _ => P _ _) (fun c45 => ?_)
    refine to_c (fun _ => D _ _ _ _ _ _ _ _ _ _) (fun c46 => ?_)
    refine to_c (fun _ => P _ _) (fun c47 => ?_)
    exact (sw42 c c42 c43 c44 c45 c46 c47).elim
theorem pnT (x : Int32) {b : Nat} (hb : b < 8) (h : WH u w) : TO (WH u) (f_X7_pushName x (nI b) w) := by
  unfold f_X7_pushName
  have P : ∀ p q : Int64, TO (WH u) (ov (f_X7_push p q w) fun u2 => some u2) := fun p q => to_v (psT p q h) (fun y hy => to_s hy)
  refine to_c (fun _ => P _ _) (fun c => ?_)
  refine to_c (fun _ => P _ _) (fun c97 => ?_)
  refine to_c (fun _ => P _ _) (fun c98 => ?_)
  refine to_c (fun _ => P _ _) (fun c99 => ?_)
  refine to_c (fun _ => P _ _) (fun c100 => ?_)
  refine to_c (fun _ => P _ _) (fun c101 => ?_)
  refine to_c (fun _ => P _ _) (fun c102 => ?_)
  refine to_c (fun _ => P _ _) (fun c103 => ?_)
  refine to_c (fun _ => P _ _) (fun c104 => ?_)
  refine to_c (fun _ => P _ _) (fun c105 => ?_)
  refine to_c (fun _ => P _ _) (fun c106 => ?_)
  refine to_c (fun _ => P _ _) (fun c107 => ?_)
  refine to_c (fun _ => P _ _) (fun c108 => ?_)
  refine to_c (fun _ => P _ _) (fun c109 => ?_)
  refine to_c (fun _ => P _ _) (fun c110 => ?_)
  refine to_c (fun _ => P _ _) (fun c111 => ?_)
  refine to_c (fun _ => to_i (by decide) ⟨b, hb, rfl⟩ (P _ _)) (fun c112 => ?_)
  refine to_c (fun _ => to_i (by decide) ⟨b, hb, rfl⟩ (to_i (by decide) ⟨b, hb, rfl⟩ (P _ _))) (fun c113 => ?_)
  exact (sw97 c c97 c98 c99 c100 c101 c102 c103 c104 c105 c106 c107 c108 c109 c110 c111 c112 c113).elim
theorem wo124 {b : Nat} (hb : b < 8) (q : Int32) (h : WH u w) : TO (WH u) (f_X7_work_L124 (nI b) q (nI b) w) := by
  unfold f_X7_work_L124
  have r : rg 8 (nI b) := ⟨b, hb, rfl⟩
  have z : rg 80 (0 : Int32) := ⟨0, by decide, rfl⟩
  exact to_i (by decide) r (to_l (to_i (by decide) z (to_i (by decide) r (to_l (to_i (by decide) z (to_i (by decide) r (to_l (to_s ⟨FW_L (FW_L (FW_Z (by omega) h.1)), h.2⟩))))))))
theorem wo96 {b : Nat} (hb : b < 8) (h : WH u w) : TO (WH u) (f_X7_work_L96 (nI b) w) := by
  unfold f_X7_work_L96 f_X7_work_L119
  exact to_c (fun _ => to_c (fun _ => wo124 hb _ h) (fun _ => wo124 hb _ h)) (fun _ => wo124 hb _ h)
theorem woT {b : Nat} (hb : b < 8) (f : FW u w) : TO (WH u) (f_X7_work (nI b) w) := by
  unfold f_X7_work
  refine to_l (to_l ?_)
  refine loopR (fun F (x : Int32 × SS) => f_X7_work_L15 F (nI b) x.1 x.2) (fun i x => x.1 = nI i ∧ WH u x.2) _ 80 ?_ (F := FU) (x := ((0 : Int32), sI (sI w 11 0) 25 0)) (Nat.lt_trans (by decide) FU_ge) ⟨rfl, FW_I (by omega) (FW_I (by omega) f), 0, by decide, rfl⟩
  intro F x i hi hI hc2
  obtain ⟨b3, y⟩ := x
  obtain ⟨e, f⟩ := hI
  have e : b3 = nI i := e
  have f : WH u y := f
  subst e
  show TO _ (b_X7_work_L15 (f_X7_work_L15 F) (nI b) (nI i) y)
  unfold b_X7_work_L15 f_X7_work_L90
  refine to_c (fun _ => wo96 hb f) (fun _ => to_c (fun _ => wo96 hb f) (fun c1 => to_c (fun _ => ?_) (fun _ => wo96 hb f)))
  have hi2 : i < 80 := ltn (n := 80) (by omega) c1
  have st : ∀ z : SS, WH u z → TO (WH u) (lt (nI i + (1 : Int32)) fun x3 => f_X7_work_L15 F (nI b) x3 z) := by
    intro z hz
    rw [lt_e, nI_1]; exact hc2 (nI (i + 1), z) hi2 ⟨rfl, hz⟩
  refine to_i (by decide) ⟨i, hi2, rfl⟩ (to_l (to_c (fun _ => ?_) (fun _ => ?_)))
  · refine to_b (inmT _ y) (fun a z hz => ?_)
    have e : z = y := hz.1
    subst e
    exact to_c (fun _ => to_v (opT _ f) (fun q hq => st q hq)) (fun _ => to_v (pnT _ hb f) (fun q hq => st q hq))
  · exact to_v (psT _ _ f) (fun q hq => st q hq)
theorem cmpT (a b : Int64) (u : SS) : TO (fun p : Int32 × SS => p.2 = u) (f_J13_compare_74951 a b u) := by
  unfold f_J13_compare_74951
  exact to_c (fun _ => to_c (fun _ => to_s rfl) (fun _ => to_s rfl)) (fun _ => to_s rfl)
theorem iaT {a b : Int32} (ha : rg 8 a) (hb : rg 8 b) (u : SS) : TO (fun p : Int32 × SS => p.2 = u) (f_X7_isAhead a b u) := by
  unfold f_X7_isAhead
  refine to_i (by decide) ha (to_i (by decide) hb (to_i (by decide) hb (to_i (by decide) ha (to_b (cmpT _ _ u) (fun r w hw => ?_)))))
  have hw : w = u := hw
  subst hw
  refine to_c (fun _ => ?_) (fun _ => to_c (fun _ => to_s rfl) (fun _ => to_s rfl))
  refine to_i (by decide) ha (to_i (by decide) hb (to_i (by decide) hb (to_i (by decide) ha (to_b (cmpT _ _ w) (fun r y hy => ?_)))))
  have hy : y = w := hy
  subst hy
  refine to_c (fun _ => ?_) (fun _ => to_c (fun _ => to_s rfl) (fun _ => to_s rfl))
  exact to_i (by decide) ha (to_i (by decide) hb (to_c (fun _ => to_c (fun _ => to_s rfl) (fun _ => to_s rfl)) (fun _ => to_i (by decide) ha (to_i (by decide) hb (to_c (fun _ => to_s rfl) (fun _ => to_s rfl))))))
/-- ranked: n of them, each a bidder -/
def FK (u w : SS) : Prop := (∀ i : Nat, i ≠ 10 → i ≠ 11 → i ≠ 12 → i ≠ 25 → gI w i = gI u i) ∧ ∀ a : Nat, a ≠ 12 → a ≠ 16 → a ≠ 17 → a ≠ 18 → a ≠ 19 → gA w a = gA u a
theorem FK_b (h : FK u w) : FrB u w := ⟨fun i hi => h.1 i (by unfold kBI at hi; omega) (by unfold kBI at hi; omega) (by unfold kBI at hi; omega) (by unfold kBI at hi; omega), fun a ha => h.2 a (by unfold kBA at ha; omega) (by unfold kBA at ha; omega) (by unfold kBA at ha; omega) (by unfold kBA at ha; omega) (by unfold kBA at ha; omega)⟩
theorem FK_w (h : FK u w) (h2 : FW w x) : FK u x := ⟨fun i a b c d => (h2.1 i b c d).trans (h.1 i a b c d), fun i a b c d e => (h2.2 i a b c d).trans (h.2 i a b c d e)⟩
theorem FK_r (u : SS) : FK u u := ⟨fun _ _ _ _ _ => rfl, fun _ _ _ _ _ _ => rfl⟩
theorem FK_I {i : Nat} {y : Int32} (hi : i = 10) (h : FK u w) : FK u (sI w i y) := ⟨fun j a b c d => by rw [sIn (by omega)]; exact h.1 j a b c d, h.2⟩
theorem FK_A {a : Nat} {i y : Int32} (ha : a = 19) (h : FK u w) : FK u (tA w a i y) := ⟨h.1, fun b q1 q2 q3 q4 q5 => by rw [tAn (by omega)]; exact h.2 b q1 q2 q3 q4 q5⟩
def RKD (n : Nat) (w : SS) : Prop := gI w 10 = nI n ∧ ∀ j : Nat, j < n → eN 7 (gA w 19 j)
theorem isT {b n : Nat} (hb : b < 8) (hn : n < 8) (f : FK u w) (r : RKD n w) : TO (fun y => FK u y ∧ RKD (n + 1) y) (f_X7_insert (nI b) w) := by
  unfold f_X7_insert
  rw [r.1, lt_e, lt_e, nI_1]
  refine loopG (fun F (x : Int32 × SS) => f_X7_insert_L15 F (nI b) x.1 x.2) (fun i x => x.1 = nI (n - i) ∧ FK u x.2 ∧ gI x.2 10 = nI (n + 1) ∧ ∀ j : Nat, j ≤ n → j ≠ n - i → eN 7 (gA x.2 19 j)) _ n ?_ n 0 FU (nI n, sI w 10 (nI (n + 1))) (by omega) (Nat.lt_trans (show n < 1000 by omega) FU_ge) ⟨rfl, FK_I rfl f, sIe, fun j h1 h2 => r.2 j (by omega)⟩
  intro F x i hi hI hc2
  obtain ⟨b2, y⟩ := x
  obtain ⟨e, f, e10, rr⟩ := hI
  have e : b2 = nI (n - i) := e
  have f : FK u y := f
  have e10 : gI y 10 = nI (n + 1) := e10
  have rr : ∀ j : Nat, j ≤ n → j ≠ n - i → eN 7 (gA y 19 j) := rr
  subst e
  show TO _ (b_X7_insert_L15 (f_X7_insert_L15 F) (nI b) (nI (n - i)) y)
  unfold b_X7_insert_L15
  have put : ∀ z : SS, FK u z → gI z 10 = nI (n + 1) → (∀ j : Nat, j ≤ n → j ≠ n - i → eN 7 (gA z 19 j)) → TO (fun y => FK u y ∧ RKD (n + 1) y) (oi (nI (n - i)) 8 (lt (tA z 19 (nI (n - i)) (nI b)) fun u3 => some u3)) := by
    intro z fz ez rz
    refine to_i (by decide) ⟨n - i, by omega, rfl⟩ (to_l (to_s ⟨FK_A rfl fz, ez, fun j hj => ?_⟩))
    rw [tAe, nI_clamp (by omega)]
    by_cases q : j = n - i
    · rw [q, upd_s]; exact ⟨b, by omega, rfl⟩
    · rw [upd_n _ _ q]; exact rz j (by omega) q
  refine to_c (fun _ => put y f e10 rr) (fun c => ?_)
  have hp : 0 < n - i := by
    rcases Nat.eq_zero_or_pos (n - i) with q | q
    · rw [q] at c; exact absurd (show nI 0 ≤ (0 : Int32) by decide) c
    · exact q
  have e1 : nI (n - i) - (1 : Int32) = nI (n - i - 1) := pk_sub (a := n - i) (b := 1) (by omega)
  have e2 : nI (n - i) + (-1 : Int32) = nI (n - i - 1) := by
    rw [show n - i = (n - i - 1) + 1 by omega]; exact pk_m1 _
  rw [e1]
  obtain ⟨q, hq, eq⟩ := rr (n - i - 1) (by omega) (by omega)
  refine to_i (by decide) ⟨n - i - 1, by omega, rfl⟩ ?_
  rw [nI_clamp (by omega), eq]
  refine to_b (iaT ⟨b, hb, rfl⟩ ⟨q, by omega, rfl⟩ y) (fun a z hz => ?_)
  have hz : z = y := hz
  subst hz
  refine to_c (fun _ => put z f e10 rr) (fun _ => ?_)
  refine to_i (by decide) ⟨n - i - 1, by omega, rfl⟩ (to_i (by decide) ⟨n - i, by omega, rfl⟩ (to_l (to_l ?_)))
  rw [e2]
  refine hc2 (nI (n - i - 1), _) (by omega) ⟨?_, FK_A rfl f, e10, fun j h1 h2 => ?_⟩
  · show nI (n - i - 1) = nI (n - (i + 1))
    rw [show n - i - 1 = n - (i + 1) by omega]
  · show eN 7 (gA (tA z 19 (nI (n - i)) _) 19 j)
    rw [tAe, nI_clamp (by omega)]
    by_cases q2 : j = n - i
    · rw [q2, upd_s, eq]; exact ⟨q, hq, rfl⟩
    · rw [upd_n _ _ q2]; exact rr j h1 q2
theorem rkT (f : FK u w) : TO (fun y => FK u y ∧ ∃ n : Nat, n ≤ 8 ∧ RKD n y) (f_X7_rank w) := by
  unfold f_X7_rank
  refine to_l ?_
  refine loopR (fun F (x : Int32 × SS) => f_X7_rank_L7 F x.1 x.2) (fun i x => x.1 = nI i ∧ FK u x.2 ∧ ∃ n : Nat, n ≤ i ∧ RKD n x.2) _ 8 ?_ (F := FU) (x := ((0 : Int32), sI w 10 0)) (Nat.lt_trans (by decide) FU_ge) ⟨rfl, FK_I rfl f, 0, by decide, sIe, fun j hj => absurd hj (by omega)⟩
  intro F x i hi hI hc2
  obtain ⟨b3, y⟩ := x
  obtain ⟨e, f, n, hn, r⟩ := hI
  have e : b3 = nI i := e
  have f : FK u y := f
  have r : RKD n y := r
  subst e
  show TO _ (b_X7_rank_L7 (f_X7_rank_L7 F) (nI i) y)
  unfold b_X7_rank_L7 f_X7_rank_L42
  refine to_c (fun _ => to_s ⟨f, n, by omega, r⟩) (fun c1 => ?_)
  have hi2 : i < 8 := ltn (n := 8) (by omega) c1
  have r8 : rg 8 (nI i) := ⟨i, hi2, rfl⟩
  have st : ∀ (m : Nat) (z : SS), m ≤ i + 1 → FK u z → RKD m z → TO (fun y => FK u y ∧ ∃ n : Nat, n ≤ 8 ∧ RKD n y) (lt (nI i + (1 : Int32)) fun x3 => f_X7_rank_L7 F x3 z) := by
    intro m z hm fz rz
    rw [lt_e, nI_1]; exact hc2 (nI (i + 1), z) hi2 ⟨rfl, fz, m, hm, rz⟩
  refine to_i (by decide) r8 (to_c (fun _ => st n y (by omega) f r) (fun _ => ?_))
  refine to_v (woT hi2 (FW_r y)) (fun z hz => ?_)
  have rz : RKD n z := ⟨by rw [hz.1.1 10 (by decide) (by decide) (by decide)]; exact r.1, fun j hj => by rw [hz.1.2 19 (by decide) (by decide) (by decide) (by decide)]; exact r.2 j hj⟩
  have fz : FK u z := FK_w f hz.1
  refine to_i (by decide) r8 (to_c (fun _ => ?_) (fun _ => st n z (by omega) fz rz))
  exact to_v (isT hi2 (by omega) fz rz) (fun q hq => st (n + 1) q (by omega) hq.1 hq.2)
theorem orB_T (h : RT k u v) (l n : Int32) : TO (fun p : Int32 × SS => FrB u p.2) (f_X9_order l n u) := by
  obtain ⟨⟨t, L, ht, hL1, hL6, e0, e0m, e2, e2m, e1, e1c⟩, -⟩ := id h
  unfold f_X9_order
  rcases cl_c l L with ⟨j, hj, rfl⟩ | hl
  rotate_left
  · rw [noLot_f e2 hL6 hl, ob_s, if_neg nz_1]; exact rfB3 rwd1 (FrB_r u)
  rw [noLot_t e2 hL6 ⟨j, hj, rfl⟩, ob_s, if_pos rfl]
  refine to_v (laT h (show j < 6 by omega) _) (fun y hy => ?_)
  refine to_v (rkT (FK_w (FK_r u) hy)) (fun z hz => ?_)
  obtain ⟨fz, m, hm, rz⟩ := hz
  refine to_c (fun _ => to_s (FK_b fz)) (fun c1 => to_c (fun c2 => ?_) (fun _ => to_s (FK_b fz)))
  rw [rz.1] at c2
  refine to_i (by decide) ?_ (to_s (FK_b fz))
  obtain ⟨q, hq, e⟩ := rg_mk (show m < 2 ^ 31 by omega) c1 c2
  exact ⟨q, by omega, e⟩
theorem poB_T (h : RT k u v) (b l n : Int32) : TO (fun p : Int64 × SS => FrB u p.2) (f_X9_points b l n u) := by
  obtain ⟨⟨t, L, ht, hL1, hL6, e0, e0m, e2, e2m, e1, e1c⟩, -⟩ := id h
  unfold f_X9_points
  rcases bl_c b l L hL6 with ⟨i, j, hi, hj, hj6, rfl, rfl⟩ | hbl
  rotate_left
  · rw [noBid_f e2 hL6 hbl, ob_s, if_neg nz_1]; exact rlB3 rwd1 (FrB_r u)
  rw [noBid_t e2 hL6 ⟨⟨i, hi, rfl⟩, ⟨j, hj, rfl⟩⟩, ob_s, if_pos rfl]
  refine to_b (npP n u) (fun a w hw => ?_)
  have hw : w = u := hw
  subst hw
  refine to_c (fun _ => ?_) (fun _ => rlB3 rwd2 (FrB_r w))
  rw [ceB, ob_s, cellB]
  refine to_b (stB_T h (show i * 6 + j < 48 by omega)) (fun a y hy => ?_)
  have e : y = w := hy.1
  subst e
  refine to_c (fun _ => rlB3 rwd5 (FrB_r y)) (fun _ => ?_)
  refine to_v (laT h hj6 _) (fun z hz => to_v (woT hi hz) (fun q hq => ?_))
  have r8 : rg 8 (nI i) := ⟨i, hi, rfl⟩
  exact to_i (by decide) r8 (to_c (fun _ => to_c (fun _ => to_i (by decide) r8 (to_s (FW_b hq.1))) (fun _ => to_i (by decide) r8 (to_s (FW_b hq.1)))) (fun _ => rlB3 rwd7 (FW_b hq.1)))
theorem wgT {b : Nat} (hb : b < 8) (n : Int32) (f : FW u w) : TO (fun p : Int32 × SS => FW u p.2) (f_X7_workGain (nI b) n w) := by
  unfold f_X7_workGain
  have r8 : rg 8 (nI b) := ⟨b, hb, rfl⟩
  refine to_v (woT hb f) (fun y hy => to_i (by decide) r8 (to_c (fun _ => ?_) (fun _ => to_s hy.1)))
  refine to_i (by decide) r8 (to_l (to_i (by decide) r8 (to_l (to_i (by decide) r8 (to_i (by decide) r8 (to_l ?_))))))
  refine to_v (suT _) (fun z hz => to_v (woT hb (FW_t (FW_A (by omega) hy.1) hz)) (fun q hq => ?_))
  refine to_i (by decide) r8 (to_c (fun _ => ?_) (fun _ => to_s hq.1))
  exact to_v (psT _ _ hq) (fun q2 h2 => to_v (opT _ h2) (fun q3 h3 => to_c (fun _ => to_s h3.1) (fun _ => to_s h3.1)))
theorem gaB_T (h : RT k u v) (b l n m : Int32) : TO (fun p : Int64 × SS => FrB u p.2) (f_X9_gain b l n m u) := by
  obtain ⟨⟨t, L, ht, hL1, hL6, e0, e0m, e2, e2m, e1, e1c⟩, -⟩ := id h
  unfold f_X9_gain
  rcases bl_c b l L hL6 with ⟨i, j, hi, hj, hj6, rfl, rfl⟩ | hbl
  rotate_left
  · rw [noBid_f e2 hL6 hbl, ob_s, if_neg nz_1]; exact rlB3 rwd1 (FrB_r u)
  rw [noBid_t e2 hL6 ⟨⟨i, hi, rfl⟩, ⟨j, hj, rfl⟩⟩, ob_s, if_pos rfl]
  refine to_b (npP m u) (fun a w hw => ?_)
  have hw : w = u := hw
  subst hw
  refine to_c (fun _ => ?_) (fun _ => rlB3 rwd2 (FrB_r w))
  rw [ceB, ob_s, cellB]
  refine to_b (stB_T h (show i * 6 + j < 48 by omega)) (fun a y hy => ?_)
  have e : y = w := hy.1
  subst e
  refine to_c (fun _ => rlB3 rwd5 (FrB_r y)) (fun _ => ?_)
  refine to_b (inB_T _ _ _ y) (fun a z hz => ?_)
  obtain ⟨e, hr⟩ := hz
  have e : z = y := e
  subst e
  refine to_c (fun _ => ?_) (fun c => ?_)
  · refine to_v (laT h hj6 _) (fun q hq => to_b (wgT hi n hq) (fun a q2 h2 => ?_))
    have h2 : FW z q2 := h2
    exact to_c (fun _ => rlB3 rwd7 (FW_b h2)) (fun _ => to_c (fun _ => to_s (FW_b h2)) (fun _ => to_s (FW_b h2)))
  · rcases hr with q | q | q
    · exact absurd q c
    · have q : a = -4 := q
      subst q; exact rlB3 rwd4 (FrB_r z)
    · have q : a = -6 := q
      subst q; exact rlB3 rwd6 (FrB_r z)
theorem wpT (h : RT k u v) {l a b : Nat} (hl : l < 6) (ha : a < 8) (hb : b < 8) (x : Int32) : TO (FW u) (f_X9_workPair (nI l) (nI a) (nI b) x u) := by
  unfold f_X9_workPair
  exact to_v (laT h hl _) (fun y hy => to_v (woT ha hy) (fun z hz => to_v (woT hb hz.1) (fun q hq => to_s hq.1)))
theorem tuB_T (h : RT k u v) (l a b : Int32) : TO (fun p : Int32 × SS => FrB u p.2) (f_X9_turned l a b u) := by
  obtain ⟨⟨t, L, ht, hL1, hL6, e0, e0m, e2, e2m, e1, e1c⟩, -⟩ := id h
  unfold f_X9_turned f_X9_turned_L46 f_X9_turned_L85
  rcases npB h e2 hL6 l a b with ⟨e, -⟩ | ⟨e, ⟨j, hj, rfl⟩, ⟨i, hi, rfl⟩, ⟨m, hm, rfl⟩, -⟩
  · rw [e, ob_s, if_neg nz_1]; exact rfB3 rwd1 (FrB_r u)
  rw [e, ob_s, if_pos rfl, ceB, ob_s, cellB]
  refine to_b (stB_T h (show i * 6 + j < 48 by omega)) (fun a y hy => ?_)
  have e : y = u := hy.1
  subst e
  refine to_c (fun _ => rfB3 rwd5 (FrB_r y)) (fun _ => ?_)
  rw [ceB, ob_s, cellB]
  refine to_b (stB_T h (show m * 6 + j < 48 by omega)) (fun a z hz => ?_)
  have e : z = y := hz.1
  subst e
  refine to_c (fun _ => rfB3 rwd5 (FrB_r z)) (fun _ => ?_)
  have ri : rg 8 (nI i) := ⟨i, hi, rfl⟩
  have rm : rg 8 (nI m) := ⟨m, hm, rfl⟩
  refine to_v (wpT h (by omega) hi hm _) (fun q hq => ?_)
  refine to_i (by decide) ri (to_c (fun _ => to_i (by decide) rm (to_c (fun _ => ?_) (fun _ => rfB3 rwd7 (FW_b hq)))) (fun _ => rfB3 rwd7 (FW_b hq)))
  refine to_b (iaT ri rm q) (fun a q2 h2 => ?_)
  have h2 : q2 = q := h2
  subst h2
  refine to_c (fun _ => rfB3 rwd3 (FW_b hq)) (fun _ => ?_)
  refine loopR (fun F (x : Int32 × SS) => f_X9_turned_L114 F (nI j) (nI i) (nI m) x.1 x.2) (fun n x => x.1 = nI n ∧ FW z x.2) _ 8 ?_ (F := FU) (x := ((0 : Int32), q2)) (Nat.lt_trans (by decide) FU_ge) ⟨rfl, hq⟩
  intro F x n hn hI hc2
  obtain ⟨b3, y⟩ := x
  obtain ⟨e, f⟩ := hI
  have e : b3 = nI n := e
  have f : FW z y := f
  subst e
  show TO _ (b_X9_turned_L114 (f_X9_turned_L114 F) (nI j) (nI i) (nI m) (nI n) y)
  unfold b_X9_turned_L114 f_X9_turned_L197
  refine to_c (fun _ => to_s (FW_b f)) (fun c1 => ?_)
  have hn2 : n < 8 := ltn (n := 8) (by omega) c1
  have st : ∀ x : SS, FW z x → TO (fun p : Int32 × SS => FrB z p.2) (lt (nI n + (1 : Int32)) fun x3 => f_X9_turned_L114 F (nI j) (nI i) (nI m) x3 x) := by
    intro x hx
    rw [lt_e, nI_1]; exact hc2 (nI (n + 1), x) hn2 ⟨rfl, hx⟩
  refine to_c (fun _ => st y f) (fun _ => to_c (fun _ => st y f) (fun _ => ?_))
  rw [ceB, ob_s, cellB]
  have hy := RT_b h (FW_b f)
  refine to_b (stB_T hy (show n * 6 + j < 48 by omega)) (fun a x hx => ?_)
  have e : x = y := hx.1
  subst e
  refine to_c (fun _ => st x f) (fun _ => ?_)
  refine to_v (wpT hy (by omega) hi hm _) (fun p hp => ?_)
  have fp := FW_t f hp
  refine to_i (by decide) ri (to_c (fun _ => to_i (by decide) rm (to_c (fun _ => ?_) (fun _ => st p fp))) (fun _ => st p fp))
  refine to_b (iaT rm ri p) (fun a p2 h2 => ?_)
  have h2 : p2 = p := h2
  subst h2
  exact to_c (fun _ => st p2 fp) (fun _ => to_s (FW_b fp))
end ST17
