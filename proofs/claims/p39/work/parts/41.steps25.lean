section ST25
variable {k n : Nat} {u v v2 w x y : SS}
theorem m1_n {i : Nat} (hi : i < 2 ^ 31) : ¬ nI i = (-1 : Int32) := fun z => absurd (Int32.le_trans (nI_pos' hi) (by rw [z]; exact Int32.le_refl _)) nl_m1
theorem in01 (n : Int32) (v : SS) : TO (fun p : Int32 × SS => p.2 = v) (f_X10_in n (0 : Int32) (1 : Int32) v) := by
  unfold f_X10_in
  exact to_c (fun _ => to_s rfl) (fun _ => to_c (fun _ => to_s rfl) (fun _ => to_s rfl))
/-- who fails not, stands -/
theorem flM (h : RT k u v) {i j L : Nat} (hL : gI v 2 = nI L) (h1 : 1 ≤ L) (h2 : L ≤ 6) (hi : i < 8) (hj : j < L) : (f_X10_fails (nI i) (nI j) v = some (-5, v)) ∨ (f_X10_fails (nI i) (nI j) v = some (0, v) ∧ f_X10_doesStand (nI (8 * j + i)) v = some (1, v)) := by
  rcases Std_c u (i * 6 + j) with s | s
  · exact Or.inr ⟨fl_1 h hL h1 h2 hi hj s, dsM_t h hi (by omega) s⟩
  · exact Or.inl (fl_0 h hL h1 h2 hi hj s)
theorem poM_T (h : RT k u v) (b l n : Int32) : TO (fun p : Int64 × SS => MK v p.2) (f_X10_points b l n v) := by
  obtain ⟨⟨t, L, ht, hL1, hL6, e0, e0m, e2, e2m, e1, e1c⟩, -⟩ := id h
  unfold f_X10_points f_X10_points_L15
  rcases in_c b 8 with ⟨i, hi, rfl⟩ | hb
  rotate_left
  · rw [isBidder_f hb, ob_s, if_pos rfl]; exact rlM3 rwd1 (MK_r v)
  rw [isBidder_t ⟨i, hi, rfl⟩, ob_s, if_neg nz_1]
  rcases cl_c l L with ⟨j, hj, rfl⟩ | hl
  rotate_left
  · rw [isLot_f e2m hL1 hL6 hl, ob_s, if_pos rfl]; exact rlM3 rwd1 (MK_r v)
  rw [isLot_t e2m hL1 hL6 ⟨j, hj, rfl⟩, ob_s, if_neg nz_1]
  refine to_b (in01 n v) (fun a w hw => ?_)
  have hw : w = v := hw
  subst hw
  refine to_c (fun _ => rlM3 rwd2 (MK_r w)) (fun _ => ?_)
  rcases flM h e2m hL1 hL6 hi hj with e | ⟨e, st⟩
  · rw [e, ob_s, if_neg nl_m5]; exact rlM3 rwd5 (MK_r w)
  rw [e, ob_s, if_pos le_00, cellM]
  refine to_b (fpT h (show 8 * j + i < 48 by omega) (d := 0) (by omega) (-1) (m1_n (by omega)) st) (fun a y hy => ?_)
  have my : PK w y := hy.1
  refine to_c (fun _ => rlM3 rwd7 (PK_mk my)) (fun _ => to_c (fun _ => to_s (PK_mk my)) (fun _ => to_s (PK_mk my)))
theorem st_pointsT (h : RT k u v) (b l n : Int32) : QN (RT (k + 1)) (f_X9_points b l n u) (f_X10_points b l n v) := qn_fr h (poB_T h b l n) (poM_T h b l n)
theorem gaM_T (h : RT k u v) (b l n m : Int32) : TO (fun p : Int64 × SS => MK v p.2) (f_X10_gain b l n m v) := by
  obtain ⟨⟨t, L, ht, hL1, hL6, e0, e0m, e2, e2m, e1, e1c⟩, -⟩ := id h
  unfold f_X10_gain f_X10_gain_L15 f_X10_gain_L125
  rcases in_c b 8 with ⟨i, hi, rfl⟩ | hb
  rotate_left
  · rw [isBidder_f hb, ob_s, if_pos rfl]; exact rlM3 rwd1 (MK_r v)
  rw [isBidder_t ⟨i, hi, rfl⟩, ob_s, if_neg nz_1]
  rcases cl_c l L with ⟨j, hj, rfl⟩ | hl
  rotate_left
  · rw [isLot_f e2m hL1 hL6 hl, ob_s, if_pos rfl]; exact rlM3 rwd1 (MK_r v)
  rw [isLot_t e2m hL1 hL6 ⟨j, hj, rfl⟩, ob_s, if_neg nz_1]
  refine to_b (in01 m v) (fun a w hw => ?_)
  have hw : w = v := hw
  subst hw
  refine to_c (fun _ => rlM3 rwd2 (MK_r w)) (fun _ => ?_)
  rcases flM h e2m hL1 hL6 hi hj with e | ⟨e, st⟩
  · rw [e, ob_s, if_neg nl_m5]; exact rlM3 rwd5 (MK_r w)
  rw [e, ob_s, if_pos le_00, cellM]
  have c48 : 8 * j + i < 48 := by omega
  refine to_c (fun c1 => to_c (fun c2 => ?_) (fun _ => rlM3 rwd6 (MK_r w))) (fun _ => rlM3 rwd4 (MK_r w))
  obtain ⟨d, hd, rfl⟩ := nI_of2 (x := n) (M := (99999 : Int32)) (n := 99999) (by decide) (fun z => Int32.lt_irrefl (Int32.lt_of_lt_of_le z (le_tr1 c1))) c2
  refine to_b (fpT h c48 (d := 0) (by omega) (-1) (m1_n (by omega)) st) (fun a y hy => ?_)
  have my : PK w y := hy.1
  have qy : QE (gJ y 0) (gJ y 1) := hy.2
  rw [lt_e, lt_e]
  refine to_c (fun _ => rlM3 rwd7 (PK_mk my)) (fun _ => ?_)
  refine to_b (fpT (RT_mk h (PK_mk my)) c48 hd (-1) (m1_n (by omega)) (st_PK my c48 st)) (fun a2 z hz => ?_)
  have mz : PK w z := PK_t my hz.1
  have qz : QE (gJ z 0) (gJ z 1) := hz.2
  refine to_c (fun _ => rlM3 rwd7 (PK_mk mz)) (fun _ => ?_)
  obtain ⟨z1, m2, t1, t2, z1a, z1b, m2a, m2b⟩ := QE_o qy
  obtain ⟨z3, m4, t3, t4, z3a, z3b, m4a, m4b⟩ := QE_o qz
  rw [t1, t2, t3, t4, lN_mul, ← iL_n m2, ← iL_n m4, iL_m, iL_m, iL_s, lt_e, lt_e]
  have q1 := mulB z3a z3b (show -1000000000 ≤ (m2 : Int) by omega) (show (m2 : Int) ≤ 1000000000 by omega)
  have q2 := mulB z1a z1b (show -1000000000 ≤ (m4 : Int) by omega) (show (m4 : Int) ≤ 1000000000 by omega)
  have p := mulN m4a m4b m2a m2b
  obtain ⟨g, g0, g1, g2, eg⟩ := dvT (z := z3 * m2 - z1 * m4) (m := m4 * m2) (by omega) (by omega) p.1 (by omega) z
  have gn : ¬ lN g = 0 := fun y => by
    have := (pk_lEQ (b := 0) g2 (by decide)).mp y
    omega
  rw [eg, ob_s]
  exact to_c (fun _ => to_n gn (to_s (PK_mk mz))) (fun _ => to_n gn (to_s (PK_mk mz)))
theorem st_gainT (h : RT k u v) (b l n m : Int32) : QN (RT (k + 1)) (f_X9_gain b l n m u) (f_X10_gain b l n m v) := qn_fr h (gaB_T h b l n m) (gaM_T h b l n m)
theorem tuM_T (h : RT k u v) (l a b : Int32) : TO (fun p : Int32 × SS => MK v p.2) (f_X10_turned l a b v) := by
  obtain ⟨⟨t, L, ht, hL1, hL6, e0, e0m, e2, e2m, e1, e1c⟩, -⟩ := id h
  unfold f_X10_turned f_X10_turned_L27 f_X10_turned_L67 f_X10_turned_L96
  rcases cl_c l L with ⟨j, hj, rfl⟩ | hl
  rotate_left
  · rw [isLot_f e2m hL1 hL6 hl, ob_s, if_pos rfl]; exact rfM3 rwd1 (MK_r v)
  rw [isLot_t e2m hL1 hL6 ⟨j, hj, rfl⟩, ob_s, if_neg nz_1]
  rcases in_c a 8 with ⟨i, hi, rfl⟩ | hb
  rotate_left
  · rw [isBidder_f hb, ob_s, if_pos rfl]; exact rfM3 rwd1 (MK_r v)
  rw [isBidder_t ⟨i, hi, rfl⟩, ob_s, if_neg nz_1]
  rcases in_c b 8 with ⟨m, hm, rfl⟩ | hb
  rotate_left
  · rw [isBidder_f hb, ob_s, if_pos rfl]; exact rfM3 rwd1 (MK_r v)
  rw [isBidder_t ⟨m, hm, rfl⟩, ob_s, if_neg nz_1]
  refine to_c (fun _ => rfM3 rwd1 (MK_r v)) (fun _ => ?_)
  rw [cellM, cellM, lt_e, lt_e]
  have ci : 8 * j + i < 48 := by omega
  have cm : 8 * j + m < 48 := by omega
  have stc : ∀ c : Nat, c < 48 → (f_X10_doesStand (nI c) v = some (0, v) ∨ f_X10_doesStand (nI c) v = some (1, v)) := by
    intro c hc
    obtain ⟨⟨r, z⟩, er, e, hr⟩ := stM_T h hc
    have e : z = v := e
    subst e
    rcases hr with hr | hr
    · have hr : r = 0 := hr
      subst hr; exact Or.inl er
    · have hr : r = 1 := hr
      subst hr; exact Or.inr er
  rcases stc _ ci with s1 | s1
  · rw [s1, ob_s, if_pos rfl]; exact rfM3 rwd5 (MK_r v)
  rw [s1, ob_s, if_neg nz_1]
  rcases stc _ cm with s2 | s2
  · rw [s2, ob_s, if_pos rfl]; exact rfM3 rwd5 (MK_r v)
  rw [s2, ob_s, if_neg nz_1]
  refine to_b (fpT h ci (d := 0) (by omega) (-1) (m1_n (by omega)) s1) (fun a y hy => ?_)
  have my : PK v y := hy.1
  refine to_c (fun _ => rfM3 rwd7 (PK_mk my)) (fun _ => ?_)
  refine to_b (fpT (RT_mk h (PK_mk my)) cm (d := 0) (by omega) (-1) (m1_n (by omega)) (st_PK my cm s2)) (fun a2 z hz => ?_)
  have mz : PK v z := PK_t my hz.1
  refine to_c (fun _ => rfM3 rwd7 (PK_mk mz)) (fun _ => ?_)
  refine to_b (iaM (RT_mk h (PK_mk mz)) ci cm (-1) (m1_n (by omega)) (m1_n (by omega)) (st_PK mz ci s1) (st_PK mz cm s2)) (fun a3 q hq => ?_)
  have mq : PK v q := PK_t mz hq.1
  refine to_c (fun _ => rfM3 rwd3 (PK_mk mq)) (fun _ => ?_)
  refine loopR (fun F (x : Int32 × SS) => f_X10_turned_L125 F (nI j) (nI i) (nI m) (nI (8 * j + i)) (nI (8 * j + m)) x.1 x.2) (fun n x => x.1 = nI n ∧ PK v x.2) _ 8 ?_ (F := FU) (x := ((0 : Int32), q)) (Nat.lt_trans (by decide) FU_ge) ⟨rfl, mq⟩
  intro F x n hn hI hc2
  obtain ⟨b6, y⟩ := x
  obtain ⟨e, my⟩ := hI
  have e : b6 = nI n := e
  have my : PK v y := my
  subst e
  show TO _ (b_X10_turned_L125 (f_X10_turned_L125 F) (nI j) (nI i) (nI m) (nI (8 * j + i)) (nI (8 * j + m)) (nI n) y)
  unfold b_X10_turned_L125 f_X10_turned_L162 f_X10_turned_L163 f_X10_turned_L210
  refine to_c (fun _ => to_s (PK_mk my)) (fun c1 => ?_)
  have hn2 : n < 8 := ltn (n := 8) (by omega) c1
  have st : ∀ x : SS, PK v x → TO (fun p : Int32 × SS => MK v p.2) (lt (nI n + (1 : Int32)) fun x36 => f_X10_turned_L125 F (nI j) (nI i) (nI m) (nI (8 * j + i)) (nI (8 * j + m)) x36 x) := by
    intro x hx
    rw [lt_e, nI_1]; exact hc2 (nI (n + 1), x) hn2 ⟨rfl, hx⟩
  refine to_c (fun _ => to_c (fun _ => st y my) (fun z => absurd rfl z)) (fun d1 => to_c (fun _ => to_c (fun _ => st y my) (fun z => absurd rfl z)) (fun d2 => ?_))
  rw [cellM]
  refine to_b (stM_T (RT_mk h (PK_mk my)) (show 8 * j + n < 48 by omega)) (fun r z hz => ?_)
  have ez : z = y := hz.1
  subst ez
  refine to_c (fun _ => to_c (fun _ => st z my) (fun q => absurd rfl q)) (fun _ => to_c (fun q => absurd q nz_1) (fun _ => ?_))
  have n1 : ¬ nI ((8 * j + i) % 8) = nI n := fun q => d1 (by rw [← q, show (8 * j + i) % 8 = i by omega])
  have n2 : ¬ nI ((8 * j + m) % 8) = nI n := fun q => d2 (by rw [← q, show (8 * j + m) % 8 = m by omega])
  refine to_b (fpT (RT_mk h (PK_mk my)) ci (d := 0) (by omega) (nI n) n1 (st_PK my ci s1)) (fun a y2 h2 => ?_)
  have m2 : PK v y2 := PK_t my h2.1
  refine to_c (fun _ => st y2 m2) (fun _ => ?_)
  refine to_b (fpT (RT_mk h (PK_mk m2)) cm (d := 0) (by omega) (nI n) n2 (st_PK m2 cm s2)) (fun a y3 h3 => ?_)
  have m3 : PK v y3 := PK_t m2 h3.1
  refine to_c (fun _ => st y3 m3) (fun _ => ?_)
  refine to_b (iaM (RT_mk h (PK_mk m3)) cm ci (nI n) n2 n1 (st_PK m3 cm s2) (st_PK m3 ci s1)) (fun a3 y4 h4 => ?_)
  have m4 : PK v y4 := PK_t m3 h4.1
  exact to_c (fun _ => st y4 m4) (fun _ => to_s (PK_mk m4))
theorem st_turnedT (h : RT k u v) (l a b : Int32) : QN (RT (k + 1)) (f_X9_turned l a b u) (f_X10_turned l a b v) := qn_fr h (tuB_T h l a b) (tuM_T h l a b)
/-! the order -/
/-- what ranking may write besides: the row -/
def OK (v w : SS) : Prop := (∀ i : Nat, kPI i → i ≠ 15 → gI w i = gI v i) ∧ ∀ a : Nat, kPA a → a ≠ 15 → gA w a = gA v a
theorem OK_r (v : SS) : OK v v := ⟨fun _ _ _ => rfl, fun _ _ _ => rfl⟩
theorem OK_p (h : OK u w) (h2 : PK w x) : OK u x := ⟨fun i hi a => (h2.1 i hi).trans (h.1 i hi a), fun i hi a => (h2.2 i hi).trans (h.2 i hi a)⟩
theorem OK_I {z : Int32} (h : OK u w) : OK u (sI w 15 z) := ⟨fun j hj a => by rw [sIn a]; exact h.1 j hj a, h.2⟩
theorem OK_A {i z : Int32} (h : OK u w) : OK u (tA w 15 i z) := ⟨h.1, fun b hb a => by rw [tAn a]; exact h.2 b hb a⟩
theorem OK_mk (h : OK v w) : MK v w := ⟨⟨fun i hi => h.1 i (by unfold kMI at hi; unfold kPI; omega) (by unfold kMI at hi; omega), fun a ha => h.2 a (by unfold kMA at ha; unfold kPA; omega) (by unfold kMA at ha; omega)⟩, h.2 18 (by unfold kPA; omega) (by decide), h.2 24 (by unfold kPA; omega) (by decide), h.1 16 (by unfold kPI; omega) (by decide)⟩
/-- a row of n: each a bidder who stands in the lot -/
def RWD (v : SS) (l n : Nat) (w : SS) : Prop := gI w 15 = nI n ∧ ∀ j : Nat, j < n → ∃ b : Nat, b < 8 ∧ gA w 15 j = nI b ∧ f_X10_doesStand (nI (8 * l + b)) v = some (1, v)
theorem st_OK (m : OK v w) {c : Nat} (hc : c < 48) (q : f_X10_doesStand (nI c) v = some (1, v)) : f_X10_doesStand (nI c) w = some (1, w) := by
  unfold f_X10_doesStand f_X10_isSilent at q ⊢
  rw [m.2 1 (by unfold kPA; omega) (by decide), m.2 6 (by unfold kPA; omega) (by decide), m.2 7 (by unfold kPA; omega) (by decide), m.1 0 (by unfold kPI; omega) (by decide)]
  rw [oi_nI (by decide) hc] at q ⊢
  by_cases a1 : gA v 1 (nI c).toNatClampNeg = 0
  · rw [if_pos a1] at q; exact absurd (Prod.mk.inj (Option.some.inj q)).1 n01
  rw [if_neg a1] at q ⊢
  rw [oi_nI (by decide) hc] at q ⊢
  by_cases a2 : gA v 6 (nI c).toNatClampNeg = 0
  rotate_left
  · rw [if_neg a2] at q; exact absurd (Prod.mk.inj (Option.some.inj q)).1 n01
  rw [if_pos a2] at q ⊢
  rw [oi_nI (by decide) hc] at q ⊢
  by_cases a3 : gA v 7 (nI c).toNatClampNeg < 0
  · rw [if_pos a3, ob_s, if_pos rfl]
  rw [if_neg a3] at q ⊢
  rw [oi_nI (by decide) hc] at q ⊢
  by_cases a4 : gI v 0 ≤ gA v 7 (nI c).toNatClampNeg
  · rw [if_pos a4, ob_s, if_pos rfl]
  · rw [if_neg a4, ob_s, if_neg nz_1] at q; exact absurd (Prod.mk.inj (Option.some.inj q)).1 n01
theorem st_bk (h : RT k u v) (m : OK v w) {c : Nat} (hc : c < 48) (q : f_X10_doesStand (nI c) w = some (1, w)) : f_X10_doesStand (nI c) v = some (1, v) := by
  refine st_OK (v := w) ⟨fun i hi a => (m.1 i hi a).symm, fun i hi a => (m.2 i hi a).symm⟩ hc q
theorem fo44 (h : RT k u v) {l b n : Nat} (hl : l < 6) (hb : b < 8) (hn : n < 8) {P : SS → Prop} (k7 : Int32 → Int32 → SS → Option SS) (hk : ∀ y, OK v y → RWD v l (n + 1) y → TO P (k7 (nI l) (nI (b + 1)) y)) (hst : f_X10_doesStand (nI (8 * l + b)) v = some (1, v)) (m : OK v w) (r : RWD v l n w) : TO P (f_X10_findOrder_L44 k7 FU (nI l) (nI b) (nI (8 * l + b)) (nI n) w) := by
  refine loopG (fun F (x : Int32 × SS) => f_X10_findOrder_L44 k7 F (nI l) (nI b) (nI (8 * l + b)) x.1 x.2) (fun i x => x.1 = nI (n - i) ∧ OK v x.2 ∧ gI x.2 15 = nI n ∧ ∀ j : Nat, j ≤ n → j ≠ n - i → ∃ b : Nat, b < 8 ∧ gA x.2 15 j = nI b ∧ f_X10_doesStand (nI (8 * l + b)) v = some (1, v)) _ n ?_ n 0 FU (nI n, w) (by omega) (Nat.lt_trans (show n < 1000 by omega) FU_ge) ⟨rfl, m, r.1, fun j h1 h2 => r.2 j (by omega)⟩
  intro F x i hi hI hc2
  obtain ⟨b4, y⟩ := x
  obtain ⟨e, f, e15, rr⟩ := hI
  have e : b4 = nI (n - i) := e
  have f : OK v y := f
  have e15 : gI y 15 = nI n := e15
  have rr : ∀ j : Nat, j ≤ n → j ≠ n - i → ∃ b : Nat, b < 8 ∧ gA y 15 j = nI b ∧ f_X10_doesStand (nI (8 * l + b)) v = some (1, v) := rr
  subst e
  show TO _ (b_X10_findOrder_L44 k7 (f_X10_findOrder_L44 k7 F) (nI l) (nI b) (nI (8 * l + b)) (nI (n - i)) y)
  unfold b_X10_findOrder_L44
  have put : ∀ z : SS, OK v z → gI z 15 = nI n → (∀ j : Nat, j ≤ n → j ≠ n - i → ∃ b : Nat, b < 8 ∧ gA z 15 j = nI b ∧ f_X10_doesStand (nI (8 * l + b)) v = some (1, v)) → TO P (f_X10_findOrder_L94 k7 (nI l) (nI b) (nI (n - i)) z) := by
    intro z fz ez rz
    unfold f_X10_findOrder_L94 f_X10_findOrder_L112
    refine to_i (by decide) ⟨n - i, by omega, rfl⟩ (to_l ?_)
    rw [gI_tA, ez, nI_1, lt_e, lt_e, nI_1]
    refine hk _ (OK_I (OK_A fz)) ⟨sIe, fun j hj => ?_⟩
    rw [gA_sI, tAe, nI_clamp (by omega)]
    by_cases q : j = n - i
    · rw [q, upd_s]; exact ⟨b, hb, rfl, hst⟩
    · rw [upd_n _ _ q]; exact rz j (by omega) q
  refine to_c (fun _ => put y f e15 rr) (fun c => ?_)
  have hp : 0 < n - i := by
    rcases Nat.eq_zero_or_pos (n - i) with q | q
    · rw [q] at c; exact absurd (show nI 0 ≤ (0 : Int32) by decide) c
    · exact q
  have e1 : nI (n - i) - (1 : Int32) = nI (n - i - 1) := pk_sub (a := n - i) (b := 1) (by omega)
  have e2 : nI (n - i) + (-1 : Int32) = nI (n - i - 1) := by
    rw [show n - i = (n - i - 1) + 1 by omega]; exact pk_m1 _
  rw [e1]
  obtain ⟨q, hq, eq, sq⟩ := rr (n - i - 1) (by omega) (by omega)
  refine to_i (by decide) ⟨n - i - 1, by omega, rfl⟩ ?_
  rw [nI_clamp (by omega), eq, cellM]
  have hy := RT_mk h (OK_mk f)
  refine to_b (iaM hy (show 8 * l + b < 48 by omega) (show 8 * l + q < 48 by omega) (-1) (m1_n (by omega)) (m1_n (by omega)) (st_OK f (by omega) hst) (st_OK f (by omega) sq)) (fun a z hz => ?_)
  have mz : PK y z := hz.1
  have fz : OK v z := OK_p f mz
  have ez : gI z 15 = nI n := by rw [mz.1 15 (by unfold kPI; omega)]; exact e15
  have a15 : gA z 15 = gA y 15 := mz.2 15 (by unfold kPA; omega)
  refine to_c (fun _ => put z fz ez (fun j h1 h2 => by rw [a15]; exact rr j h1 h2)) (fun _ => ?_)
  refine to_i (by decide) ⟨n - i - 1, by omega, rfl⟩ (to_i (by decide) ⟨n - i, by omega, rfl⟩ (to_l (to_l ?_)))
  rw [e2, a15, eq]
  refine hc2 (nI (n - i - 1), _) (by omega) ⟨?_, OK_A fz, ez, fun j h1 h2 => ?_⟩
  · show nI (n - i - 1) = nI (n - (i + 1))
    rw [show n - i - 1 = n - (i + 1) by omega]
  · show ∃ b : Nat, b < 8 ∧ gA (tA z 15 (nI (n - i)) (nI q)) 15 j = nI b ∧ f_X10_doesStand (nI (8 * l + b)) v = some (1, v)
    rw [tAe, nI_clamp (by omega)]
    by_cases q2 : j = n - i
    · rw [q2, upd_s]; exact ⟨q, hq, rfl, sq⟩
    · rw [upd_n _ _ q2, a15]; exact rr j h1 q2
theorem foT (h : RT k u v) {l : Nat} (hl : l < 6) : TO (fun y => OK v y ∧ ∃ n : Nat, n ≤ 8 ∧ RWD v l n y) (f_X10_findOrder (nI l) v) := by
  unfold f_X10_findOrder
  refine to_l ?_
  refine loopR (fun F (x : Int32 × SS) => f_X10_findOrder_L7 F (nI l) x.1 x.2) (fun i x => x.1 = nI i ∧ OK v x.2 ∧ ∃ n : Nat, n ≤ i ∧ RWD v l n x.2) _ 8 ?_ (F := FU) (x := ((0 : Int32), sI v 15 0)) (Nat.lt_trans (by decide) FU_ge) ⟨rfl, OK_I (OK_r v), 0, by decide, sIe, fun j hj => absurd hj (by omega)⟩
  intro F x i hi hI hc2
  obtain ⟨b2, y⟩ := x
  obtain ⟨e, f, n, hn, r⟩ := hI
  have e : b2 = nI i := e
  have f : OK v y := f
  have r : RWD v l n y := r
  subst e
  show TO _ (b_X10_findOrder_L7 (f_X10_findOrder_L7 F) (nI l) (nI i) y)
  unfold b_X10_findOrder_L7 f_X10_findOrder_L112
  refine to_c (fun _ => to_s ⟨f, n, by omega, r⟩) (fun c1 => ?_)
  have hi2 : i < 8 := ltn (n := 8) (by omega) c1
  have c48 : 8 * l + i < 48 := by omega
  rw [cellM, lt_e]
  have st : ∀ (m : Nat) (z : SS), m ≤ i + 1 → OK v z → RWD v l m z → TO (fun y => OK v y ∧ ∃ n : Nat, n ≤ 8 ∧ RWD v l n y) (lt (nI i + (1 : Int32)) fun x6 => f_X10_findOrder_L7 F (nI l) x6 z) := by
    intro m z hm fz rz
    rw [lt_e, nI_1]; exact hc2 (nI (i + 1), z) hi2 ⟨rfl, fz, m, hm, rz⟩
  have hy := RT_mk h (OK_mk f)
  obtain ⟨⟨a, z⟩, ea, ez, ha⟩ := stM_T hy c48
  have ez : z = y := ez
  subst ez
  rw [ea, ob_s]
  rcases ha with ha | ha
  · have ha : a = 0 := ha
    subst ha
    rw [if_pos rfl]; exact st n z (by omega) f r
  · have ha : a = 1 := ha
    subst ha
    rw [if_neg nz_1]
    refine to_b (fpT hy c48 (d := 0) (by omega) (-1) (m1_n (by omega)) ea) (fun a2 q hq => ?_)
    have mq : PK z q := hq.1
    have fq : OK v q := OK_p f mq
    have rq : RWD v l n q := ⟨by rw [mq.1 15 (by unfold kPI; omega)]; exact r.1, fun j hj => by rw [mq.2 15 (by unfold kPA; omega)]; exact r.2 j hj⟩
    refine to_c (fun _ => st n q (by omega) fq rq) (fun _ => ?_)
    rw [rq.1, lt_e]
    refine fo44 h hl hi2 (by omega) _ (fun x hx rx => ?_) (st_bk h f c48 ea) fq rq
    exact hc2 (nI (i + 1), x) hi2 ⟨rfl, hx, n + 1, by omega, rx⟩
theorem orM_T (h : RT k u v) (l n : Int32) : TO (fun p : Int32 × SS => MK v p.2) (f_X10_order l n v) := by
  obtain ⟨⟨t, L, ht, hL1, hL6, e0, e0m, e2, e2m, e1, e1c⟩, -⟩ := id h
  unfold f_X10_order
  rcases cl_c l L with ⟨j, hj, rfl⟩ | hl
  rotate_left
  · rw [isLot_f e2m hL1 hL6 hl, ob_s, if_pos rfl]; exact rfM3 rwd1 (MK_r v)
  rw [isLot_t e2m hL1 hL6 ⟨j, hj, rfl⟩, ob_s, if_neg nz_1]
  refine to_v (foT h (show j < 6 by omega)) (fun y hy => ?_)
  obtain ⟨f, m, hm, r⟩ := hy
  rw [r.1]
  rcases in_c n m with ⟨i, hi, rfl⟩ | hn
  · rw [inM_t (by omega) hi, ob_s, if_neg nz_1]
    exact to_i (by decide) ⟨i, by omega, rfl⟩ (to_s (OK_mk f))
  · rw [inM_f (by omega) hn, ob_s, if_pos rfl]; exact to_s (OK_mk f)
theorem st_orderT (h : RT k u v) (l n : Int32) : QN (RT (k + 1)) (f_X9_order l n u) (f_X10_order l n v) := qn_fr h (orB_T h l n) (orM_T h l n)
/-- the reference's formula -/
def FMM (v w : SS) : Prop := (∀ i : Nat, kMI i → i ≠ 6 → i ≠ 7 → gI w i = gI v i) ∧ (∀ a : Nat, kMA a → a ≠ 13 → gA w a = gA v a) ∧ gA w 18 = gA v 18 ∧ gA w 24 = gA v 24 ∧ (gI w 16 = gI v 16 ∨ gI w 16 = 0) ∧ gI w 6 = 0 ∧ ∃ m : Nat, m ≤ 80 ∧ gI w 7 = nI m ∧ GDT (gA w 13) m
theorem RT_fm {u2 v2 : SS} (h : RT k u v) (fb : FMB u u2) (fm : FMM v v2) : RT (k + 1) u2 v2 := by
  obtain ⟨h1, h2, h3, h4, h5, h6, h7, h8, h9, h10, h11, h12, h13, h14, h15, h16, h17, -, -⟩ := h
  obtain ⟨fI, fA, e5, d, hd, e4⟩ := fb
  obtain ⟨fJ, fB, b18, b24, j16, e6, m, hm, e7, gd⟩ := fm
  have I0 := fI 0 (by unfold kBI; omega) (by decide) (by decide)
  have I1 := fI 1 (by unfold kBI; omega) (by decide) (by decide)
  have I2 := fI 2 (by unfold kBI; omega) (by decide) (by decide)
  have I15 := fI 15 (by unfold kBI; omega) (by decide) (by decide)
  have I16 := fI 16 (by unfold kBI; omega) (by decide) (by decide)
  have I17 := fI 17 (by unfold kBI; omega) (by decide) (by decide)
  have I18 := fI 18 (by unfold kBI; omega) (by decide) (by decide)
  have I19 := fI 19 (by unfold kBI; omega) (by decide) (by decide)
  have I20 := fI 20 (by unfold kBI; omega) (by decide) (by decide)
  have I21 := fI 21 (by unfold kBI; omega) (by decide) (by decide)
  have I22 := fI 22 (by unfold kBI; omega) (by decide) (by decide)
  have I23 := fI 23 (by unfold kBI; omega) (by decide) (by decide)
  have I24 := fI 24 (by unfold kBI; omega) (by decide) (by decide)
  have A1 := fA 1 (by unfold kBA; omega) (by decide)
  have A2 := fA 2 (by unfold kBA; omega) (by decide)
  have A3 := fA 3 (by unfold kBA; omega) (by decide)
  have A4 := fA 4 (by unfold kBA; omega) (by decide)
  have A5 := fA 5 (by unfold kBA; omega) (by decide)
  have A6 := fA 6 (by unfold kBA; omega) (by decide)
  have A7 := fA 7 (by unfold kBA; omega) (by decide)
  have A8 := fA 8 (by unfold kBA; omega) (by decide)
  have A9 := fA 9 (by unfold kBA; omega) (by decide)
  have A10 := fA 10 (by unfold kBA; omega) (by decide)
  have A11 := fA 11 (by unfold kBA; omega) (by decide)
  have A14 := fA 14 (by unfold kBA; omega) (by decide)
  have A20 := fA 20 (by unfold kBA; omega) (by decide)
  have A22 := fA 22 (by unfold kBA; omega) (by decide)
  have A26 := fA 26 (by unfold kBA; omega) (by decide)
  have A27 := fA 27 (by unfold kBA; omega) (by decide)
  have A28 := fA 28 (by unfold kBA; omega) (by decide)
  have A29 := fA 29 (by unfold kBA; omega) (by decide)
  have A31 := fA 31 (by unfold kBA; omega) (by decide)
  have A32 := fA 32 (by unfold kBA; omega) (by decide)
  have J0 := fJ 0 (by unfold kMI; omega) (by decide) (by decide)
  have J1 := fJ 1 (by unfold kMI; omega) (by decide) (by decide)
  have J2 := fJ 2 (by unfold kMI; omega) (by decide) (by decide)
  have J22 := fJ 22 (by unfold kMI; omega) (by decide) (by decide)
  have J23 := fJ 23 (by unfold kMI; omega) (by decide) (by decide)
  have J24 := fJ 24 (by unfold kMI; omega) (by decide) (by decide)
  have J25 := fJ 25 (by unfold kMI; omega) (by decide) (by decide)
  have J26 := fJ 26 (by unfold kMI; omega) (by decide) (by decide)
  have J27 := fJ 27 (by unfold kMI; omega) (by decide) (by decide)
  have J28 := fJ 28 (by unfold kMI; omega) (by decide) (by decide)
  have J29 := fJ 29 (by unfold kMI; omega) (by decide) (by decide)
  have J30 := fJ 30 (by unfold kMI; omega) (by decide) (by decide)
  have B0 := fB 0 (by unfold kMA; omega) (by decide)
  have B1 := fB 1 (by unfold kMA; omega) (by decide)
  have B2 := fB 2 (by unfold kMA; omega) (by decide)
  have B3 := fB 3 (by unfold kMA; omega) (by decide)
  have B4 := fB 4 (by unfold kMA; omega) (by decide)
  have B5 := fB 5 (by unfold kMA; omega) (by decide)
  have B6 := fB 6 (by unfold kMA; omega) (by decide)
  have B7 := fB 7 (by unfold kMA; omega) (by decide)
  have B8 := fB 8 (by unfold kMA; omega) (by decide)
  have B9 := fB 9 (by unfold kMA; omega) (by decide)
  have B10 := fB 10 (by unfold kMA; omega) (by decide)
  have B12 := fB 12 (by unfold kMA; omega) (by decide)
  have B16 := fB 16 (by unfold kMA; omega) (by decide)
  have B17 := fB 17 (by unfold kMA; omega) (by decide)
  have B27 := fB 27 (by unfold kMA; omega) (by decide)
  have B28 := fB 28 (by unfold kMA; omega) (by decide)
  have B29 := fB 29 (by unfold kMA; omega) (by decide)
  have B32 := fB 32 (by unfold kMA; omega) (by decide)
  have B33 := fB 33 (by unfold kMA; omega) (by decide)
  have hop : Opn u2 ↔ Opn u := by unfold Opn; rw [I0, I1]
  refine ⟨?_, ?_, ?_, ?_, ?_, ?_, ?_, ?_, ⟨0, by omega, e5, e6⟩, ⟨d, m, hd, hm, e4, e7, gd⟩, ?_, ?_, ?_, ?_, ?_, ?_, ?_, trivial, fun _ => trivial⟩
  · unfold Rtm; rw [I0, I1, I2, J0, J1, J2]; exact h1
  · unfold Rst; rw [A1, B8]; exact h2
  · unfold Rrt; rw [A2, B0]; exact h3
  · unfold Rbd; rw [A3, A6, A7, A8, A9, B1, B2, B3, B4, B5]; exact h4
  · unfold Rou; rw [A3, A4, B6]; exact fun b l hb hl => ⟨(h5 b l hb hl).1, (h5 b l hb hl).2.1, fun z => (h5 b l hb hl).2.2 (z.elim (fun z => Or.inl (hop.mp z)) Or.inr)⟩
  · unfold Ras; rw [A3, A5, B7]; exact h6
  · unfold Rno; rw [A10, B9]; exact h7
  · unfold Rba; rw [A11, B10]; exact h8
  · unfold Rmo; rw [A20, A22, B16, B17]; exact h11
  · unfold Raw; rw [I0, I1, I15, I16, I17, I18, I19, A26, A27, A28, A29, J22, J23, J24, J25, B27, B28, B29]; exact Raw_k h12
  · unfold Rfw; rw [I20, I21, I22, I23, I24, A31, A32, J26, J27, J28, J29, J30, B32, B33]; exact h13
  · rw [b18]; exact h14
  · rw [b24]; exact h15
  · rcases j16 with q | q
    · rw [q]; exact h16
    · rw [q]; exact Or.inl rfl
  · intro z
    rcases j16 with q | q
    · rw [q]; exact h17 (hop.mp z)
    · exact q
theorem fm69 {m : Nat} (hm : m ≤ 80) : TO (fun p : Int32 × SS => (∀ i : Nat, i ≠ 16 → gI p.2 i = gI w i) ∧ (∀ a : Nat, a ≠ 13 → gA p.2 a = gA w a) ∧ gI p.2 16 = 0 ∧ ∀ j : Nat, j < m → gA p.2 13 j = gA w 12 j) (f_X10_formula_L69 FU (nI m) (0 : Int32) w) := by
  refine loopR (fun F (x : Int32 × SS) => f_X10_formula_L69 F (nI m) x.1 x.2) (fun i x => x.1 = nI i ∧ (∀ j : Nat, gI x.2 j = gI w j) ∧ (∀ a : Nat, a ≠ 13 → gA x.2 a = gA w a) ∧ ∀ j : Nat, j < i → gA x.2 13 j = gA w 12 j) _ m ?_ (F := FU) (x := ((0 : Int32), w)) (Nat.lt_trans (show m < 1000 by omega) FU_ge) ⟨rfl, fun _ => rfl, fun _ _ => rfl, fun j hj => absurd hj (by omega)⟩
  intro F x i hi hI hc2
  obtain ⟨b2, y⟩ := x
  obtain ⟨e, g1, g2, g3⟩ := hI
  have e : b2 = nI i := e
  have g1 : ∀ j : Nat, gI y j = gI w j := g1
  have g2 : ∀ a : Nat, a ≠ 13 → gA y a = gA w a := g2
  have g3 : ∀ j : Nat, j < i → gA y 13 j = gA w 12 j := g3
  subst e
  show TO _ (b_X10_formula_L69 (f_X10_formula_L69 F) (nI m) (nI i) y)
  unfold b_X10_formula_L69
  by_cases c : i = m
  · subst c
    rw [if_pos (nI_le (Nat.le_refl _) (by omega))]
    refine to_l (to_s ⟨fun j hj => ?_, g2, sIe, g3⟩)
    show gI (sI y 16 0) j = _
    rw [sIn hj]; exact g1 j
  · rw [if_neg (nI_ge (show i < m by omega) (by omega)), oi_nI (by decide) (show i < 80 by omega), oi_nI (by decide) (show i < 80 by omega), nI_clamp (by omega), lt_e, lt_e, nI_1]
    refine hc2 (nI (i + 1), _) (by omega) ⟨rfl, g1, fun a ha => ?_, fun j hj => ?_⟩
    · show gA (tA y 13 (nI i) (gA y 12 i)) a = _
      rw [tAn ha]; exact g2 a ha
    · show gA (tA y 13 (nI i) (gA y 12 i)) 13 j = _
      rw [tAe, nI_clamp (by omega)]
      by_cases z : j = i
      · rw [z, upd_s, g2 12 (by decide)]
      · rw [upd_n _ _ z]; exact g3 j (by omega)
theorem NMI_11 (h : ∀ j : Nat, j < 7 → gL w 0 j = 1 ∧ gL w 1 j = 1) : NMI w := by
  intro j hj
  rw [(h j hj).1, (h j hj).2]
  exact ⟨⟨by decide, by decide⟩, by decide, by decide⟩
theorem foM_T (h : RT k u v) : TO (fun p : Int32 × SS => FMM v p.2) (f_X10_formula v) := by
  obtain ⟨n, hn, -, e6⟩ := h.2.2.2.2.2.2.2.2.1
  obtain ⟨m4, m7, hm4, hm7, -, e7, gd0⟩ := h.2.2.2.2.2.2.2.2.2.1
  refine loopR (fun F (x : Int32 × SS) => f_X10_formula_L2 F x.1 x.2) (fun i x => x.1 = nI i ∧ (∀ j : Nat, gI x.2 j = gI v j) ∧ (∀ a : Nat, gA x.2 a = gA v a) ∧ ∀ j : Nat, j < i → gL x.2 0 j = 1 ∧ gL x.2 1 j = 1) _ 7 ?_ (F := FU) (x := ((0 : Int32), v)) (Nat.lt_trans (by decide) FU_ge) ⟨rfl, fun _ => rfl, fun _ => rfl, fun j hj => absurd hj (by omega)⟩
  intro F x i hi hI hc2
  obtain ⟨b2, y⟩ := x
  obtain ⟨e, g1, g2, g3⟩ := hI
  have e : b2 = nI i := e
  have g1 : ∀ j : Nat, gI y j = gI v j := g1
  have g2 : ∀ a : Nat, gA y a = gA v a := g2
  have g3 : ∀ j : Nat, j < i → gL y 0 j = 1 ∧ gL y 1 j = 1 := g3
  subst e
  show TO _ (b_X10_formula_L2 (f_X10_formula_L2 F) (nI i) y)
  unfold b_X10_formula_L2
  by_cases c : i = 7
  · subst c
    rw [if_pos (show (7 : Int32) ≤ nI 7 by decide), g1 6, e6, lt_e, lt_e]
    have nm : NMI (sI y 6 0) := NMI_11 g3
    obtain ⟨z, ez, mz⟩ := wtM13 hn (PK_r (sI y 6 0)) nm
    rw [ez, ov_s]
    have zI : ∀ i : Nat, kPI i → i ≠ 6 → gI z i = gI v i := fun i hi h6 => by rw [mz.1 i hi, sIn h6]; exact g1 i
    have zA : ∀ a : Nat, a ≠ 14 → gA z a = gA v a := fun a ha => by rw [mz.2 a (by unfold kPA; omega)]; exact g2 a
    have z6 : gI z 6 = 0 := by rw [mz.1 6 (by unfold kPI; omega), sIe]
    refine to_c (fun c12 => ?_) (fun c12 => to_s ?_)
    · rw [lt_e]
      refine to_w (fm69 (w := sI z 7 (nI n)) hn) (fun p hp => ?_)
      obtain ⟨p1, p2, p16, p13⟩ := hp
      refine ⟨fun i hi h6 h7 => ?_, fun a ha h13 => ?_, ?_, ?_, Or.inr p16, ?_, n, hn, ?_, ?_⟩
      · rw [p1 i (by unfold kMI at hi; omega), sIn h7]; exact zI i (by unfold kMI at hi; unfold kPI; omega) h6
      · rw [p2 a h13, gA_sI]; exact zA a (by unfold kMA at ha; omega)
      · rw [p2 18 (by decide), gA_sI]; exact zA 18 (by decide)
      · rw [p2 24 (by decide), gA_sI]; exact zA 24 (by decide)
      · rw [p1 6 (by decide), sIn (by decide)]; exact z6
      · rw [p1 7 (by decide), sIe]
      · intro w2 nw hw
        obtain ⟨r, s, er, es, e2⟩ := wt2 (w := sI y 6 0) (y := w2) hn nm nw (fun j hj => by rw [hw j hj, p13 j hj, gA_sI, mz.2 12 (by unfold kPA; omega)])
        rw [ez] at er
        have er : z = r := Option.some.inj er
        subst er
        rcases e2 with ⟨q, -⟩ | ⟨-, q2, -, q3⟩
        · exact absurd (c12.symm.trans q) n01
        · exact ⟨s, es, q2, q3⟩
    · refine ⟨fun i hi h6 h7 => zI i (by unfold kMI at hi; unfold kPI; omega) h6, fun a ha h13 => zA a (by unfold kMA at ha; omega), zA 18 (by decide), zA 24 (by decide), Or.inl (zI 16 (by unfold kPI; omega) (by decide)), z6, m7, hm7, ?_, ?_⟩
      · show gI z 7 = nI m7
        rw [zI 7 (by unfold kPI; omega) (by decide)]; exact e7
      · show GDT (gA z 13) m7
        rw [zA 13 (by decide)]; exact gd0
  · have hi2 : i < 7 := by omega
    rw [if_neg (show ¬ (7 : Int32) ≤ nI i from nI_ge (b := 7) hi2 (by decide))]
    refine to_i (by decide) ⟨i, hi2, rfl⟩ (to_l (to_i (by decide) ⟨i, hi2, rfl⟩ (to_l ?_)))
    rw [lt_e, nI_1]
    refine hc2 (nI (i + 1), _) hi2 ⟨rfl, g1, g2, fun j hj => ?_⟩
    show gL (tL (tL y 0 (nI i) 1) 1 (nI i) 1) 0 j = 1 ∧ gL (tL (tL y 0 (nI i) 1) 1 (nI i) 1) 1 j = 1
    rw [tLn (show (0 : Nat) ≠ 1 by decide), tLe, tLe, tLn (show (1 : Nat) ≠ 0 by decide), nI_clamp (by omega)]
    by_cases z : j = i
    · rw [z, updL_s, updL_s]; exact ⟨rfl, rfl⟩
    · rw [updL_n _ _ z, updL_n _ _ z]; exact g3 j (by omega)
theorem st_formulaT (h : RT k u v) : QN (RT (k + 1)) (f_X9_formula u) (f_X10_formula v) := by
  obtain ⟨⟨r, u2⟩, e, f⟩ := foB_T h
  obtain ⟨⟨r2, v2⟩, e2, f2⟩ := foM_T h
  exact ⟨r, u2, r2, v2, e, e2, RT_fm h f f2, trivial⟩
/-- the text 'q' is read to its end -/
theorem GDT_q (b : Nat → Int32) : GDT (upd b 0 113) 1 := by
  intro w nm hw
  have hb : gA w 13 0 = 113 := by rw [hw 0 (by decide), upd_s]
  have h0 : WX 1 0 0 0 0 w (sI (sI (sI (sI (sI (sI (sI w 8 0) 9 0) 10 0) 11 0) 14 0) 12 0) 13 0) := ⟨PK_I (by unfold kPI; omega) (PK_I (by unfold kPI; omega) (PK_I (by unfold kPI; omega) (PK_I (by unfold kPI; omega) (PK_I (by unfold kPI; omega) (PK_I (by unfold kPI; omega) (PK_I (by unfold kPI; omega) (PK_r w))))))), nm, Or.inl rfl, rfl, rfl, rfl, rfl, by omega, by omega, fun j hj => absurd hj (by omega), rfl⟩
  have hU : ∀ y : SS, gA y 13 = gA w 13 → WX 1 0 0 0 0 w y → ∃ z : SS, f_X10_readUnit_14 (nI 1) y = some (0, z) ∧ WX 1 1 1 0 1 w z := by
    intro y ey hy
    unfold f_X10_readUnit_14
    have e11 : gI y 11 = nI 0 := hy.2.2.2.2.2.2.1
    have eb : f_X10_byteAt_14 (nI 1) (nI 0) y = some (113, y) := by
      unfold f_X10_byteAt_14
      rw [if_neg (show ¬ nI 1 ≤ nI 0 by decide), oi_nI (by decide) (by decide), nI_clamp (by decide), ey, hb]
    have en : ∀ q : SS, f_X10_nameOf 113 q = some (4, q) := by
      intro q
      unfold f_X10_nameOf
      rw [if_neg (by decide), if_neg (by decide), if_neg (by decide), if_neg (by decide), if_neg (by decide), if_neg (by decide), if_neg (by decide), if_neg (by decide), if_neg (by decide), if_neg (by decide), if_neg (by decide), if_neg (by decide), if_neg (by decide), if_neg (by decide), if_neg (by decide), if_neg (by decide), if_neg (by decide), if_pos rfl]
    rw [e11, eb, ob_s, if_neg (by decide), if_neg (by decide), if_neg (by decide), en, ob_s, if_neg (by decide), en, ob_s, oi_in (by decide) (show rg 7 (4 : Int32) from ⟨4, by decide, by decide⟩), en, ob_s, oi_in (by decide) (show rg 7 (4 : Int32) from ⟨4, by decide, by decide⟩)]
    obtain ⟨z, ez, hz⟩ := phM (n := 1) (by decide) hy (hy.2.1 4 (by decide))
    have ez : f_X10_push (gL y 0 (4 : Int32).toNatClampNeg) (gL y 1 (4 : Int32).toNatClampNeg) y = some z := ez
    rw [ez, ov_s, hz.2.2.2.2.2.2.1, nI_1, lt_e]
    exact ⟨_, rfl, WX_at (by omega) (by omega) hz⟩
  unfold f_X10_workText_14
  simp only [lt_e]
  obtain ⟨F, hF⟩ : ∃ F, FU = F + 2 := ⟨FU - 2, by have := FU_ge; omega⟩
  rw [hF]
  show ∃ y : SS, b_X10_workText_14_L37 (f_X10_workText_14_L37 (F + 1)) (nI 1) (1 : Int32) (sI (sI (sI (sI (sI (sI (sI w 8 0) 9 0) 10 0) 11 0) 14 0) 12 0) 13 0) = some y ∧ gI y 12 = 0 ∧ QE (gL y 2 0) (gL y 3 0)
  obtain ⟨z, ez, hz⟩ := hU (sI (sI (sI (sI (sI (sI (sI w 8 0) 9 0) 10 0) 11 0) 14 0) 12 0) 13 0) rfl h0
  unfold b_X10_workText_14_L37 f_X10_workText_14_L56 f_X10_workText_14_L79
  rw [h0.2.2.2.1, if_pos rfl, if_neg nz_1, if_neg nz_1, ez, ob_s]
  show ∃ y : SS, b_X10_workText_14_L37 (f_X10_workText_14_L37 F) (nI 1) (0 : Int32) z = some y ∧ gI y 12 = 0 ∧ QE (gL y 2 0) (gL y 3 0)
  unfold b_X10_workText_14_L37 f_X10_workText_14_L83
  rw [hz.2.2.2.1, if_pos rfl, if_pos rfl, hz.2.2.2.2.2.2.1, if_pos (show nI 1 ≤ nI 1 by decide), if_pos rfl]
  obtain ⟨q, eq, h2, s2, hs2, hq⟩ := seM (n := 1) (by decide) (1 : Int32) hz
  have s0 : s2 = 0 := by omega
  subst s0
  rw [eq, ov_s, hq.2.2.2.2.2.1, if_pos (show nI 0 ≤ (0 : Int32) by decide), lt_e]
  have hp : 0 < h2 := by
    have := hq.2.2.2.2.2.2.2.2.2.2
    omega
  exact ⟨_, rfl, sIe, hq.2.2.2.2.2.2.2.2.2.1 0 hp⟩
end ST25
