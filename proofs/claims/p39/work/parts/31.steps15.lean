section ST15
variable {k : Nat} {u v w x : SS}
/-- the reference's places: each below 4 -/
def PL (w : SS) : Prop := ∀ i : Nat, i < 4 → eN 3 (gA w 30 i)
theorem apT (a b : Int64) (v : SS) : TO (fun p : Int64 × SS => p.2 = v) (f_X10_apart a b v) := by
  unfold f_X10_apart
  exact to_c (fun _ => to_s rfl) (fun _ => to_s rfl)
theorem lb101 (h : RT k u v) {c d : Nat} (hc : c < 48) (hd : d < 48) (pl : PL v) : TO (fun p : Int64 × SS => p.2 = v) (f_X10_likenessBy_L101 FU (nI c) (nI d) (0 : Int64) (0 : Int32) v) := by
  refine loopR (fun F (x : Int64 × Int32 × SS) => f_X10_likenessBy_L101 F (nI c) (nI d) x.1 x.2.1 x.2.2) (fun i x => x.2 = (nI i, v)) _ 4 ?_ (F := FU) (x := ((0 : Int64), (0 : Int32), v)) (Nat.lt_trans (by decide) FU_ge) rfl
  intro F x i hi hI hc2
  obtain ⟨b5, b7, w⟩ := x
  obtain ⟨rfl, rfl⟩ := Prod.mk.inj hI
  show TO _ (b_X10_likenessBy_L101 (f_X10_likenessBy_L101 F) (nI c) (nI d) b5 (nI i) w)
  unfold b_X10_likenessBy_L101
  refine to_c (fun _ => to_s rfl) (fun c1 => ?_)
  have hi2 : i < 4 := ltn (n := 4) (by omega) c1
  obtain ⟨n1, a1⟩ := isM_c h hd
  obtain ⟨n2, a2⟩ := isM_c h hc
  obtain ⟨q, hq, e⟩ := pl i hi2
  rw [nI_4x, nI_4x, nI_add, oi_nI (by decide) (show 4 * c + i < 192 by omega), a1, ob_s, oi_nI (by decide) hi2, nI_clamp (show i < 2 ^ 31 by omega), e, nI_add, oi_nI (by decide) (show 4 * d + q < 192 by omega), a2, ob_s]
  refine to_b (apT _ _ w) (fun a y hy => ?_)
  have hy : y = w := hy
  subst hy
  rw [lt_e, lt_e, nI_1]
  exact hc2 (b5 + a, nI (i + 1), y) hi2 rfl
def LK (v w : SS) : Prop := (∀ i : Nat, gI w i = gI v i) ∧ ∀ a : Nat, a ≠ 30 → gA w a = gA v a
theorem LK_r (v : SS) : LK v v := ⟨fun _ => rfl, fun _ _ => rfl⟩
theorem LK_t (h : LK u w) (h2 : LK w x) : LK u x := ⟨fun i => (h2.1 i).trans (h.1 i), fun a ha => (h2.2 a ha).trans (h.2 a ha)⟩
theorem LK_A {i y : Int32} (h : LK u w) : LK u (tA w 30 i y) := ⟨h.1, fun b hb => by rw [tAn hb]; exact h.2 b hb⟩
theorem LK_mk (h : LK v w) : MK v w := ⟨⟨fun i _ => h.1 i, fun a ha => h.2 a (by unfold kMA at ha; omega)⟩, h.2 18 (by decide), h.2 24 (by decide), h.1 16⟩
theorem RT_lk (h : RT k u v) (m : LK v w) : RT k u w := RT_mk h (LK_mk m)
theorem lb30 (h : RT k u v) {c d n : Nat} (hc : c < 48) (hd : d < 48) (hn : n < 2 ^ 31) (m : LK v w) (pl : PL w) : TO (fun p : Int64 × SS => LK v p.2) (f_X10_likenessBy_L30 FU (nI c) (nI d) (nI n) (0 : Int32) w) := by
  refine loopR (fun F (x : Int32 × Int32 × SS) => f_X10_likenessBy_L30 F (nI c) (nI d) x.1 x.2.1 x.2.2) (fun i x => ∃ n : Nat, n < 2 ^ 31 ∧ x.1 = nI n ∧ x.2.1 = nI i ∧ LK v x.2.2 ∧ PL x.2.2) _ 4 ?_ (F := FU) (x := (nI n, (0 : Int32), w)) (Nat.lt_trans (by decide) FU_ge) ⟨n, hn, rfl, rfl, m, pl⟩
  intro F x i hi hI hc2
  obtain ⟨b4, b5, y⟩ := x
  obtain ⟨n, hn, e4, e5, m, pl⟩ := hI
  have e4 : b4 = nI n := e4
  have e5 : b5 = nI i := e5
  have m : LK v y := m
  have pl : PL y := pl
  subst e4
  subst e5
  show TO _ (b_X10_likenessBy_L30 (f_X10_likenessBy_L30 F) (nI c) (nI d) (nI n) (nI i) y)
  unfold b_X10_likenessBy_L30
  refine to_c (fun _ => to_w (lb101 (RT_lk h m) hc hd pl) (fun p q => by rw [q]; exact m)) (fun c1 => ?_)
  have hi2 : i < 4 := ltn (n := 4) (by omega) c1
  have e1 : (4 : Int32) - nI i = nI (4 - i) := pk_sub (a := 4) (by omega)
  have md : n % (4 - i) < 4 - i := Nat.mod_lt _ (by omega)
  rw [e1, if_neg (nI_ne0 (by omega) (by omega)), pk_rem hn (by omega) (by omega), nI_add, lt_e, if_neg (nI_ne0 (by omega) (by omega)), pk_div hn (by omega) (by omega), lt_e, oi_nI (by decide) hi2, lt_e, oi_nI (by decide) (show i + n % (4 - i) < 4 by omega), oi_nI (by decide) hi2, lt_e, oi_nI (by decide) (show i + n % (4 - i) < 4 by omega), lt_e, lt_e, nI_1, nI_clamp (by omega), nI_clamp (by omega)]
  refine hc2 (nI (n / (4 - i)), nI (i + 1), _) hi2 ⟨n / (4 - i), Nat.lt_of_le_of_lt (Nat.div_le_self _ _) hn, rfl, rfl, LK_A (LK_A m), fun j hj => ?_⟩
  show eN 3 (gA (tA (tA y 30 (nI i) (gA y 30 (i + n % (4 - i)))) 30 (nI (i + n % (4 - i))) (gA y 30 i)) 30 j)
  rw [tAe, tAe, nI_clamp (by omega), nI_clamp (by omega)]
  by_cases z1 : j = i + n % (4 - i)
  · rw [z1, upd_s]; exact pl i hi2
  · rw [upd_n _ _ z1]
    by_cases z2 : j = i
    · rw [z2, upd_s]; exact pl _ (by omega)
    · rw [upd_n _ _ z2]; exact pl j hj
theorem lbT (h : RT k u v) {c d n : Nat} (hc : c < 48) (hd : d < 48) (hn : n < 2 ^ 31) : TO (fun p : Int64 × SS => LK v p.2) (f_X10_likenessBy (nI c) (nI d) (nI n) v) := by
  refine loopR (fun F (x : Int32 × SS) => f_X10_likenessBy_L6 F (nI c) (nI d) (nI n) x.1 x.2) (fun i x => x.1 = nI i ∧ LK v x.2 ∧ ∀ j : Nat, j < i → eN 3 (gA x.2 30 j)) _ 4 ?_ (F := FU) (x := ((0 : Int32), v)) (Nat.lt_trans (by decide) FU_ge) ⟨rfl, LK_r v, fun j hj => absurd hj (by omega)⟩
  intro F x i hi hI hc2
  obtain ⟨b5, y⟩ := x
  obtain ⟨e5, m, pl⟩ := hI
  have e5 : b5 = nI i := e5
  have m : LK v y := m
  subst e5
  show TO _ (b_X10_likenessBy_L6 (f_X10_likenessBy_L6 F) (nI c) (nI d) (nI n) (nI i) y)
  unfold b_X10_likenessBy_L6
  by_cases c1 : i = 4
  · subst c1
    rw [if_pos (show (4 : Int32) ≤ nI 4 by decide)]
    exact lb30 h hc hd hn m pl
  · rw [if_neg (show ¬ (4 : Int32) ≤ nI i from nI_ge (b := 4) (by omega) (by decide)), oi_nI (by decide) (show i < 4 by omega), lt_e, lt_e, nI_1]
    refine hc2 (nI (i + 1), _) (by omega) ⟨rfl, LK_A m, fun j hj => ?_⟩
    show eN 3 (gA (tA y 30 (nI i) (nI i)) 30 j)
    rw [tAe, nI_clamp (by omega)]
    by_cases z : j = i
    · rw [z, upd_s]; exact ⟨i, by omega, rfl⟩
    · rw [upd_n _ _ z]; exact pl j (by omega)
theorem cmT (h : RT k u v) {c d : Nat} (hc : c < 48) (hd : d < 48) : TO (fun p : Int32 × SS => LK v p.2) (f_X10_chanceOf (nI c) (nI d) v) := by
  refine loopR (fun F (x : Int32 × Int32 × SS) => f_X10_chanceOf_L5 F (nI c) (nI d) x.1 x.2.1 x.2.2) (fun i x => x.2.1 = nI i ∧ LK v x.2.2) _ 24 ?_ (F := FU) (x := ((0 : Int32), (0 : Int32), v)) (Nat.lt_trans (by decide) FU_ge) ⟨rfl, LK_r v⟩
  intro F x i hi hI hc2
  obtain ⟨b3, b4, y⟩ := x
  obtain ⟨e4, m⟩ := hI
  have e4 : b4 = nI i := e4
  have m : LK v y := m
  subst e4
  show TO _ (b_X10_chanceOf_L5 (f_X10_chanceOf_L5 F) (nI c) (nI d) b3 (nI i) y)
  unfold b_X10_chanceOf_L5 f_X10_chanceOf_L37
  refine to_c (fun _ => to_s m) (fun c1 => ?_)
  have hi2 : i < 24 := ltn (n := 24) (by omega) c1
  refine to_b (lbT (RT_lk h m) hc hd (n := i) (by omega)) (fun a y2 m2 => ?_)
  have m2 : LK v y2 := LK_t m m2
  refine to_b (lbT (RT_lk h m2) hc hd (n := 0) (by omega)) (fun a3 y3 m3 => ?_)
  have m3 : LK v y3 := LK_t m2 m3
  refine to_c (fun _ => ?_) (fun _ => ?_)
  · rw [lt_e, lt_e, nI_1]; exact hc2 (b3 + 0, nI (i + 1), y3) hi2 ⟨rfl, m3⟩
  · rw [lt_e, lt_e, nI_1]; exact hc2 (b3 + 1, nI (i + 1), y3) hi2 ⟨rfl, m3⟩
theorem ajM_T (h : RT k u v) {c d : Nat} (hc : c < 48) (hd : d < 48) : TO (fun p : Int32 × SS => LK v p.2 ∧ bo p.1) (f_X10_areJoined (nI c) (nI d) v) := by
  unfold f_X10_areJoined
  refine to_b (lbT h hc hd (n := 0) (by omega)) (fun a y m => ?_)
  have m : LK v y := m
  refine to_c (fun _ => to_s ⟨m, Or.inr rfl⟩) (fun _ => ?_)
  refine to_b (cmT (RT_lk h m) hc hd) (fun a2 y2 m2 => ?_)
  have m2 : LK v y2 := LK_t m m2
  refine to_c (fun _ => ?_) (fun _ => to_s ⟨m2, Or.inl rfl⟩)
  obtain ⟨n1, a1⟩ := isM_c (RT_lk h m2) hc
  obtain ⟨n2, a3⟩ := isM_c (RT_lk h m2) hd
  rw [a1, ob_s, a3, ob_s]
  exact to_c (fun _ => to_s ⟨m2, Or.inl rfl⟩) (fun _ => to_s ⟨m2, Or.inr rfl⟩)
theorem wtM (h : RT k u v) {L : Nat} (e2 : gI v 2 = nI L) (hL1 : 1 ≤ L) (hL : L ≤ 6) (l a b : Int32) : (f_X10_wrongTwo l a b v = some (-1, v) ∧ ¬ (rg L l ∧ rg 8 a ∧ rg 8 b ∧ a ≠ b)) ∨ (∃ i j m : Nat, i < 8 ∧ m < 8 ∧ j < L ∧ a = nI i ∧ b = nI m ∧ l = nI j ∧ a ≠ b ∧ f_X10_wrongTwo l a b v = some (if gA u 3 (i * 6 + j) = 0 ∨ gA u 3 (m * 6 + j) = 0 then -5 else 0, v)) := by
  unfold f_X10_wrongTwo
  by_cases c1 : rg L l
  · rw [isLot_t e2 hL1 hL c1, ob_s, if_neg nz_1]
    by_cases c2 : rg 8 a
    · rw [isBidder_t c2, ob_s, if_neg nz_1]
      by_cases c3 : rg 8 b
      · rw [isBidder_t c3, ob_s, if_neg nz_1]
        by_cases c4 : a = b
        · rw [if_pos c4]; exact Or.inl ⟨rfl, fun z => z.2.2.2 c4⟩
        · rw [if_neg c4]
          obtain ⟨j, hj, rfl⟩ := c1
          obtain ⟨i, hi, rfl⟩ := c2
          obtain ⟨m, hm, rfl⟩ := c3
          refine Or.inr ⟨i, j, m, hi, hm, hj, rfl, rfl, rfl, c4, ?_⟩
          have q1 := ((h.2.2.2.1 i j hi (by omega)).1).1
          have q2 := ((h.2.2.2.1 m j hm (by omega)).1).1
          rw [cellM, cellM, oi_nI (by decide) (show 8 * j + i < 48 by omega), nI_clamp (by omega), q1, oi_nI (by decide) (show 8 * j + m < 48 by omega), nI_clamp (by omega), q2]
          by_cases d1 : gA u 3 (i * 6 + j) = 0
          · rw [if_pos d1, if_pos (Or.inl d1)]
          · rw [if_neg d1]
            by_cases d2 : gA u 3 (m * 6 + j) = 0
            · rw [if_pos d2, if_pos (Or.inr d2)]
            · rw [if_neg d2, if_neg (fun z => z.elim d1 d2)]
      · rw [isBidder_f c3, ob_s, if_pos rfl]; exact Or.inl ⟨rfl, fun z => c3 z.2.2.1⟩
    · rw [isBidder_f c2, ob_s, if_pos rfl]; exact Or.inl ⟨rfl, fun z => c2 z.2.1⟩
  · rw [isLot_f e2 hL1 hL c1, ob_s, if_pos rfl]; exact Or.inl ⟨rfl, fun z => c1 z.1⟩
theorem likM_T (h : RT k u v) (l a b : Int32) : TO (fun p : Int64 × SS => MK v p.2) (f_X10_likeness l a b v) := by
  obtain ⟨⟨t, L, ht, hL1, hL6, e0, e0m, e2, e2m, e1, e1c⟩, -⟩ := id h
  unfold f_X10_likeness
  rcases wtM h e2m hL1 hL6 l a b with ⟨e, -⟩ | ⟨i, j, m, hi, hm, hj, rfl, rfl, rfl, -, e⟩
  · rw [e, ob_s, if_neg nl_m1]; exact rlM3 rwd1 (MK_r v)
  · rw [e, ob_s]
    by_cases c : gA u 3 (i * 6 + j) = 0 ∨ gA u 3 (m * 6 + j) = 0
    · rw [if_pos c, if_neg nl_m5]; exact rlM3 rwd5 (MK_r v)
    · rw [if_neg c, if_pos le_00, cellM, cellM]
      exact to_b (lbT h (by omega) (by omega) (n := 0) (by omega)) (fun _ _ q => to_s (LK_mk q))
theorem chaM_T (h : RT k u v) (l a b : Int32) : TO (fun p : Int32 × SS => MK v p.2) (f_X10_chance l a b v) := by
  obtain ⟨⟨t, L, ht, hL1, hL6, e0, e0m, e2, e2m, e1, e1c⟩, -⟩ := id h
  unfold f_X10_chance
  rcases wtM h e2m hL1 hL6 l a b with ⟨e, -⟩ | ⟨i, j, m, hi, hm, hj, rfl, rfl, rfl, -, e⟩
  · rw [e, ob_s, if_neg nl_m1]; exact rfM3 rwd1 (MK_r v)
  · rw [e, ob_s]
    by_cases c : gA u 3 (i * 6 + j) = 0 ∨ gA u 3 (m * 6 + j) = 0
    · rw [if_pos c, if_neg nl_m5]; exact rfM3 rwd5 (MK_r v)
    · rw [if_neg c, if_pos le_00, cellM, cellM]
      exact to_b (cmT h (by omega) (by omega)) (fun _ _ q => to_s (LK_mk q))
/-! the ring of the reference -/
def RG (w : SS) : Prop := ∀ i : Nat, i < 8 → eN 7 (gA w 31 i)
def sm8 (f : Nat → Int32) : Nat := nn (f 0) + nn (f 1) + nn (f 2) + nn (f 3) + nn (f 4) + nn (f 5) + nn (f 6) + nn (f 7)
theorem sm8_u {f : Nat → Int32} {x : Int32} : ∀ {j : Nat}, j < 8 → nn x < nn (f j) → sm8 (upd f j x) < sm8 f := by
  intro j hj hx
  unfold sm8
  match j, hj, hx with
  | 0, _, hx => rw [upd_s, upd_n _ _ (by decide), upd_n _ _ (by decide), upd_n _ _ (by decide), upd_n _ _ (by decide), upd_n _ _ (by decide), upd_n _ _ (by decide), upd_n _ _ (by decide)]; omega
  | 1, _, hx => rw [upd_s, upd_n _ _ (by decide), upd_n _ _ (by decide), upd_n _ _ (by decide), upd_n _ _ (by decide), upd_n _ _ (by decide), upd_n _ _ (by decide), upd_n _ _ (by decide)]; omega
  | 2, _, hx => rw [upd_s, upd_n _ _ (by decide), upd_n _ _ (by decide), upd_n _ _ (by decide), upd_n _ _ (by decide), upd_n _ _ (by decide), upd_n _ _ (by decide), upd_n _ _ (by decide)]; omega
  | 3, _, hx => rw [upd_s, upd_n _ _ (by decide), upd_n _ _ (by decide), upd_n _ _ (by decide), upd_n _ _ (by decide), upd_n _ _ (by decide), upd_n _ _ (by decide), upd_n _ _ (by decide)]; omega
  | 4, _, hx => rw [upd_s, upd_n _ _ (by decide), upd_n _ _ (by decide), upd_n _ _ (by decide), upd_n _ _ (by decide), upd_n _ _ (by decide), upd_n _ _ (by decide), upd_n _ _ (by decide)]; omega
  | 5, _, hx => rw [upd_s, upd_n _ _ (by decide), upd_n _ _ (by decide), upd_n _ _ (by decide), upd_n _ _ (by decide), upd_n _ _ (by decide), upd_n _ _ (by decide), upd_n _ _ (by decide)]; omega
  | 6, _, hx => rw [upd_s, upd_n _ _ (by decide), upd_n _ _ (by decide), upd_n _ _ (by decide), upd_n _ _ (by decide), upd_n _ _ (by decide), upd_n _ _ (by decide), upd_n _ _ (by decide)]; omega
  | 7, _, hx => rw [upd_s, upd_n _ _ (by decide), upd_n _ _ (by decide), upd_n _ _ (by decide), upd_n _ _ (by decide), upd_n _ _ (by decide), upd_n _ _ (by decide), upd_n _ _ (by decide)]; omega
theorem sm8_le {w : SS} (r : RG w) : sm8 (gA w 31) ≤ 56 := by
  have a0 := (eN_nn (by decide) (r 0 (by decide))).2
  have a1 := (eN_nn (by decide) (r 1 (by decide))).2
  have a2 := (eN_nn (by decide) (r 2 (by decide))).2
  have a3 := (eN_nn (by decide) (r 3 (by decide))).2
  have a4 := (eN_nn (by decide) (r 4 (by decide))).2
  have a5 := (eN_nn (by decide) (r 5 (by decide))).2
  have a6 := (eN_nn (by decide) (r 6 (by decide))).2
  have a7 := (eN_nn (by decide) (r 7 (by decide))).2
  unfold sm8; omega
/-- within the rounds: the rings only sink -/
def RJ (v : SS) (M : Nat) (b3 : Int32) (w : SS) : Prop := MK v w ∧ RG w ∧ sm8 (gA w 31) ≤ M ∧ (b3 = 0 ∨ sm8 (gA w 31) < M)
theorem RG_u {j : Nat} {x : Int32} (r : RG w) (hj : j < 8) (hx : eN 7 x) : RG (tA w 31 (nI j) x) := by
  intro i hi
  rw [tAe, nI_clamp (by omega)]
  by_cases z : i = j
  · rw [z, upd_s]; exact hx
  · rw [upd_n _ _ z]; exact r i hi
theorem ri84 (h : RT k u v) {l i : Nat} (hl : l < 6) (hi : i < 8) (M : Nat) {P : Int32 × SS → Prop} (k74 : Int32 → Int32 → Int32 → Int32 → SS → Option (Int32 × SS)) (b2 : Int32) (hk : ∀ (b3 : Int32) (w : SS), RJ v M b3 w → TO P (k74 (nI l) b2 b3 (nI (i + 1)) w)) {b3 : Int32} (hj : RJ v M b3 w) : TO P (f_X10_ring_L84 k74 FU (nI l) b2 b3 (nI i) (0 : Int32) w) := by
  refine loopR (fun F (x : Int32 × Int32 × SS) => f_X10_ring_L84 k74 F (nI l) b2 x.1 (nI i) x.2.1 x.2.2) (fun n x => x.2.1 = nI n ∧ RJ v M x.1 x.2.2) _ 8 ?_ (F := FU) (x := (b3, (0 : Int32), w)) (Nat.lt_trans (by decide) FU_ge) ⟨rfl, hj⟩
  intro F x n hn hI hc2
  obtain ⟨b3, b5, y⟩ := x
  obtain ⟨e5, hj⟩ := hI
  have e5 : b5 = nI n := e5
  have hj : RJ v M b3 y := hj
  subst e5
  show TO _ (b_X10_ring_L84 k74 (f_X10_ring_L84 k74 F) (nI l) b2 b3 (nI i) (nI n) y)
  unfold b_X10_ring_L84 f_X10_ring_L132 f_X10_ring_L133 f_X10_ring_L194
  refine to_c (fun _ => ?_) (fun c1 => ?_)
  · rw [lt_e, nI_1]; exact hk b3 y hj
  have hn2 : n < 8 := ltn (n := 8) (by omega) c1
  have st : ∀ (b : Int32) (z : SS), RJ v M b z → TO P (lt (nI n + (1 : Int32)) fun x11 => f_X10_ring_L84 k74 F (nI l) b2 b (nI i) x11 z) := by
    intro b z q
    rw [lt_e, nI_1]; exact hc2 (b, nI (n + 1), z) hn2 ⟨rfl, q⟩
  refine to_c (fun _ => to_c (fun _ => st _ _ hj) (fun z => absurd rfl z)) (fun _ => ?_)
  rw [cellM, cellM]
  refine to_i (by decide) ⟨8 * l + i, by omega, rfl⟩ (to_c (fun _ => to_c (fun _ => st _ _ hj) (fun z => absurd rfl z)) (fun _ => ?_))
  refine to_i (by decide) ⟨8 * l + n, by omega, rfl⟩ (to_c (fun _ => to_c (fun _ => st _ _ hj) (fun z => absurd rfl z)) (fun _ => ?_))
  refine to_c (fun z => absurd z nz_1) (fun _ => ?_)
  rw [oi_nI (by decide) hi, oi_nI (by decide) hn2]
  refine to_c (fun _ => st _ _ hj) (fun c2 => ?_)
  refine to_b (ajM_T (RT_mk h hj.1) (show 8 * l + i < 48 by omega) (show 8 * l + n < 48 by omega)) (fun a z hz => ?_)
  obtain ⟨lk, -⟩ := hz
  have lk : LK y z := lk
  have e31 := lk.2 31 (by decide)
  have hj2 : ∀ b : Int32, RJ v M b y → RJ v M b z := by
    intro b q
    refine ⟨MK_t q.1 (LK_mk lk), fun i hi => ?_, ?_, ?_⟩
    · rw [e31]; exact q.2.1 i hi
    · rw [e31]; exact q.2.2.1
    · rw [e31]; exact q.2.2.2
  refine to_c (fun _ => st _ _ (hj2 b3 hj)) (fun _ => ?_)
  rw [oi_nI (by decide) hi, oi_nI (by decide) hn2, lt_e, nI_clamp (by omega)]
  rw [nI_clamp (by omega), nI_clamp (by omega)] at c2
  obtain ⟨m1, r1, s1, s2⟩ := hj2 b3 hj
  have q1 : gA y 31 i = nI (nn (gA y 31 i)) ∧ nn (gA y 31 i) ≤ 7 := eN_nn (by decide) (hj.2.1 i hi)
  have q2 : gA y 31 n = nI (nn (gA y 31 n)) ∧ nn (gA y 31 n) ≤ 7 := eN_nn (by decide) (hj.2.1 n hn2)
  have lt2 : nn (gA y 31 i) < nn (gA y 31 n) := by
    rw [q1.1, q2.1] at c2
    rcases Nat.lt_or_ge (nn (gA y 31 i)) (nn (gA y 31 n)) with q | q
    · exact q
    · exact absurd (nI_le q (by omega)) c2
  have su : sm8 (gA (tA z 31 (nI n) (gA z 31 i)) 31) < sm8 (gA z 31) := by
    rw [tAe, nI_clamp (by omega)]
    exact sm8_u hn2 (by rw [e31]; exact lt2)
  exact st 1 _ ⟨MK_A (by unfold kMA; omega) m1, RG_u r1 hn2 (r1 i hi), by omega, Or.inr (by omega)⟩
theorem ri74 (h : RT k u v) {l : Nat} (hl : l < 6) (M : Nat) {P : Int32 × SS → Prop} (k65 : Int32 → Int32 → Int32 → SS → Option (Int32 × SS)) (b2 : Int32) (hk : ∀ (b3 : Int32) (w : SS), RJ v M b3 w → TO P (k65 (nI l) b2 b3 w)) (hj : RJ v M 0 w) : TO P (f_X10_ring_L74 k65 FU (nI l) b2 (0 : Int32) (0 : Int32) w) := by
  refine loopR (fun F (x : Int32 × Int32 × SS) => f_X10_ring_L74 k65 F (nI l) b2 x.1 x.2.1 x.2.2) (fun n x => x.2.1 = nI n ∧ RJ v M x.1 x.2.2) _ 8 ?_ (F := FU) (x := ((0 : Int32), (0 : Int32), w)) (Nat.lt_trans (by decide) FU_ge) ⟨rfl, hj⟩
  intro F x n hn hI hc2
  obtain ⟨b3, b5, y⟩ := x
  obtain ⟨e5, hj⟩ := hI
  have e5 : b5 = nI n := e5
  have hj : RJ v M b3 y := hj
  subst e5
  show TO _ (b_X10_ring_L74 k65 (f_X10_ring_L74 k65 F) (nI l) b2 b3 (nI n) y)
  unfold b_X10_ring_L74
  refine to_c (fun _ => hk b3 y hj) (fun c1 => ?_)
  have hn2 : n < 8 := ltn (n := 8) (by omega) c1
  exact ri84 h hl hn2 M _ b2 (fun b z q => hc2 (b, nI (n + 1), z) hn2 ⟨rfl, q⟩) hj
theorem ri65 (h : RT k u v) {l b : Nat} (hl : l < 6) (hb : b < 8) (m : MK v w) (r : RG w) : TO (fun p : Int32 × SS => MK v p.2) (f_X10_ring_L65 FU (nI l) (nI b) (1 : Int32) w) := by
  refine loopR (fun F (x : Int32 × SS) => f_X10_ring_L65 F (nI l) (nI b) x.1 x.2) (fun n x => MK v x.2 ∧ RG x.2 ∧ (x.1 = 0 ∨ sm8 (gA x.2 31) + n ≤ 57)) _ 58 ?_ (F := FU) (x := ((1 : Int32), w)) (Nat.lt_trans (by decide) FU_ge) ⟨m, r, Or.inr (by have := sm8_le r; show sm8 (gA w 31) + 0 ≤ 57; omega)⟩
  intro F x n hn hI hc2
  obtain ⟨b3, y⟩ := x
  obtain ⟨m, r, hs⟩ := hI
  have m : MK v y := m
  have r : RG y := r
  have hs : b3 = 0 ∨ sm8 (gA y 31) + n ≤ 57 := hs
  show TO _ (b_X10_ring_L65 (f_X10_ring_L65 F) (nI l) (nI b) b3 y)
  unfold b_X10_ring_L65
  refine to_c (fun _ => ?_) (fun c => ?_)
  · rw [oi_nI (by decide) hb]; exact to_s m
  · have hs2 : sm8 (gA y 31) + n ≤ 57 := hs.resolve_left c
    refine ri74 (v := v) h hl (sm8 (gA y 31)) _ _ (fun b z q => ?_) ⟨m, r, Nat.le_refl _, Or.inl rfl⟩
    exact hc2 (b, z) (by omega) ⟨q.1, q.2.1, q.2.2.2.elim Or.inl (fun q2 => Or.inr (by show sm8 (gA z 31) + (n + 1) ≤ 57; omega))⟩
theorem riM_T (h : RT k u v) (l b : Int32) : TO (fun p : Int32 × SS => MK v p.2) (f_X10_ring l b v) := by
  obtain ⟨⟨t, L, ht, hL1, hL6, e0, e0m, e2, e2m, e1, e1c⟩, -⟩ := id h
  unfold f_X10_ring f_X10_ring_L15
  rcases cl_c l L with ⟨j, hj, rfl⟩ | hl
  rotate_left
  · rw [isLot_f e2m hL1 hL6 hl, ob_s, if_pos rfl]; exact rfM3 rwd1 (MK_r v)
  rw [isLot_t e2m hL1 hL6 ⟨j, hj, rfl⟩, ob_s, if_neg nz_1]
  rcases in_c b 8 with ⟨i, hi, rfl⟩ | hb
  rotate_left
  · rw [isBidder_f hb, ob_s, if_pos rfl]; exact rfM3 rwd1 (MK_r v)
  rw [isBidder_t ⟨i, hi, rfl⟩, ob_s, if_neg nz_1, cellM, oi_nI (by decide) (show 8 * j + i < 48 by omega)]
  refine to_c (fun _ => rfM3 rwd5 (MK_r v)) (fun _ => ?_)
  refine loopR (fun F (x : Int32 × SS) => f_X10_ring_L44 F (nI j) (nI i) x.1 x.2) (fun n x => x.1 = nI n ∧ MK v x.2 ∧ ∀ m : Nat, m < n → eN 7 (gA x.2 31 m)) _ 8 ?_ (F := FU) (x := ((0 : Int32), v)) (Nat.lt_trans (by decide) FU_ge) ⟨rfl, MK_r v, fun m hm => absurd hm (by omega)⟩
  intro F x n hn hI hc2
  obtain ⟨b3, y⟩ := x
  obtain ⟨e5, m, pl⟩ := hI
  have e5 : b3 = nI n := e5
  have m : MK v y := m
  subst e5
  show TO _ (b_X10_ring_L44 (f_X10_ring_L44 F) (nI j) (nI i) (nI n) y)
  unfold b_X10_ring_L44
  by_cases c1 : n = 8
  · subst c1
    rw [if_pos (show (8 : Int32) ≤ nI 8 by decide)]
    exact ri65 h (by omega) hi m pl
  · rw [if_neg (show ¬ (8 : Int32) ≤ nI n from nI_ge (b := 8) (by omega) (by decide)), oi_nI (by decide) (show n < 8 by omega), lt_e, lt_e, nI_1]
    refine hc2 (nI (n + 1), _) (by omega) ⟨rfl, MK_A (by unfold kMA; omega) m, fun q hq => ?_⟩
    show eN 7 (gA (tA y 31 (nI n) (nI n)) 31 q)
    rw [tAe, nI_clamp (by omega)]
    by_cases z : q = n
    · rw [z, upd_s]; exact ⟨n, by omega, rfl⟩
    · rw [upd_n _ _ z]; exact pl q (by omega)
theorem st_likenessT (h : RT k u v) (l a b : Int32) : QN (RT (k + 1)) (f_X9_likeness l a b u) (f_X10_likeness l a b v) := qn_fr h (likB_T h l a b) (likM_T h l a b)
theorem st_chanceT (h : RT k u v) (l a b : Int32) : QN (RT (k + 1)) (f_X9_chance l a b u) (f_X10_chance l a b v) := qn_fr h (chaB_T h l a b) (chaM_T h l a b)
theorem st_ringT (h : RT k u v) (l b : Int32) : QN (RT (k + 1)) (f_X9_ring l b u) (f_X10_ring l b v) := qn_fr h (riB_T h l b) (riM_T h l b)
end ST15
