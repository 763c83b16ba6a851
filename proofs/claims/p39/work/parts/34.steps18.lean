section ST18
variable {k : Nat} {u v w x : SS}
theorem fi48 (a : Int32) (f : FrB u w) : TO (FrB u) (f_J7_fill_53178_38 a w) := by
  refine loopR (fun F (x : Int32 × SS) => f_J7_fill_53178_38_L5 F a x.1 (48 : Int32) x.2) (fun i x => x.1 = nI i ∧ FrB u x.2) _ 48 ?_ (F := FU) (x := ((0 : Int32), w)) (Nat.lt_trans (by decide) FU_ge) ⟨rfl, f⟩
  intro F x i hi hI hc2
  obtain ⟨b3, y⟩ := x
  obtain ⟨e, f⟩ := hI
  have e : b3 = nI i := e
  have f : FrB u y := f
  subst e
  show TO _ (b_J7_fill_53178_38_L5 (f_J7_fill_53178_38_L5 F) a (nI i) (48 : Int32) y)
  unfold b_J7_fill_53178_38_L5
  refine to_c (fun _ => to_s f) (fun c1 => ?_)
  have hi2 : i < 48 := ltn (n := 48) (by omega) c1
  refine to_i (by decide) ⟨i, hi2, rfl⟩ (to_l ?_)
  rw [lt_e, nI_1]
  exact hc2 (nI (i + 1), _) hi2 ⟨rfl, FrB_A (by unfold kBA; omega) f⟩
theorem fi64 (a : Int64) (f : FrB u w) : TO (FrB u) (f_J7_fill_d0a16_40 a w) := by
  refine loopR (fun F (x : Int32 × SS) => f_J7_fill_d0a16_40_L6 F a x.1 (64 : Int32) x.2) (fun i x => x.1 = nI i ∧ FrB u x.2) _ 64 ?_ (F := FU) (x := ((0 : Int32), w)) (Nat.lt_trans (by decide) FU_ge) ⟨rfl, f⟩
  intro F x i hi hI hc2
  obtain ⟨b3, y⟩ := x
  obtain ⟨e, f⟩ := hI
  have e : b3 = nI i := e
  have f : FrB u y := f
  subst e
  show TO _ (b_J7_fill_d0a16_40_L6 (f_J7_fill_d0a16_40_L6 F) a (nI i) (64 : Int32) y)
  unfold b_J7_fill_d0a16_40_L6
  refine to_c (fun _ => to_s f) (fun c1 => ?_)
  have hi2 : i < 64 := ltn (n := 64) (by omega) c1
  refine to_i (by decide) ⟨i, hi2, rfl⟩ (to_l ?_)
  rw [lt_e, nI_1]
  exact hc2 (nI (i + 1), _) hi2 ⟨rfl, FrB_L f⟩
theorem and20 (a : Int64) : ∃ q : Nat, q < 1048576 ∧ (a &&& (1048575 : Int64)).toInt32 = nI q := by
  refine ⟨a.toBitVec.toNat % 1048576, Nat.mod_lt _ (by decide), ?_⟩
  have e : a &&& (1048575 : Int64) = lN (a.toBitVec.toNat % 1048576) := by
    refine Int64.toBitVec_inj.mp (BitVec.eq_of_toNat_eq ?_)
    show (a.toBitVec &&& (1048575 : Int64).toBitVec).toNat = (BitVec.ofNat 64 (a.toBitVec.toNat % 1048576)).toNat
    rw [BitVec.toNat_ofNat, Nat.mod_eq_of_lt (Nat.lt_trans (Nat.mod_lt a.toBitVec.toNat (show 0 < 1048576 by decide)) (by decide)), BitVec.toNat_and]
    exact Nat.and_two_pow_sub_one_eq_mod _ 20
  rw [e, lN_i]
/-- winners: each none or a bidder -/
def WN (w : SS) : Prop := ∀ l : Nat, l < 6 → nob (gA w 21 l)
theorem keT (a : Int64) (b : Int32) (f : FrB u w) : TO (fun y => FrB u y ∧ WN y) (f_X8_keep a b w) := by
  unfold f_X8_keep
  obtain ⟨q, hq, eq⟩ := and20 a
  rw [lt_e, lt_e, eq, lt_e]
  refine loopR (fun F (x : Int32 × Int32 × SS) => f_X8_keep_L35 F b x.1 x.2.1 x.2.2) (fun i x => (∃ q : Nat, q < 1048576 ∧ x.1 = nI q) ∧ ((i ≤ 5 ∧ x.2.1 = nI (5 - i)) ∨ (i = 6 ∧ x.2.1 = -1)) ∧ FrB u x.2.2 ∧ ∀ l : Nat, 6 - i ≤ l → l < 6 → nob (gA x.2.2 21 l)) _ 6 ?_ (F := FU) (x := (nI q, (5 : Int32), sI (sI w 13 (b - (a >>> ((56 : Int32).toInt64 &&& 63)).toInt32)) 14 ((a >>> ((26 : Int32).toInt64 &&& 63) &&& 1073741823).toInt32))) (Nat.lt_trans (by decide) FU_ge) ⟨⟨q, hq, rfl⟩, Or.inl ⟨by decide, rfl⟩, FrB_I (by unfold kBI; omega) (FrB_I (by unfold kBI; omega) f), fun l h1 h2 => absurd h2 (by omega)⟩
  intro F x i hi hI hc2
  obtain ⟨b4, b5, y⟩ := x
  obtain ⟨⟨q, hq, e4⟩, e5, f, hw⟩ := hI
  have e4 : b4 = nI q := e4
  have f : FrB u y := f
  have hw : ∀ l : Nat, 6 - i ≤ l → l < 6 → nob (gA y 21 l) := hw
  subst e4
  show TO _ (b_X8_keep_L35 (f_X8_keep_L35 F) b (nI q) b5 y)
  unfold b_X8_keep_L35
  rcases e5 with ⟨h5, e5⟩ | ⟨h6, e5⟩
  · have e5 : b5 = nI (5 - i) := e5
    subst e5
    rw [if_neg (nI_pos (by omega)), lt_e, lt_e, show nI q - nI q / (9 : Int32) * (9 : Int32) = nI (q % 9) from pk_rem (d := 9) (by omega) (by decide) (by decide), show nI q / (9 : Int32) = nI (q / 9) from pk_div (d := 9) (by omega) (by decide) (by decide)]
    have L80 : ∀ x4 : Int32, nob x4 → TO (fun y => FrB u y ∧ WN y) (f_X8_keep_L80 (f_X8_keep_L35 F) b (nI (q / 9)) (nI (5 - i)) x4 (nI (5 - i)) y) := by
      intro x4 h4
      unfold f_X8_keep_L80
      refine to_i (by decide) ⟨5 - i, by omega, rfl⟩ (to_l (to_l ?_))
      refine hc2 (nI (q / 9), nI (5 - i) + (-1), _) (by omega) ⟨⟨q / 9, by omega, rfl⟩, ?_, FrB_A (by unfold kBA; omega) f, fun l h1 h2 => ?_⟩
      · rcases Nat.lt_or_ge i 5 with z | z
        · refine Or.inl ⟨by omega, ?_⟩
          show nI (5 - i) + (-1) = nI (5 - (i + 1))
          rw [show 5 - i = (5 - (i + 1)) + 1 by omega]; exact pk_m1 _
        · refine Or.inr ⟨by omega, ?_⟩
          show nI (5 - i) + (-1) = -1
          rw [show 5 - i = 0 by omega]; rfl
      · show nob (gA (tA y 21 (nI (5 - i)) x4) 21 l)
        rw [tAe, nI_clamp (by omega)]
        by_cases z : l = 5 - i
        · rw [z, upd_s]; exact h4
        · rw [upd_n _ _ z]; exact hw l (by omega) h2
    unfold f_X8_keep_L73
    refine to_c (fun _ => L80 _ (Or.inl rfl)) (fun _ => to_c (fun _ => L80 _ (Or.inl rfl)) (fun c => L80 _ (Or.inr ⟨q % 9, ?_, rfl⟩)))
    have m := Nat.mod_lt q (show 0 < 9 by decide)
    rcases Nat.lt_or_ge (q % 9) 8 with z | z
    · omega
    · exact absurd (show nI (q % 9) = 8 by rw [show q % 9 = 8 by omega]; rfl) c
  · have e5 : b5 = -1 := e5
    subst e5
    rw [if_pos lt_m1]
    exact to_s ⟨f, fun l hl => hw l (by omega) hl⟩
theorem crT (a b : Int32) (u : SS) : TO (fun p : Int64 × SS => p.2 = u) (f_X8_costOfRest a b u) := by
  refine loopR (fun F (x : Int64 × Int32 × SS) => f_X8_costOfRest_L5 F a b x.1 x.2.1 x.2.2) (fun i x => x.2 = (nI i, u)) _ 6 ?_ (F := FU) (x := ((0 : Int64), (0 : Int32), u)) (Nat.lt_trans (by decide) FU_ge) rfl
  intro F x i hi hI hc
  obtain ⟨b2, b4, w⟩ := x
  obtain ⟨rfl, rfl⟩ := Prod.mk.inj hI
  show TO _ (b_X8_costOfRest_L5 (f_X8_costOfRest_L5 F) a b b2 (nI i) w)
  unfold b_X8_costOfRest_L5 f_X8_costOfRest_L44
  refine to_c (fun _ => to_s rfl) (fun c1 => to_c (fun _ => to_s rfl) (fun _ => ?_))
  have hi2 : i < 6 := ltn (n := 6) (by omega) c1
  have st : ∀ q : Int64, TO (fun p : Int64 × SS => p.2 = w) (lt (nI i + (1 : Int32)) fun x1 => f_X8_costOfRest_L5 F a b q x1 w) := by
    intro q
    rw [lt_e, nI_1]; exact hc (q, nI (i + 1), w) hi2 rfl
  exact to_c (fun _ => to_i (by decide) ⟨i, hi2, rfl⟩ (to_l (st _))) (fun _ => st _)
/-- submasks: the smaller, the next -/
theorem and_dec {b m : Nat} (hb : b < 64) (hm : 0 < m) (hm2 : m ≤ b) : ∃ n : Nat, n < m ∧ (nI m - (1 : Int32)) &&& nI b = nI n := by
  refine ⟨(m - 1) &&& b, Nat.lt_of_le_of_lt Nat.and_le_left (by omega), ?_⟩
  rw [show nI m - (1 : Int32) = nI (m - 1) from pk_sub (a := m) (b := 1) (by omega)]
  refine Int32.toBitVec_inj.mp ?_
  exact (BitVec.ofNat_and (w := 32)).symm
theorem ad9 {P : SS → Prop} {b : Nat} (hb : b < 64) (k3 : Int32 → SS → Option SS) (hk : ∀ y, FrB u y → TO P (k3 (nI b + (-1)) y)) (f : FrB u w) : TO P (f_X8_addBidder_L9 k3 FU (nI b) (nI b) w) := by
  refine loopR (fun F (x : Int32 × SS) => f_X8_addBidder_L9 k3 F (nI b) x.1 x.2) (fun i x => (∃ m : Nat, m + i ≤ b ∧ x.1 = nI m) ∧ FrB u x.2 ∨ (x.1 = 0 ∧ FrB u x.2)) _ (b + 1) ?_ (F := FU) (x := (nI b, w)) (Nat.lt_trans (show b + 1 < 1000 by omega) FU_ge) (Or.inl ⟨⟨b, by omega, rfl⟩, f⟩)
  intro F x i hi hI hc2
  obtain ⟨b2, y⟩ := x
  have hI2 : ∃ m : Nat, (m + i ≤ b ∨ m = 0) ∧ b2 = nI m ∧ FrB u y := by
    rcases hI with ⟨⟨m, hm, e⟩, f⟩ | ⟨e, f⟩
    · exact ⟨m, Or.inl hm, e, f⟩
    · exact ⟨0, Or.inr rfl, e, f⟩
  obtain ⟨m, hm, e, f⟩ := hI2
  subst e
  show TO _ (b_X8_addBidder_L9 k3 (f_X8_addBidder_L9 k3 F) (nI b) (nI m) y)
  unfold b_X8_addBidder_L9 f_X8_addBidder_L66
  by_cases c : m = 0
  · subst c
    rw [if_pos (show nI 0 ≤ (0 : Int32) by decide), lt_e]
    exact hk y f
  · rw [if_neg (nI_nle (by omega) (by omega)), show nI b - nI m = nI (b - m) from pk_sub (by omega)]
    have st : ∀ z : SS, FrB u z → TO P (lt ((nI m - (1 : Int32)) &&& nI b) fun x3 => f_X8_addBidder_L9 k3 F (nI b) x3 z) := by
      intro z hz
      obtain ⟨n, hn, en⟩ := and_dec hb (show 0 < m by omega) (by omega)
      rw [lt_e, en]
      refine hc2 (nI n, z) (by omega) ?_
      exact Or.inl ⟨⟨n, by omega, rfl⟩, hz⟩
    have r1 : rg 64 (nI (b - m)) := ⟨b - m, by omega, rfl⟩
    have r2 : rg 64 (nI m) := ⟨m, by omega, rfl⟩
    have r3 : rg 64 (nI b) := ⟨b, by omega, rfl⟩
    exact to_i (by decide) r1 (to_l (to_i (by decide) r2 (to_c (fun _ => st _ f) (fun _ => to_c (fun _ => st _ f) (fun _ => to_i (by decide) r3 (to_i (by decide) r2 (to_i (by decide) r3 (to_l (st _ (FrB_L f))))))))))
theorem adT (f : FrB u w) : TO (FrB u) (f_X8_addBidder w) := by
  refine loopR (fun F (x : Int32 × SS) => f_X8_addBidder_L3 F x.1 x.2) (fun i x => x.1 = nI (63 - i) ∧ FrB u x.2) _ 63 ?_ (F := FU) (x := ((63 : Int32), w)) (Nat.lt_trans (by decide) FU_ge) ⟨rfl, f⟩
  intro F x i hi hI hc2
  obtain ⟨b3, y⟩ := x
  obtain ⟨e, f⟩ := hI
  have e : b3 = nI (63 - i) := e
  have f : FrB u y := f
  subst e
  show TO _ (b_X8_addBidder_L3 (f_X8_addBidder_L3 F) (nI (63 - i)) y)
  unfold b_X8_addBidder_L3
  refine to_c (fun _ => to_s f) (fun c => ?_)
  have hp : 0 < 63 - i := by
    rcases Nat.eq_zero_or_pos (63 - i) with q | q
    · rw [q] at c; exact absurd (show nI 0 ≤ (0 : Int32) by decide) c
    · exact q
  refine ad9 (by omega) _ (fun z hz => ?_) f
  refine hc2 (nI (63 - i) + (-1), z) (by omega) ⟨?_, hz⟩
  show nI (63 - i) + (-1) = nI (63 - (i + 1))
  rw [show 63 - i = (63 - (i + 1)) + 1 by omega]; exact pk_m1 _
def bcV (a0 : Int32) : Int32 := match f_J6_bitCount_0f7a4 a0 uB0 with
  | some p => p.1
  | none => 0
theorem bcE (a : Int32) (u : SS) : f_J6_bitCount_0f7a4 a u = some (bcV a, u) := rfl
theorem bcL : ∀ m, m < 64 → bcV (nI m) = nI (nn (bcV (nI m))) ∧ nn (bcV (nI m)) < 7 := by decide +kernel
theorem coT {b m : Nat} (hb : b < 8) (hm : m < 64) (u : SS) : TO (fun p : Int64 × SS => p.2 = u) (f_X8_costOf (nI b) (nI m) u) := by
  unfold f_X8_costOf
  obtain ⟨e, h7⟩ := bcL m hm
  rw [bcE, ob_s, e]
  refine to_i (by decide) ⟨b, hb, rfl⟩ (to_c (fun _ => ?_) (fun _ => to_s rfl))
  refine loopR (fun F (x : Int64 × Int64 × Int32 × SS) => f_X8_costOf_L28 F (nI b) (nI m) (nI (nn (bcV (nI m)))) x.1 x.2.1 x.2.2.1 x.2.2.2) (fun i x => x.2.2 = (nI i, u)) _ 6 ?_ (F := FU) (x := ((0 : Int64), (0 : Int64), (0 : Int32), u)) (Nat.lt_trans (by decide) FU_ge) rfl
  intro F x i hi hI hc
  obtain ⟨b4, b6, b8, w⟩ := x
  obtain ⟨rfl, rfl⟩ := Prod.mk.inj hI
  show TO _ (b_X8_costOf_L28 (f_X8_costOf_L28 F) (nI b) (nI m) (nI (nn (bcV (nI m)))) b4 b6 (nI i) w)
  unfold b_X8_costOf_L28 f_X8_costOf_L107
  refine to_c (fun _ => ?_) (fun c1 => ?_)
  · rw [show nI b * (7 : Int32) + nI (nn (bcV (nI m))) = nI (b * 7 + nn (bcV (nI m))) by rw [show (7 : Int32) = nI 7 by decide, pk_mul, nI_add]]
    exact to_i (by decide) ⟨b * 7 + nn (bcV (nI m)), by omega, rfl⟩ (to_l (to_s rfl))
  have hi2 : i < 6 := ltn (n := 6) (by omega) c1
  have st : ∀ p q : Int64, TO (fun p : Int64 × SS => p.2 = w) (lt (nI i + (1 : Int32)) fun x1 => f_X8_costOf_L28 F (nI b) (nI m) (nI (nn (bcV (nI m)))) p q x1 w) := by
    intro p q
    rw [lt_e, nI_1]; exact hc (p, q, nI (i + 1), w) hi2 rfl
  have r : rg 48 (nI (b * 6 + i)) := ⟨b * 6 + i, by omega, rfl⟩
  refine to_c (fun _ => ?_) (fun _ => st _ _)
  rw [ceB, ob_s, cellB]
  exact to_i (by decide) r (to_c (fun _ => to_s rfl) (fun _ => to_i (by decide) r (to_l (to_i (by decide) r (to_i (by decide) ⟨i, hi2, rfl⟩ (to_l (st _ _)))))))
theorem se68 (b1 : Int32) (b2 : Int64) (f : FrB u w) : TO (fun y => FrB u y ∧ WN y) (f_X8_search_L68 FU b1 b2 (0 : Int32) w) := by
  refine loopR (fun F (x : Int64 × Int32 × SS) => f_X8_search_L68 F b1 x.1 x.2.1 x.2.2) (fun i x => x.2 = (nI i, w)) _ 64 ?_ (F := FU) (x := (b2, (0 : Int32), w)) (Nat.lt_trans (by decide) FU_ge) rfl
  intro F x i hi hI hc
  obtain ⟨b2, b4, y⟩ := x
  obtain ⟨rfl, rfl⟩ := Prod.mk.inj hI
  show TO _ (b_X8_search_L68 (f_X8_search_L68 F) b1 b2 (nI i) y)
  unfold b_X8_search_L68 f_X8_search_L108
  refine to_c (fun _ => to_v (keT _ _ f) (fun z hz => to_s hz)) (fun c1 => ?_)
  have hi2 : i < 64 := ltn (n := 64) (by omega) c1
  have r : rg 64 (nI i) := ⟨i, hi2, rfl⟩
  have st : ∀ p : Int64, TO (fun y => FrB u y ∧ WN y) (lt (nI i + (1 : Int32)) fun x1 => f_X8_search_L68 F b1 p x1 y) := by
    intro p
    rw [lt_e, nI_1]; exact hc (p, nI (i + 1), y) hi2 rfl
  refine to_i (by decide) r (to_c (fun _ => st _) (fun _ => to_i (by decide) r (to_b (crT _ _ y) (fun a z hz => ?_))))
  have hz : z = y := hz
  subst hz
  exact to_l (st _)
theorem se27 {P : SS → Prop} {b : Nat} (hb : b < 8) (b1 : Int32) (k19 : Int32 → Int32 → SS → Option SS) (hk : ∀ y, FrB u y → TO P (k19 b1 (nI (b + 1)) y)) (f : FrB u w) : TO P (f_X8_search_L27 k19 FU b1 (nI b) (1 : Int32) w) := by
  refine loopG (fun F (x : Int32 × SS) => f_X8_search_L27 k19 F b1 (nI b) x.1 x.2) (fun i x => x.1 = nI i ∧ FrB u x.2) _ 64 ?_ 63 1 FU ((1 : Int32), w) (by omega) (Nat.lt_trans (by decide) FU_ge) ⟨rfl, f⟩
  intro F x i hi hI hc2
  obtain ⟨b3, y⟩ := x
  obtain ⟨e, f⟩ := hI
  have e : b3 = nI i := e
  have f : FrB u y := f
  subst e
  show TO _ (b_X8_search_L27 k19 (f_X8_search_L27 k19 F) b1 (nI b) (nI i) y)
  unfold b_X8_search_L27
  refine to_c (fun _ => to_v (adT f) (fun z hz => by rw [lt_e, nI_1]; exact hk z hz)) (fun c1 => ?_)
  have hi2 : i < 64 := ltn (n := 64) (by omega) c1
  refine to_b (coT hb hi2 y) (fun a z hz => ?_)
  have hz : z = y := hz
  subst hz
  refine to_i (by decide) ⟨i, hi2, rfl⟩ (to_l ?_)
  rw [lt_e, nI_1]
  exact hc2 (nI (i + 1), _) hi2 ⟨rfl, FrB_L f⟩
theorem seT (b1 : Int32) (f : FrB u w) : TO (fun y => FrB u y ∧ WN y) (f_X8_search b1 w) := by
  unfold f_X8_search
  refine to_v (fi64 _ f) (fun y hy => to_i (by decide) ⟨0, by decide, rfl⟩ (to_l ?_))
  refine loopR (fun F (x : Int32 × SS) => f_X8_search_L19 F b1 x.1 x.2) (fun i x => x.1 = nI i ∧ FrB u x.2) _ 8 ?_ (F := FU) (x := ((0 : Int32), tL y 6 (0 : Int32) (0 : Int64))) (Nat.lt_trans (by decide) FU_ge) ⟨rfl, FrB_L hy⟩
  intro F x i hi hI hc2
  obtain ⟨b3, y⟩ := x
  obtain ⟨e, f⟩ := hI
  have e : b3 = nI i := e
  have f : FrB u y := f
  subst e
  show TO _ (b_X8_search_L19 (f_X8_search_L19 F) b1 (nI i) y)
  unfold b_X8_search_L19
  refine to_c (fun _ => se68 _ _ f) (fun c1 => ?_)
  have hi2 : i < 8 := ltn (n := 8) (by omega) c1
  exact se27 hi2 b1 _ (fun z hz => hc2 (nI (i + 1), z) hi2 ⟨rfl, hz⟩) f
theorem fb50 {P : SS → Prop} {l n : Nat} (hl : l < 6) (hn : n ≤ 8) (k9 : Int32 → SS → Option SS) (hk : ∀ y, FrB u y → TO P (k9 (nI (l + 1)) y)) (f : FrB u w) (r : RKD n w) : TO P (f_X9_findBest_L50 k9 FU (nI l) (0 : Int32) w) := by
  refine loopR (fun F (x : Int32 × SS) => f_X9_findBest_L50 k9 F (nI l) x.1 x.2) (fun i x => x.1 = nI i ∧ FrB u x.2 ∧ RKD n x.2) _ n ?_ (F := FU) (x := ((0 : Int32), w)) (Nat.lt_trans (show n < 1000 by omega) FU_ge) ⟨rfl, f, r⟩
  intro F x i hi hI hc2
  obtain ⟨b3, y⟩ := x
  obtain ⟨e, f⟩ := hI
  have e : b3 = nI i := e
  have f : FrB u y ∧ RKD n y := f
  subst e
  obtain ⟨f, r⟩ := f
  show TO _ (b_X9_findBest_L50 k9 (f_X9_findBest_L50 k9 F) (nI l) (nI i) y)
  unfold b_X9_findBest_L50
  rw [r.1]
  refine to_c (fun _ => by rw [lt_e, nI_1]; exact hk y f) (fun c1 => ?_)
  have hi2 : i < n := ltn (by omega) c1
  obtain ⟨q, hq, eq⟩ := r.2 i hi2
  refine to_i (by decide) ⟨i, by omega, rfl⟩ (to_l ?_)
  rw [nI_clamp (by omega), eq]
  refine to_i (by decide) ⟨q, by omega, rfl⟩ ?_
  unfold f_X8_offer
  rw [ceB, ob_s, cellB, oi_nI (by decide) (show q * 6 + l < 48 by omega), lt_e, ceB, ob_s, cellB, oi_nI (by decide) (show q * 6 + l < 48 by omega), lt_e, ov_s, lt_e, nI_1]
  refine hc2 (nI (i + 1), _) hi2 ⟨rfl, FrB_A (by unfold kBA; omega) (FrB_A (by unfold kBA; omega) f), r.1, fun j hj => ?_⟩
  show eN 7 (gA (tA (tA y 23 _ _) 24 _ _) 19 j)
  rw [tAn (by decide), tAn (by decide)]
  exact r.2 j hj
theorem fbT (h : RT k u v) : TO (fun y => FrB u y ∧ WN y) (f_X9_findBest u) := by
  obtain ⟨⟨t, L, ht, hL1, hL6, e0, e0m, e2, e2m, e1, e1c⟩, -⟩ := id h
  unfold f_X9_findBest f_X8_clear
  refine to_v (to_v (fi48 _ (FrB_r u)) (fun y hy => to_s hy)) (fun y hy => ?_)
  refine loopR (fun F (x : Int32 × SS) => f_X9_findBest_L9 F x.1 x.2) (fun i x => x.1 = nI i ∧ FrB u x.2) _ L ?_ (F := FU) (x := ((0 : Int32), y)) (Nat.lt_trans (show L < 1000 by omega) FU_ge) ⟨rfl, hy⟩
  intro F x i hi hI hc2
  obtain ⟨b3, y⟩ := x
  obtain ⟨e, f⟩ := hI
  have e : b3 = nI i := e
  have f : FrB u y := f
  subst e
  show TO _ (b_X9_findBest_L9 (f_X9_findBest_L9 F) (nI i) y)
  unfold b_X9_findBest_L9
  rw [f.1 2 (by unfold kBI; omega), e2]
  refine to_c (fun _ => to_v (seT _ f) (fun z hz => to_s hz)) (fun c1 => ?_)
  have hi2 : i < L := ltn (by omega) c1
  refine to_v (laT (RT_b h f) (show i < 6 by omega) _) (fun z hz => ?_)
  refine to_v (rkT (FK_w (FK_r y) hz)) (fun q hq => ?_)
  obtain ⟨fq, n, hn, r⟩ := hq
  exact fb50 (by omega) hn _ (fun x hx => hc2 (nI (i + 1), x) hi2 ⟨rfl, hx⟩) (FrB_t f (FK_b fq)) r
theorem whB_T (h : RT k u v) (n : Int32) : TO (fun p : Int32 × SS => FrB u p.2) (f_X9_whole n u) := by
  unfold f_X9_whole f_X9_whole_L9
  refine to_c (fun _ => rfB3 rwd2 (FrB_r u)) (fun _ => to_c (fun _ => ?_) (fun _ => rfB3 rwd2 (FrB_r u)))
  refine to_b opB_T (fun a w hw => ?_)
  have hw : w = u := hw
  subst hw
  refine to_c (fun _ => to_v (fbT h) (fun y hy => to_c (fun _ => to_s hy.1) (fun _ => to_s hy.1))) (fun _ => rfB3 rwd3 (FrB_r w))
theorem wiB_T (h : RT k u v) (l : Int32) : TO (fun p : Int32 × SS => FrB u p.2) (f_X9_winner l u) := by
  obtain ⟨⟨t, L, ht, hL1, hL6, e0, e0m, e2, e2m, e1, e1c⟩, -⟩ := id h
  unfold f_X9_winner
  rcases cl_c l L with ⟨j, hj, rfl⟩ | hl
  rotate_left
  · rw [noLot_f e2 hL6 hl, ob_s, if_neg nz_1]; exact rfB3 rwd1 (FrB_r u)
  rw [noLot_t e2 hL6 ⟨j, hj, rfl⟩, ob_s, if_pos rfl]
  refine to_b opB_T (fun a w hw => ?_)
  have hw : w = u := hw
  subst hw
  exact to_c (fun _ => to_v (fbT h) (fun y hy => to_i (by decide) ⟨j, by omega, rfl⟩ (to_s hy.1))) (fun _ => rfB3 rwd3 (FrB_r w))
end ST18
