section ST16
variable {k : Nat} {u v w x : SS}
/-- what the class's table and stack work in -/
def FW (u w : SS) : Prop := (∀ i : Nat, i ≠ 11 → i ≠ 12 → i ≠ 25 → gI w i = gI u i) ∧ ∀ a : Nat, a ≠ 12 → a ≠ 16 → a ≠ 17 → a ≠ 18 → gA w a = gA u a
theorem FW_r (u : SS) : FW u u := ⟨fun _ _ _ _ => rfl, fun _ _ _ _ _ => rfl⟩
theorem FW_t (h : FW u w) (h2 : FW w x) : FW u x := ⟨fun i a b c => (h2.1 i a b c).trans (h.1 i a b c), fun i a b c d => (h2.2 i a b c d).trans (h.2 i a b c d)⟩
theorem FW_I {i : Nat} {y : Int32} (hi : i = 11 ∨ i = 12 ∨ i = 25) (h : FW u w) : FW u (sI w i y) := ⟨fun j a b c => by rw [sIn (by omega)]; exact h.1 j a b c, h.2⟩
theorem FW_A {a : Nat} {i y : Int32} (ha : a = 12 ∨ a = 16 ∨ a = 17 ∨ a = 18) (h : FW u w) : FW u (tA w a i y) := ⟨h.1, fun b q1 q2 q3 q4 => by rw [tAn (by omega)]; exact h.2 b q1 q2 q3 q4⟩
theorem FW_Z {a : Nat} {i y : Int32} (ha : a = 12 ∨ a = 16 ∨ a = 17 ∨ a = 18) (h : FW u w) : FW u (tZ w a i y) := ⟨h.1, fun b q1 q2 q3 q4 => by rw [tZn (by omega)]; exact h.2 b q1 q2 q3 q4⟩
theorem FW_J {i : Nat} {y : Int64} (h : FW u w) : FW u (sJ w i y) := ⟨h.1, h.2⟩
theorem FW_L {a : Nat} {i : Int32} {y : Int64} (h : FW u w) : FW u (tL w a i y) := ⟨h.1, h.2⟩
theorem FW_b (h : FW u w) : FrB u w := ⟨fun i hi => h.1 i (by unfold kBI at hi; omega) (by unfold kBI at hi; omega) (by unfold kBI at hi; omega), fun a ha => h.2 a (by unfold kBA at ha; omega) (by unfold kBA at ha; omega) (by unfold kBA at ha; omega) (by unfold kBA at ha; omega)⟩
/-- a fraction put -/
def PF (u w : SS) : Prop := (∀ i : Nat, i ≠ 25 → gI w i = gI u i) ∧ ∀ a : Nat, gA w a = gA u a
theorem PF_w (h : PF u w) : FW u w := ⟨fun i _ _ c => h.1 i c, fun a _ _ _ _ => h.2 a⟩
theorem cpT (a b : Int64) (u : SS) : TO (fun p : Int64 × SS => p.2 = u) (f_X3_commonPart a b u) := by
  refine loopR (fun F (x : Int64 × Int64 × Int32 × SS) => f_X3_commonPart_L3 F x.1 x.2.1 x.2.2.1 x.2.2.2) (fun i x => x.2.2 = (nI i, u)) _ 200 ?_ (F := FU) (x := (a, b, (0 : Int32), u)) (Nat.lt_trans (by decide) FU_ge) rfl
  intro F x i hi hI hc
  obtain ⟨b0, b2, b4, w⟩ := x
  obtain ⟨rfl, rfl⟩ := Prod.mk.inj hI
  show TO _ (b_X3_commonPart_L3 (f_X3_commonPart_L3 F) b0 b2 (nI i) w)
  unfold b_X3_commonPart_L3
  refine to_c (fun _ => to_s rfl) (fun c1 => to_c (fun _ => to_s rfl) (fun c2 => ?_))
  have hi2 : i < 200 := ltn (n := 200) (by omega) c1
  refine to_n (fun z => c2 ((lg_cmp_eq _ _).mpr z)) ?_
  rw [lt_e, lt_e, nI_1]
  exact hc (b2, b0 - b0 / b2 * b2, nI (i + 1), w) hi2 rfl
theorem pu55 {b1 b3 b5 q0 : Int64} (h5 : ¬ b5 = 0) (h : PF u w) : TO (PF u) (f_X3_put_L55 b1 b3 b5 q0 w) := by
  unfold f_X3_put_L55
  refine to_n h5 (to_l (to_n h5 (to_l (to_c (fun _ => to_s h) (fun _ => to_c (fun _ => to_s h) (fun _ => to_l (to_l (to_l (to_s ?_)))))))))
  exact ⟨fun i hi => by rw [gI_sJ, gI_sJ, sIn hi]; exact h.1 i hi, fun a => h.2 a⟩
theorem puT (a b : Int64) (u : SS) : TO (PF u) (f_X3_put a b u) := by
  unfold f_X3_put
  have h0 : PF u (sJ (sJ (sI u 25 1) 6 0) 7 1) := ⟨fun i hi => by rw [gI_sJ, gI_sJ, sIn hi], fun a => rfl⟩
  refine to_l (to_l (to_l (to_b (cpT _ _ _) (fun r w hw => ?_))))
  have hw : w = sJ (sJ (sI u 25 1) 6 0) 7 1 := hw
  subst hw
  refine to_c (fun _ => to_s h0) (fun _ => to_c (fun _ => to_s h0) (fun c => ?_))
  have c5 : ¬ r = 0 := fun z => c ((lg_cmp_eq _ _).mpr z)
  exact to_c (fun _ => pu55 c5 h0) (fun _ => pu55 c5 h0)
theorem suT (u : SS) : TO (FW u) (f_X7_sumUp u) := by
  unfold f_X7_sumUp
  refine to_l (to_l (to_l (to_l (to_l ?_))))
  refine loopR (fun F (x : Int64 × Int32 × SS) => f_X7_sumUp_L31 F x.1 x.2.1 x.2.2) (fun i x => x.2.1 = nI i ∧ FW u x.2.2) _ 8 ?_ (F := FU) (x := ((0 : Int64), (0 : Int32), sJ (sJ (sI (sJ (sJ u 0 9223372036854775807) 1 0) 12 0) 4 0) 5 1)) (Nat.lt_trans (by decide) FU_ge) ⟨rfl, FW_J (FW_J (FW_I (by omega) (FW_J (FW_J (FW_r u)))))⟩
  intro F x i hi hI hc
  obtain ⟨b1, b3, w⟩ := x
  obtain ⟨e, f⟩ := hI
  have e : b3 = nI i := e
  have f : FW u w := f
  subst e
  show TO _ (b_X7_sumUp_L31 (f_X7_sumUp_L31 F) b1 (nI i) w)
  unfold b_X7_sumUp_L31 f_X7_sumUp_L148
  refine to_c (fun _ => ?_) (fun c1 => ?_)
  · exact to_v (puT _ _ w) (fun y hy => to_l (to_l (to_s (FW_J (FW_J (FW_t f (PF_w hy)))))))
  have hi2 : i < 8 := ltn (n := 8) (by omega) c1
  have r8 : rg 8 (nI i) := ⟨i, hi2, rfl⟩
  have st : ∀ (b : Int64) (y : SS), FW u y → TO (FW u) (lt (nI i + (1 : Int32)) fun x10 => f_X7_sumUp_L31 F b x10 y) := by
    intro b y hy
    rw [lt_e, nI_1]; exact hc (b, nI (i + 1), y) hi2 ⟨rfl, hy⟩
  refine to_i (by decide) r8 (to_c (fun _ => st _ _ f) (fun _ => ?_))
  refine to_i (by decide) r8 (to_l (to_i (by decide) r8 (to_l (to_i (by decide) r8 (to_l (to_l (to_i (by decide) r8 (to_i (by decide) r8 ?_))))))))
  have f2 : FW u (sI (sJ (sJ w 0 (if (gA w 17 (nI i).toNatClampNeg).toInt64 < gJ w 0 then (gA w 17 (nI i).toNatClampNeg).toInt64 else gJ w 0)) 1 (if (gA (sJ w 0 (if (gA w 17 (nI i).toNatClampNeg).toInt64 < gJ w 0 then (gA w 17 (nI i).toNatClampNeg).toInt64 else gJ w 0)) 17 (nI i).toNatClampNeg).toInt64 < gJ (sJ w 0 (if (gA w 17 (nI i).toNatClampNeg).toInt64 < gJ w 0 then (gA w 17 (nI i).toNatClampNeg).toInt64 else gJ w 0)) 1 then gJ (sJ w 0 (if (gA w 17 (nI i).toNatClampNeg).toInt64 < gJ w 0 then (gA w 17 (nI i).toNatClampNeg).toInt64 else gJ w 0)) 1 else (gA (sJ w 0 (if (gA w 17 (nI i).toNatClampNeg).toInt64 < gJ w 0 then (gA w 17 (nI i).toNatClampNeg).toInt64 else gJ w 0)) 17 (nI i).toNatClampNeg).toInt64)) 12 (gI (sJ (sJ w 0 (if (gA w 17 (nI i).toNatClampNeg).toInt64 < gJ w 0 then (gA w 17 (nI i).toNatClampNeg).toInt64 else gJ w 0)) 1 (if (gA (sJ w 0 (if (gA w 17 (nI i).toNatClampNeg).toInt64 < gJ w 0 then (gA w 17 (nI i).toNatClampNeg).toInt64 else gJ w 0)) 17 (nI i).toNatClampNeg).toInt64 < gJ (sJ w 0 (if (gA w 17 (nI i).toNatClampNeg).toInt64 < gJ w 0 then (gA w 17 (nI i).toNatClampNeg).toInt64 else gJ w 0)) 1 then gJ (sJ w 0 (if (gA w 17 (nI i).toNatClampNeg).toInt64 < gJ w 0 then (gA w 17 (nI i).toNatClampNeg).toInt64 else gJ w 0)) 1 else (gA (sJ w 0 (if (gA w 17 (nI i).toNatClampNeg).toInt64 < gJ w 0 then (gA w 17 (nI i).toNatClampNeg).toInt64 else gJ w 0)) 17 (nI i).toNatClampNeg).toInt64)) 12 + 1)) := FW_I (by omega) (FW_J (FW_J f))
  refine to_c (fun _ => st _ _ f2) (fun _ => to_i (by decide) r8 (to_l (to_i (by decide) r8 (to_l (st _ _ (FW_J (FW_J f2)))))))
theorem we105 (a b : Int32) (f : FW u w) : TO (FW u) (f_X5_weigh_L105 a b w) := by
  unfold f_X5_weigh_L105
  exact to_v (puT _ _ w) (fun y hy => to_s (FW_t f (PF_w hy)))
theorem weT {c : Nat} (hc : c < 48) (f : FW u w) : TO (FW u) (f_X5_weigh (nI c) w) := by
  refine loopR (fun F (x : Int32 × Int32 × Int32 × Int32 × Int32 × SS) => f_X5_weigh_L15 F (nI c) x.1 x.2.1 x.2.2.1 x.2.2.2.1 x.2.2.2.2.1 x.2.2.2.2.2) (fun i x => x.2.2.2.2 = (nI i, w)) _ 6 ?_ (F := FU) (x := ((0 : Int32), (0 : Int32), (100 : Int32), (0 : Int32), (0 : Int32), w)) (Nat.lt_trans (by decide) FU_ge) rfl
  intro F x i hi hI hc2
  obtain ⟨b3, b4, b5, b6, b7, y⟩ := x
  obtain ⟨rfl, rfl⟩ := Prod.mk.inj hI
  show TO _ (b_X5_weigh_L15 (f_X5_weigh_L15 F) (nI c) b3 b4 b5 b6 (nI i) y)
  unfold b_X5_weigh_L15 f_X5_weigh_L81
  refine to_c (fun _ => to_c (fun _ => we105 _ _ f) (fun _ => to_l (to_l (we105 _ _ f)))) (fun c1 => ?_)
  have hi2 : i < 6 := ltn (n := 6) (by omega) c1
  have st : ∀ b3 b4 b5 b6 : Int32, TO (FW u) (lt (nI i + (1 : Int32)) fun x6 => f_X5_weigh_L15 F (nI c) b3 b4 b5 b6 x6 y) := by
    intro b3 b4 b5 b6
    rw [lt_e, nI_1]; exact hc2 (b3, b4, b5, b6, nI (i + 1), y) hi2 rfl
  rw [noB]
  refine to_i (by decide) ⟨i * 48 + c, by omega, rfl⟩ (to_l (to_c (fun _ => st _ _ _ _) (fun _ => to_i (by decide) ⟨i, hi2, rfl⟩ (to_c (fun _ => to_l (to_l (to_l (to_l (st _ _ _ _))))) (fun _ => st _ _ _ _)))))
theorem fs17 {P : SS → Prop} {s : Nat} (hs : s < 6) (k2 : Int32 → SS → Option SS) (hk : ∀ y, FW u y → TO P (k2 (nI (s + 1)) y)) (f : FW u w) : TO P (f_X5_findSilent_25_L17 k2 FU (nI s) (0 : Int32) w) := by
  refine loopR (fun F (x : Int32 × SS) => f_X5_findSilent_25_L17 k2 F (nI s) x.1 x.2) (fun i x => x.1 = nI i ∧ FW u x.2) _ 8 ?_ (F := FU) (x := ((0 : Int32), w)) (Nat.lt_trans (by decide) FU_ge) ⟨rfl, f⟩
  intro F x i hi hI hc2
  obtain ⟨b3, y⟩ := x
  obtain ⟨e, f⟩ := hI
  have e : b3 = nI i := e
  have f : FW u y := f
  subst e
  show TO _ (b_X5_findSilent_25_L17 k2 (f_X5_findSilent_25_L17 k2 F) (nI s) (nI i) y)
  unfold b_X5_findSilent_25_L17 f_X5_findSilent_25_L62 f_X5_findSilent_25_L56
  refine to_c (fun _ => by rw [lt_e, nI_1]; exact hk y f) (fun c1 => to_c (fun _ => by rw [lt_e, nI_1]; exact hk y f) (fun _ => ?_))
  have hi2 : i < 8 := ltn (n := 8) (by omega) c1
  have st : ∀ z : SS, FW u z → TO P (lt (nI i + (1 : Int32)) fun x3 => f_X5_findSilent_25_L17 k2 F (nI s) x3 z) := by
    intro z hz
    rw [lt_e, nI_1]; exact hc2 (nI (i + 1), z) hi2 ⟨rfl, hz⟩
  rw [show nI s * (8 : Int32) + nI i = nI (s * 8 + i) by rw [show (8 : Int32) = nI 8 by decide, pk_mul, nI_add]]
  exact to_i (by decide) ⟨i, hi2, rfl⟩ (to_c (fun _ => st _ f) (fun _ => to_i (by decide) ⟨s * 8 + i, by omega, rfl⟩ (to_c (fun _ => st _ f) (fun _ => to_i (by decide) ⟨s, hs, rfl⟩ (to_l (st _ (FW_Z (by omega) f)))))))
theorem fsT (f : FW u w) : TO (FW u) (f_X5_findSilent_25 w) := by
  refine loopR (fun F (x : Int32 × SS) => f_X5_findSilent_25_L2 F x.1 x.2) (fun i x => x.1 = nI i ∧ FW u x.2) _ 6 ?_ (F := FU) (x := ((0 : Int32), w)) (Nat.lt_trans (by decide) FU_ge) ⟨rfl, f⟩
  intro F x i hi hI hc2
  obtain ⟨b3, y⟩ := x
  obtain ⟨e, f⟩ := hI
  have e : b3 = nI i := e
  have f : FW u y := f
  subst e
  show TO _ (b_X5_findSilent_25_L2 (f_X5_findSilent_25_L2 F) (nI i) y)
  unfold b_X5_findSilent_25_L2
  refine to_c (fun _ => to_s f) (fun c1 => ?_)
  have hi2 : i < 6 := ltn (n := 6) (by omega) c1
  exact to_i (by decide) ⟨i, hi2, rfl⟩ (to_l (fs17 hi2 _ (fun z hz => hc2 (nI (i + 1), z) hi2 ⟨rfl, hz⟩) (FW_Z (by omega) f)))
theorem la90 {l : Nat} (hl : l < 6) (f : FW u w) : TO (FW u) (f_X7_lay_L90 FU (nI l) (0 : Int32) w) := by
  refine loopR (fun F (x : Int32 × SS) => f_X7_lay_L90 F (nI l) x.1 x.2) (fun i x => x.1 = nI i ∧ FW u x.2) _ 8 ?_ (F := FU) (x := ((0 : Int32), w)) (Nat.lt_trans (by decide) FU_ge) ⟨rfl, f⟩
  intro F x i hi hI hc2
  obtain ⟨b3, y⟩ := x
  obtain ⟨e, f⟩ := hI
  have e : b3 = nI i := e
  have f : FW u y := f
  subst e
  show TO _ (b_X7_lay_L90 (f_X7_lay_L90 F) (nI l) (nI i) y)
  unfold b_X7_lay_L90
  refine to_c (fun _ => to_v (suT y) (fun z hz => to_s (FW_t f hz))) (fun c1 => ?_)
  have hi2 : i < 8 := ltn (n := 8) (by omega) c1
  rw [ceB, ob_s, cellB]
  refine to_v (weT (show i * 6 + l < 48 by omega) f) (fun z hz => ?_)
  refine to_i (by decide) ⟨i, hi2, rfl⟩ (to_l (to_i (by decide) ⟨i, hi2, rfl⟩ (to_l ?_)))
  rw [lt_e, nI_1]
  exact hc2 (nI (i + 1), _) hi2 ⟨rfl, FW_L (FW_L hz)⟩
theorem laT (h : RT k u v) {l : Nat} (hl : l < 6) (b4 : Int32) : TO (FW u) (f_X7_lay (nI l) b4 u) := by
  refine loopR (fun F (x : Int32 × SS) => f_X7_lay_L3 F (nI l) b4 x.1 x.2) (fun i x => x.1 = nI i ∧ FW u x.2) _ 8 ?_ (F := FU) (x := ((0 : Int32), u)) (Nat.lt_trans (by decide) FU_ge) ⟨rfl, FW_r u⟩
  intro F x i hi hI hc2
  obtain ⟨b3, y⟩ := x
  obtain ⟨e, f⟩ := hI
  have e : b3 = nI i := e
  have f : FW u y := f
  subst e
  show TO _ (b_X7_lay_L3 (f_X7_lay_L3 F) (nI l) b4 (nI i) y)
  unfold b_X7_lay_L3 f_X7_lay_L44 f_X7_lay_L45 f_X7_lay_L72
  refine to_c (fun _ => to_v (fsT f) (fun z hz => la90 hl hz)) (fun c1 => ?_)
  have hi2 : i < 8 := ltn (n := 8) (by omega) c1
  have r8 : rg 8 (nI i) := ⟨i, hi2, rfl⟩
  have c48 : i * 6 + l < 48 := by omega
  rw [ceB, ob_s, cellB]
  have L72 : ∀ (q : Int32) (z : SS), FW u z → TO (FW u) (oi (nI i) 8 (lt (tA z 17 (nI i) q) fun u17 => lt (nI i + (1 : Int32)) fun x18 => f_X7_lay_L3 F (nI l) b4 x18 u17)) := by
    intro q z hz
    refine to_i (by decide) r8 (to_l ?_)
    rw [lt_e, nI_1]; exact hc2 (nI (i + 1), _) hi2 ⟨rfl, FW_A (by omega) hz⟩
  have L45 : ∀ (q : Int32) (z : SS), FW u z → TO (FW u) (oi (nI i) 8 (lt (tZ z 16 (nI i) q) fun u16 => oi (nI (i * 6 + l)) 48 (if (gA u16 3 (nI (i * 6 + l)).toNatClampNeg) = 0 then (oi (nI i) 8 (lt (tA u16 17 (nI i) (0 : Int32)) fun u17 => lt (nI i + (1 : Int32)) fun x18 => f_X7_lay_L3 F (nI l) b4 x18 u17)) else (ob (f_X1_priceAt (nI (i * 6 + l)) u16) fun r21 u20 => (oi (nI i) 8 (lt (tA u20 17 (nI i) r21) fun u17 => lt (nI i + (1 : Int32)) fun x18 => f_X7_lay_L3 F (nI l) b4 x18 u17)))))) := by
    intro q z hz
    have hz2 : FW u (tZ z 16 (nI i) q) := FW_Z (by omega) hz
    refine to_i (by decide) r8 (to_l (to_i (by decide) ⟨_, c48, rfl⟩ (to_c (fun _ => L72 _ _ hz2) (fun _ => ?_))))
    rw [prB c48 (BD_c (RT_b h (FW_b hz2)) c48), ob_s]
    exact L72 _ _ hz2
  refine to_c (fun _ => L45 _ _ f) (fun _ => ?_)
  refine to_b (stB_T (RT_b h (FW_b f)) c48) (fun a z hz => ?_)
  have e : z = y := hz.1
  subst e
  exact to_c (fun _ => L45 _ _ f) (fun _ => L45 _ _ f)
theorem npP (a : Int32) (u : SS) : TO (fun p : Int32 × SS => p.2 = u) (f_X9_noPart a u) := by
  unfold f_X9_noPart
  exact to_c (fun _ => to_s rfl) (fun _ => to_c (fun _ => to_s rfl) (fun _ => to_s rfl))
theorem quB_T (h : RT k u v) (b l n : Int32) : TO (fun p : Int32 × SS => FrB u p.2) (f_X9_quality b l n u) := by
  obtain ⟨⟨t, L, ht, hL1, hL6, e0, e0m, e2, e2m, e1, e1c⟩, -⟩ := id h
  unfold f_X9_quality
  rcases bl_c b l L hL6 with ⟨i, j, hi, hj, hj6, rfl, rfl⟩ | hbl
  rotate_left
  · rw [noBid_f e2 hL6 hbl, ob_s, if_neg nz_1]; exact rfB3 rwd1 (FrB_r u)
  rw [noBid_t e2 hL6 ⟨⟨i, hi, rfl⟩, ⟨j, hj, rfl⟩⟩, ob_s, if_pos rfl]
  refine to_b (npP n u) (fun a w hw => ?_)
  have hw : w = u := hw
  subst hw
  refine to_c (fun _ => ?_) (fun _ => rfB3 rwd2 (FrB_r w))
  rw [ceB, ob_s, cellB]
  refine to_i (by decide) ⟨i * 6 + j, by omega, rfl⟩ (to_c (fun _ => rfB3 rwd5 (FrB_r w)) (fun _ => ?_))
  refine to_v (laT h hj6 _) (fun y hy => ?_)
  exact to_c (fun _ => to_i (by decide) ⟨i, hi, rfl⟩ (to_s (FW_b hy))) (fun _ => to_i (by decide) ⟨i, hi, rfl⟩ (to_s (FW_b hy)))
end ST16
