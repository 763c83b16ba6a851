section ST13
variable {k : Nat} {u v w x : SS}
theorem inB_T (n a b : Int32) (u : SS) : TO (fun p : Int32 × SS => p.2 = u ∧ (p.1 = 0 ∨ p.1 = -4 ∨ p.1 = -6)) (f_X9_inRange n a b u) := by
  unfold f_X9_inRange
  exact to_c (fun _ => to_c (fun _ => to_s ⟨rfl, Or.inl rfl⟩) (fun _ => to_s ⟨rfl, Or.inr (Or.inr rfl)⟩)) (fun _ => to_s ⟨rfl, Or.inr (Or.inl rfl)⟩)
theorem rfB3 {q : Int32} (hw : rwd q) (h : FrB u w) : TO (fun p : Int32 × SS => FrB u p.2) (ob (f_X9_refuse q w) fun r3 u2 => some (r3, u2)) := to_b (rfB_f hw h) (fun _ _ q => to_s q)
theorem rfM3 {q : Int32} (hw : rwd q) (h : MK u w) : TO (fun p : Int32 × SS => MK u p.2) (ob (f_X10_refuse q w) fun r3 u2 => some (r3, u2)) := to_b (rfM_f hw h) (fun _ _ q => to_s q)
theorem rlB3 {q : Int32} (hw : rwd q) (h : FrB u w) : TO (fun p : Int64 × SS => FrB u p.2) (ob (f_X9_refuseLong q w) fun r3 u2 => some (r3, u2)) := to_b (rlB_f hw h) (fun _ _ q => to_s q)
theorem rlM3 {q : Int32} (hw : rwd q) (h : MK u w) : TO (fun p : Int64 × SS => MK u p.2) (ob (f_X10_refuseFar q w) fun r3 u2 => some (r3, u2)) := to_b (rlM_f hw h) (fun _ _ q => to_s q)
theorem chgB (h : RT k u v) (l n : Int32) : TO (fun p => FrB u p.2) (f_X9_change l n u) := by
  obtain ⟨⟨t, L, ht, hL1, hL6, e0, e0m, e2, e2m, e1, e1c⟩, h2⟩ := id h
  unfold f_X9_change f_X9_change_L38
  rcases cl_c l L with ⟨j, hj, rfl⟩ | hl
  rotate_left
  · rw [noLot_f e2 hL6 hl, ob_s, if_neg nz_1]; exact rfB3 rwd1 (FrB_r u)
  rw [noLot_t e2 hL6 ⟨j, hj, rfl⟩, ob_s, if_pos rfl]
  refine to_c (fun _ => rfB3 rwd3 (FrB_r u)) (fun _ => ?_)
  rw [oi_nI (by decide) (show j < 6 by omega)]
  refine to_c (fun _ => rfB3 rwd3 (FrB_r u)) (fun _ => ?_)
  refine to_b (inB_T _ _ _ u) (fun a w hw => ?_)
  obtain ⟨e, hr⟩ := hw
  have e : w = u := e
  subst e
  refine to_c (fun _ => ?_) (fun c => ?_)
  · rw [oi_in (by decide) (show rg 4 (3 : Int32) from ⟨3, by decide, by decide⟩)]
    unfold f_X0_addChange
    rw [oi_nI (by decide) (show j < 6 by omega), lt_e, oi_nI (by decide) (show j < 6 by omega), oi_nI (by decide) (show j < 6 by omega)]
    refine to_b (Q := fun p => FrB w p.2) (to_c (fun _ => ?_) (fun _ => to_s (FrB_r w))) (fun a x hx => to_s hx)
    rw [lt_e]; exact to_s (FrB_L (FrB_r w))
  · rcases hr with q | q | q
    · exact absurd q c
    · have q : a = -4 := q
      subst q; exact rfB3 rwd4 (FrB_r w)
    · have q : a = -6 := q
      subst q; exact rfB3 rwd6 (FrB_r w)
theorem chgM (h : RT k u v) (l n : Int32) : TO (fun p => MK v p.2) (f_X10_change l n v) := by
  obtain ⟨⟨t, L, ht, hL1, hL6, e0, e0m, e2, e2m, e1, e1c⟩, h2⟩ := id h
  unfold f_X10_change f_X10_change_L30
  rcases cl_c l L with ⟨j, hj, rfl⟩ | hl
  rotate_left
  · rw [isLot_f e2m hL1 hL6 hl, ob_s, if_pos rfl]; exact rfM3 rwd1 (MK_r v)
  rw [isLot_t e2m hL1 hL6 ⟨j, hj, rfl⟩, ob_s, if_neg nz_1]
  refine to_c (fun _ => rfM3 rwd3 (MK_r v)) (fun _ => ?_)
  rw [oi_nI (by decide) (show j < 6 by omega)]
  refine to_c (fun _ => to_c (fun _ => to_c (fun _ => ?_) (fun _ => rfM3 rwd6 (MK_r v))) (fun _ => rfM3 rwd4 (MK_r v))) (fun _ => rfM3 rwd3 (MK_r v))
  rw [oi_nI (by decide) (show j < 6 by omega), oi_in (by decide) (show rg 4 (3 : Int32) from ⟨3, by decide, by decide⟩), oi_nI (by decide) (show j < 6 by omega)]
  refine to_c (fun _ => ?_) (fun _ => to_s (MK_r v))
  rw [oi_nI (by decide) (show j < 6 by omega), oi_nI (by decide) (show j < 6 by omega), lt_e, oi_nI (by decide) (show j < 6 by omega)]
  exact to_s (MK_A (by unfold kMA; omega) (MK_r v))
theorem st_changeT (h : RT k u v) (l n : Int32) : QN (RT (k + 1)) (f_X9_change l n u) (f_X10_change l n v) := qn_fr h (chgB h l n) (chgM h l n)
/-! count -/
theorem stB_T (h : RT k u v) {c : Nat} (hc : c < 48) : TO (fun p : Int32 × SS => p.2 = u ∧ bo p.1) (f_X1_standsAt (nI c) u) := by
  have a := h.2.2.2.1 (c / 6) (c % 6) (by omega) (by omega)
  have b := h.2.2.2.2.1 (c / 6) (c % 6) (by omega) (by omega)
  have e : c / 6 * 6 + c % 6 = c := by omega
  rw [e] at a b
  rcases Std_c u c with s | s
  · rw [stdB_t hc s]; exact to_s ⟨rfl, Or.inr rfl⟩
  · rw [stdB_f hc a.1.2 b.1 s]; exact to_s ⟨rfl, Or.inl rfl⟩
theorem stM_T (h : RT k u v) {c : Nat} (hc : c < 48) : TO (fun p : Int32 × SS => p.2 = v ∧ bo p.1) (f_X10_doesStand (nI c) v) := by
  have e : 8 * (c / 8) + c % 8 = c := by omega
  rw [← e]
  rcases Std_c u (c % 8 * 6 + c / 8) with s | s
  · rw [dsM_t h (by omega) (by omega) s]; exact to_s ⟨rfl, Or.inr rfl⟩
  · rw [dsM_f h (by omega) (by omega) s]; exact to_s ⟨rfl, Or.inl rfl⟩
theorem ctB_T : TO (fun p : Int32 × SS => p.2 = u) (f_X1_countThere u) := by
  refine loopR (fun F (x : Int32 × Int32 × SS) => f_X1_countThere_L4 F x.1 x.2.1 x.2.2) (fun i x => x.2 = (nI i, u)) _ 48 ?_ (F := FU) (x := ((0 : Int32), (0 : Int32), u)) (Nat.lt_trans (by decide) FU_ge) rfl
  intro F x i hi hI hc
  obtain ⟨b1, b2, w⟩ := x
  obtain ⟨rfl, rfl⟩ := Prod.mk.inj hI
  show TO _ (b_X1_countThere_L4 (f_X1_countThere_L4 F) b1 (nI i) w)
  unfold b_X1_countThere_L4 f_X1_countThere_L22
  refine to_c (fun _ => to_s rfl) (fun c => ?_)
  have hi2 : i < 48 := by
    rcases Nat.lt_or_ge i 48 with q | q
    · exact q
    · exact absurd (nI_le (a := 48) q (by omega)) c
  rw [oi_nI (by decide) hi2]
  refine to_c (fun _ => ?_) (fun _ => ?_)
  · rw [lt_e, nI_1]; exact hc (b1, nI (i + 1), w) hi2 rfl
  · rw [lt_e, lt_e, nI_1]; exact hc (b1 + 1, nI (i + 1), w) hi2 rfl
theorem csB_T (h : RT k u v) : TO (fun p : Int32 × SS => p.2 = u) (f_X1_countStanding u) := by
  refine loopR (fun F (x : Int32 × Int32 × SS) => f_X1_countStanding_L4 F x.1 x.2.1 x.2.2) (fun i x => x.2 = (nI i, u)) _ 48 ?_ (F := FU) (x := ((0 : Int32), (0 : Int32), u)) (Nat.lt_trans (by decide) FU_ge) rfl
  intro F x i hi hI hc
  obtain ⟨b1, b2, w⟩ := x
  obtain ⟨rfl, rfl⟩ := Prod.mk.inj hI
  show TO _ (b_X1_countStanding_L4 (f_X1_countStanding_L4 F) b1 (nI i) w)
  unfold b_X1_countStanding_L4 f_X1_countStanding_L21
  refine to_c (fun _ => to_s rfl) (fun c => ?_)
  have hi2 : i < 48 := by
    rcases Nat.lt_or_ge i 48 with q | q
    · exact q
    · exact absurd (nI_le (a := 48) q (by omega)) c
  refine to_b (stB_T h hi2) (fun a x hx => ?_)
  have e : x = w := hx.1
  subst e
  refine to_c (fun _ => ?_) (fun _ => ?_)
  · rw [lt_e, nI_1]; exact hc (b1, nI (i + 1), x) hi2 rfl
  · rw [lt_e, lt_e, nI_1]; exact hc (b1 + 1, nI (i + 1), x) hi2 rfl
theorem cnM_T (h : RT k u v) {L : Nat} (hL : L ≤ 6) (e2 : gI v 2 = nI L) (a : Int32) : TO (fun p : Int32 × SS => p.2 = v) (f_X10_count_L68 FU a (0 : Int32) (0 : Int32) v) := by
  refine loopR (fun F (x : Int32 × Int32 × SS) => f_X10_count_L68 F a x.1 x.2.1 x.2.2) (fun i x => x.2 = (nI i, v)) _ (8 * L) ?_ (F := FU) (x := ((0 : Int32), (0 : Int32), v)) (Nat.lt_trans (show 8 * L < 1000 by omega) FU_ge) rfl
  intro F x i hi hI hc
  obtain ⟨b1, b2, w⟩ := x
  obtain ⟨rfl, rfl⟩ := Prod.mk.inj hI
  show TO _ (b_X10_count_L68 (f_X10_count_L68 F) a b1 (nI i) w)
  unfold b_X10_count_L68 f_X10_count_L109 f_X10_count_L105 f_X10_count_L110
  rw [e2, show (8 : Int32) * nI L = nI (8 * L) from pk_mul 8 L]
  refine to_c (fun _ => to_s rfl) (fun c => ?_)
  have hi2 : i < 8 * L := by
    rcases Nat.lt_or_ge i (8 * L) with q | q
    · exact q
    · exact absurd (nI_le q (by omega)) c
  rw [oi_nI (by decide) (show i < 48 by omega)]
  have st : ∀ q0 : Int32, TO (fun p : Int32 × SS => p.2 = w) (lt (b1 + q0) fun x7 => lt (nI i + (1 : Int32)) fun x8 => f_X10_count_L68 F a x7 x8 w) := by
    intro q0
    rw [lt_e, lt_e, nI_1]; exact hc (b1 + q0, nI (i + 1), w) hi2 rfl
  refine to_c (fun _ => to_c (fun _ => st _) (fun _ => st _)) (fun _ => ?_)
  refine to_b (stM_T h (show i < 48 by omega)) (fun a x hx => ?_)
  have e : x = w := hx.1
  subst e
  exact to_c (fun _ => st _) (fun _ => st _)
theorem dig10 {x : Int32} (h : ¬ (x.toInt < 0 ∨ 9 < x.toInt)) : x = 0 ∨ x = 1 ∨ x = 2 ∨ x = 3 ∨ x = 4 ∨ x = 5 ∨ x = 6 ∨ x = 7 ∨ x = 8 ∨ x = 9 := by
  obtain ⟨m, hm, rfl⟩ := nI_of2 (x := x) (M := (9 : Int32)) (n := 9) (by decide) (fun z => h (Or.inl (by have := Int32.lt_iff_toInt_lt.mp z; exact this))) (Int32.le_iff_toInt_le.mpr (by show x.toInt ≤ 9; omega))
  match m, hm with
  | 0, _ => exact Or.inl rfl
  | 1, _ => exact Or.inr (Or.inl rfl)
  | 2, _ => exact Or.inr (Or.inr (Or.inl rfl))
  | 3, _ => exact Or.inr (Or.inr (Or.inr (Or.inl rfl)))
  | 4, _ => exact Or.inr (Or.inr (Or.inr (Or.inr (Or.inl rfl))))
  | 5, _ => exact Or.inr (Or.inr (Or.inr (Or.inr (Or.inr (Or.inl rfl)))))
  | 6, _ => exact Or.inr (Or.inr (Or.inr (Or.inr (Or.inr (Or.inr (Or.inl rfl))))))
  | 7, _ => exact Or.inr (Or.inr (Or.inr (Or.inr (Or.inr (Or.inr (Or.inr (Or.inl rfl)))))))
  | 8, _ => exact Or.inr (Or.inr (Or.inr (Or.inr (Or.inr (Or.inr (Or.inr (Or.inr (Or.inl rfl))))))))
  | 9, _ => exact Or.inr (Or.inr (Or.inr (Or.inr (Or.inr (Or.inr (Or.inr (Or.inr (Or.inr rfl))))))))
theorem seq {α : Type} {u : SS} {o : Option (α × SS)} (h : TO (fun p : α × SS => p.2 = u) o) : TO (fun p : α × SS => p.2 = u) (ob o fun r u2 => some (r, u2)) := to_b h (fun _ _ q => to_s q)
theorem opB_T : TO (fun p : Int32 × SS => p.2 = u) (f_X1_isOpen u) := by
  rcases Opn_dec u with ho | ho
  · rw [opB_t ho]; exact to_s rfl
  · rw [opB_f ho]; exact to_s rfl
theorem opM_T (h : RT k u v) : TO (fun p : Int32 × SS => p.2 = v) (f_X10_isOpen v) := by
  rcases Opn_dec u with ho | ho
  · rw [opM_t h.1 ho]; exact to_s rfl
  · rw [opM_f h.1 ho]; exact to_s rfl
theorem coB_T (h : RT k u v) (n : Int32) : TO (fun p : Int32 × SS => p.2 = u) (f_X9_count n u) := by
  obtain ⟨⟨t, L, ht, hL1, hL6, e0, e0m, e2, e2m, e1, e1c⟩, h2, h3, h4, h5, h6, h7, h8, h9, h10, h11, ⟨hz, e22, b15, e23, b16, e24, r, hr, e18, c, hc, e17, e25, hz0, hq⟩, h13⟩ := id h
  have L22 : TO (fun p : Int32 × SS => p.2 = u) (f_X9_count_L22 n u) := by
    unfold f_X9_count_L22
    refine to_c (fun _ => to_s rfl) (fun c => ?_)
    have d := dig10 c
    refine to_c (fun _ => to_s rfl) (fun c0 => ?_)
    refine to_c (fun _ => to_s rfl) (fun c1 => ?_)
    refine to_c (fun _ => seq ctB_T) (fun c2 => ?_)
    refine to_c (fun _ => seq (csB_T h)) (fun c3 => ?_)
    refine to_c (fun _ => to_s rfl) (fun c4 => ?_)
    refine to_c (fun _ => to_b opB_T (fun a x q => to_c (fun _ => to_s q) (fun _ => to_s q))) (fun c5 => ?_)
    refine to_c (fun _ => to_c (fun _ => to_s rfl) (fun _ => to_s rfl)) (fun c6 => ?_)
    refine to_c (fun _ => to_c (fun _ => to_s rfl) (fun _ => to_s rfl)) (fun c7 => ?_)
    refine to_c (fun _ => seq (by rw [chB (v := v) hc e17 (fun i hi => hoB hc b15 hi (hq i hi).2.2.2.2.2.2)]; exact to_s rfl)) (fun c8 => ?_)
    refine to_c (fun _ => to_s rfl) (fun c9 => ?_)
    exfalso
    rcases d with d | d | d | d | d | d | d | d | d | d
    · exact c0 d
    · exact c1 d
    · exact c2 d
    · exact c3 d
    · exact c4 d
    · exact c5 d
    · exact c6 d
    · exact c7 d
    · exact c8 d
    · exact c9 d
  unfold f_X9_count
  refine to_c (fun _ => L22) (fun d1 => to_c (fun _ => L22) (fun d2 => ?_))
  refine to_i (by decide) ?_ (to_s rfl)
  have q1 := Int32.le_iff_toInt_le.mp (Int32.not_lt.mp d1)
  have q2 := Int32.le_iff_toInt_le.mp (Int32.not_lt.mp d2)
  obtain ⟨m, hm, rfl⟩ := nI_of2 (x := n) (M := (17 : Int32)) (n := 17) (by decide) (fun z => d1 (Int32.lt_trans z (by decide))) (Int32.not_lt.mp d2)
  rw [nI_toInt (by omega)] at q1
  have q4 : (11 : Int32).toInt = 11 := by decide
  exact ⟨m - 10, by omega, by rw [show m = (m - 10) + 10 by omega, ← nI_add]; exact Int32.add_sub_cancel _ _⟩
theorem coM_T (h : RT k u v) (n : Int32) : TO (fun p : Int32 × SS => p.2 = v) (f_X10_count n v) := by
  obtain ⟨⟨t, L, ht, hL1, hL6, e0, e0m, e2, e2m, e1, e1c⟩, h2, h3, h4, h5, h6, h7, h8, h9, h10, h11, ⟨hz, e22, b15, e23, b16, e24, r, hr, e18, c, hc, e17, e25, hz0, hq⟩, h13⟩ := id h
  unfold f_X10_count
  refine to_c (fun _ => ?_) (fun c => ?_)
  · unfold f_X10_in
    by_cases d1 : n < 11
    · rw [if_pos d1, ob_s, if_pos rfl]; exact to_s rfl
    · rw [if_neg d1]
      by_cases d2 : (17 : Int32) < n
      · rw [if_pos d2, ob_s, if_pos rfl]; exact to_s rfl
      · rw [if_neg d2, ob_s, if_neg nz_1]
        refine to_i (by decide) ?_ (to_s rfl)
        have q1 := Int32.le_iff_toInt_le.mp (Int32.not_lt.mp d1)
        obtain ⟨m, hm, rfl⟩ := nI_of2 (x := n) (M := (17 : Int32)) (n := 17) (by decide) (fun z => d1 (Int32.lt_trans z (by decide))) (Int32.not_lt.mp d2)
        rw [nI_toInt (by omega)] at q1
        have q4 : (11 : Int32).toInt = 11 := by decide
        exact ⟨m - 10, by omega, by rw [show m = (m - 10) + 10 by omega, ← nI_add]; exact Int32.add_sub_cancel _ _⟩
  · have d := dig10 c
    refine to_c (fun _ => to_s rfl) (fun c0 => ?_)
    refine to_c (fun _ => to_s rfl) (fun c1 => ?_)
    refine to_c (fun _ => cnM_T h hL6 e2m _) (fun c2 => ?_)
    refine to_c (fun _ => cnM_T h hL6 e2m _) (fun c3 => ?_)
    refine to_c (fun _ => to_s rfl) (fun c4 => ?_)
    refine to_c (fun _ => to_b (opM_T h) (fun a x q => to_c (fun _ => to_s q) (fun _ => to_s q))) (fun c5 => ?_)
    refine to_c (fun _ => to_c (fun _ => to_s rfl) (fun _ => to_s rfl)) (fun c6 => ?_)
    refine to_c (fun _ => to_c (fun _ => to_s rfl) (fun _ => to_s rfl)) (fun c7 => ?_)
    refine to_c (fun _ => seq (by rw [hdM hc e25]; exact to_s rfl)) (fun c8 => ?_)
    refine to_c (fun _ => to_s rfl) (fun c9 => ?_)
    exfalso
    rcases d with d | d | d | d | d | d | d | d | d | d
    · exact c0 d
    · exact c1 d
    · exact c2 d
    · exact c3 d
    · exact c4 d
    · exact c5 d
    · exact c6 d
    · exact c7 d
    · exact c8 d
    · exact c9 d
theorem st_countT (h : RT k u v) (n : Int32) : QN (RT (k + 1)) (f_X9_count n u) (f_X10_count n v) := qn_fr h (to_w (coB_T h n) (fun p q => by rw [q]; exact FrB_r u)) (to_w (coM_T h n) (fun p q => by rw [q]; exact MK_r v))
end ST13
