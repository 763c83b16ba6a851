section ST12
variable {FE : (Nat → Int32) → Nat → (Nat → Int32) → Nat → Prop} {AW : (Nat → Int32) → (Nat → Int32) → (Nat → Int64) → (Nat → Int32) → (Nat → Int32) → (Nat → Int32) → Prop} {FD : SS → SS → Prop} {k : Nat} {u v : SS}
theorem RR_ju {u2 v2 : SS} (h : RR FE AW FD k u v) (hI : ∀ i : Nat, i ≠ 4 → i ≠ 15 → gI u2 i = gI u i) (hu : ∀ a : Nat, a ≠ 4 → a ≠ 5 → a ≠ 10 → a ≠ 13 → a ≠ 28 → gA u2 a = gA u a) (hL : gL u2 8 = gL u 8) (hV : ∀ i : Nat, i ≠ 7 → i ≠ 16 → i ≠ 22 → gI v2 i = gI v i) (hv : ∀ a : Nat, a ≠ 6 → a ≠ 7 → a ≠ 9 → a ≠ 13 → a ≠ 29 → gA v2 a = gA v a) (r5 : Rou u2 v2) (r6 : Ras u2 v2) (r7 : Rno u2 v2) (r10 : Rfo FE u2 v2) (r12 : Raw (k + 1) u2 v2) (r16 : bo (gI v2 16)) (r17 : (Opn u2 → gI v2 16 = 0)) (r19 : gI v2 16 = 1 → FD u2 v2) : RR FE AW FD (k + 1) u2 v2 := by
  obtain ⟨h1, h2, h3, h4, h5, h6, h7, h8, h9, h10, h11, h12, h13, h14, h15, h16, h17, h18, h19⟩ := h
  refine ⟨?_, ?_, ?_, ?_, r5, r6, r7, ?_, ?_, r10, ?_, r12, ?_, ?_, ?_, r16, r17, ?_, r19⟩
  · unfold Rtm; rw [hI 0 (by decide) (by decide), hI 1 (by decide) (by decide), hI 2 (by decide) (by decide), hV 0 (by decide) (by decide) (by decide), hV 1 (by decide) (by decide) (by decide), hV 2 (by decide) (by decide) (by decide)]; exact h1
  · unfold Rst; rw [hu 1 (by decide) (by decide) (by decide) (by decide) (by decide), hv 8 (by decide) (by decide) (by decide) (by decide) (by decide)]; exact h2
  · unfold Rrt; rw [hu 2 (by decide) (by decide) (by decide) (by decide) (by decide), hv 0 (by decide) (by decide) (by decide) (by decide) (by decide)]; exact h3
  · unfold Rbd; rw [hu 3 (by decide) (by decide) (by decide) (by decide) (by decide), hu 6 (by decide) (by decide) (by decide) (by decide) (by decide), hu 7 (by decide) (by decide) (by decide) (by decide) (by decide), hu 8 (by decide) (by decide) (by decide) (by decide) (by decide), hu 9 (by decide) (by decide) (by decide) (by decide) (by decide), hv 1 (by decide) (by decide) (by decide) (by decide) (by decide), hv 2 (by decide) (by decide) (by decide) (by decide) (by decide), hv 3 (by decide) (by decide) (by decide) (by decide) (by decide), hv 4 (by decide) (by decide) (by decide) (by decide) (by decide), hv 5 (by decide) (by decide) (by decide) (by decide) (by decide)]; exact h4
  · unfold Rba; rw [hu 11 (by decide) (by decide) (by decide) (by decide) (by decide), hv 10 (by decide) (by decide) (by decide) (by decide) (by decide)]; exact h8
  · unfold Rtp; rw [hI 5 (by decide) (by decide), hV 6 (by decide) (by decide) (by decide)]; exact h9
  · unfold Rmo; rw [hu 20 (by decide) (by decide) (by decide) (by decide) (by decide), hu 22 (by decide) (by decide) (by decide) (by decide) (by decide), hv 16 (by decide) (by decide) (by decide) (by decide) (by decide), hv 17 (by decide) (by decide) (by decide) (by decide) (by decide)]; exact h11
  · unfold Rfw; rw [hI 20 (by decide) (by decide), hI 21 (by decide) (by decide), hI 22 (by decide) (by decide), hI 23 (by decide) (by decide), hI 24 (by decide) (by decide), hu 31 (by decide) (by decide) (by decide) (by decide) (by decide), hu 32 (by decide) (by decide) (by decide) (by decide) (by decide), hV 26 (by decide) (by decide) (by decide), hV 27 (by decide) (by decide) (by decide), hV 28 (by decide) (by decide) (by decide), hV 29 (by decide) (by decide) (by decide), hV 30 (by decide) (by decide) (by decide), hv 32 (by decide) (by decide) (by decide) (by decide) (by decide), hv 33 (by decide) (by decide) (by decide) (by decide) (by decide)]; exact h13
  · rw [hv 18 (by decide) (by decide) (by decide) (by decide) (by decide)]; exact h14
  · rw [hv 24 (by decide) (by decide) (by decide) (by decide) (by decide)]; exact h15
  · rw [hu 25 (by decide) (by decide) (by decide) (by decide) (by decide), hu 30 (by decide) (by decide) (by decide) (by decide) (by decide), hv 24 (by decide) (by decide) (by decide) (by decide) (by decide), hv 25 (by decide) (by decide) (by decide) (by decide) (by decide), hv 26 (by decide) (by decide) (by decide) (by decide) (by decide), hL]; exact h18
/-- the class: the lot's notes cleared up to a place -/
def CL (l i : Nat) (u w : SS) : Prop := (∀ j : Nat, gI w j = gI u j) ∧ (∀ a : Nat, a ≠ 10 → gA w a = gA u a) ∧ gL w 8 = gL u 8 ∧ ∀ x : Nat, gA w 10 x = if x < i ∧ x % 6 = l then -9 else gA u 10 x
theorem clB {l : Nat} (hl : l < 6) : TO (CL l 288 u) (f_X5_clearLot (nI l) u) := by
  refine loopR (fun F (x : Int32 × SS) => f_X5_clearLot_L2 F (nI l) x.1 x.2) (fun i x => x.1 = nI i ∧ CL l i u x.2) _ 288 ?_ (F := FU) (x := ((0 : Int32), u)) (Nat.lt_trans (by decide) FU_ge) ⟨rfl, fun _ => rfl, fun _ _ => rfl, rfl, fun x => by rw [if_neg (by omega)]⟩
  intro F x i hi hI hc
  obtain ⟨b2, w⟩ := x
  obtain ⟨e, k1, k2, k3, k4⟩ := hI
  have e : b2 = nI i := e
  subst e
  show TO _ (b_X5_clearLot_L2 (f_X5_clearLot_L2 F) (nI l) (nI i) w)
  unfold b_X5_clearLot_L2
  by_cases c : i = 288
  · subst c
    rw [if_pos (show (288 : Int32) ≤ nI 288 by decide)]
    exact to_s ⟨k1, k2, k3, k4⟩
  · have e6 : nI i - nI i / (6 : Int32) * (6 : Int32) = nI (i % 6) := pk_rem (d := 6) (by omega) (by decide) (by decide)
    rw [if_neg (show ¬ (288 : Int32) ≤ nI i from nI_ge (b := 288) (by omega) (by decide)), e6]
    unfold f_X5_clearLot_L27
    by_cases c2 : i % 6 = l
    · rw [if_pos (by rw [c2]), oi_nI (by decide) (show i < 288 by omega), lt_e, lt_e, nI_1]
      refine hc (nI (i + 1), _) (by omega) ⟨rfl, k1, fun a a1 => ?_, k3, fun x => ?_⟩
      · show gA (tA w 10 (nI i) (-9)) a = _
        rw [tAn a1, k2 a a1]
      · show gA (tA w 10 (nI i) (-9)) 10 x = _
        rw [tAe, nI_clamp (by omega)]
        by_cases z : x = i
        · rw [z, upd_s, if_pos (by omega)]
        · rw [upd_n _ _ z, k4 x]
          by_cases z2 : x < i ∧ x % 6 = l
          · rw [if_pos z2, if_pos (by omega)]
          · rw [if_neg z2, if_neg (by omega)]
    · rw [if_neg (fun z => c2 ((nI_eq (by omega) (by omega)).mp z)), lt_e, nI_1]
      refine hc (nI (i + 1), w) (by omega) ⟨rfl, k1, k2, k3, fun x => ?_⟩
      show gA w 10 x = _
      rw [k4 x]
      by_cases z2 : x < i ∧ x % 6 = l
      · rw [if_pos z2, if_pos (by omega)]
      · rw [if_neg z2, if_neg (fun y => z2 ⟨by rcases Nat.lt_or_ge x i with q | q; exact q; exact absurd (show x = i by omega) (fun q2 => by subst q2; exact c2 y.2), y.2⟩)]
/-- the class: whoever was told out in the lot is in again -/
def CO (l i : Nat) (u w : SS) : Prop := (∀ j : Nat, gI w j = gI u j) ∧ (∀ a : Nat, a ≠ 4 → a ≠ 5 → gA w a = gA u a) ∧ gL w 8 = gL u 8 ∧ (∀ b m : Nat, b < 8 → m < 6 → gA w 4 (b * 6 + m) = if m = l ∧ b < i ∧ ¬ gA u 3 (b * 6 + m) = 0 then 0 else gA u 4 (b * 6 + m)) ∧ ∀ b m : Nat, b < 8 → m < 6 → gA w 5 (b * 6 + m) = if m = l ∧ b < i ∧ ¬ gA u 3 (b * 6 + m) = 0 ∧ ¬ gA u 5 (b * 6 + m) = 0 ∧ ¬ gI u 0 ≤ gA u 5 (b * 6 + m) then 0 else gA u 5 (b * 6 + m)
theorem coB {l : Nat} (hl : l < 6) : TO (CO l 8 u) (f_X1_clearOuts (nI l) u) := by
  refine loopR (fun F (x : Int32 × SS) => f_X1_clearOuts_L2 F (nI l) x.1 x.2) (fun i x => x.1 = nI i ∧ CO l i u x.2) _ 8 ?_ (F := FU) (x := ((0 : Int32), u)) (Nat.lt_trans (by decide) FU_ge) ⟨rfl, fun _ => rfl, fun _ _ _ => rfl, rfl, fun b m _ _ => by rw [if_neg (by omega)], fun b m _ _ => by rw [if_neg (by omega)]⟩
  intro F x i hi hI hc
  obtain ⟨b2, w⟩ := x
  obtain ⟨e, k1, k2, k3, k4, k5⟩ := hI
  have e : b2 = nI i := e
  subst e
  show TO _ (b_X1_clearOuts_L2 (f_X1_clearOuts_L2 F) (nI l) (nI i) w)
  unfold b_X1_clearOuts_L2
  by_cases c : i = 8
  · subst c
    rw [if_pos (show (8 : Int32) ≤ nI 8 by decide)]
    exact to_s ⟨k1, k2, k3, k4, k5⟩
  · have a5 := k5 i l (by omega) hl
    rw [if_neg (by omega)] at a5
    rw [if_neg (show ¬ (8 : Int32) ≤ nI i from nI_ge (b := 8) (by omega) (by decide)), ceB, ob_s, cellB, oi_nI (by decide) (show i * 6 + l < 48 by omega), nI_clamp (by omega), k2 3 (by decide) (by decide)]
    unfold f_X1_clearOuts_L28
    by_cases c2 : gA u 3 (i * 6 + l) = 0
    · rw [if_pos c2, lt_e, nI_1]
      refine hc (nI (i + 1), w) (by omega) ⟨rfl, k1, k2, k3, fun b m hb hm => ?_, fun b m hb hm => ?_⟩
      · show gA w 4 (b * 6 + m) = _
        rw [k4 b m hb hm]
        by_cases z : b = i ∧ m = l
        · obtain ⟨rfl, rfl⟩ := z
          rw [if_neg (by omega), if_neg (fun y => y.2.2 c2)]
        · by_cases z2 : m = l ∧ b < i ∧ ¬ gA u 3 (b * 6 + m) = 0
          · rw [if_pos z2, if_pos ⟨z2.1, by omega, z2.2.2⟩]
          · rw [if_neg z2, if_neg (fun y => z2 ⟨y.1, by omega, y.2.2⟩)]
      · show gA w 5 (b * 6 + m) = _
        rw [k5 b m hb hm]
        by_cases z : b = i ∧ m = l
        · obtain ⟨rfl, rfl⟩ := z
          rw [if_neg (by omega), if_neg (fun y => y.2.2.1 c2)]
        · by_cases z2 : m = l ∧ b < i ∧ ¬ gA u 3 (b * 6 + m) = 0 ∧ ¬ gA u 5 (b * 6 + m) = 0 ∧ ¬ gI u 0 ≤ gA u 5 (b * 6 + m)
          · rw [if_pos z2, if_pos ⟨z2.1, by omega, z2.2.2⟩]
          · rw [if_neg z2, if_neg (fun y => z2 ⟨y.1, by omega, y.2.2⟩)]
    · rw [if_neg c2]
      unfold f_X1_clearOut
      have n4 : ∀ b m : Nat, b < 8 → m < 6 → gA (tZ w 4 (nI (i * 6 + l)) 0) 4 (b * 6 + m) = if m = l ∧ b < i + 1 ∧ ¬ gA u 3 (b * 6 + m) = 0 then 0 else gA u 4 (b * 6 + m) := by
        intro b m hb hm
        rw [tZe, nar_0, nI_clamp (by omega)]
        by_cases z : b = i ∧ m = l
        · obtain ⟨rfl, rfl⟩ := z
          rw [upd_s, if_pos ⟨rfl, by omega, c2⟩]
        · rw [upd_n _ _ (by omega), k4 b m hb hm]
          by_cases z2 : m = l ∧ b < i ∧ ¬ gA u 3 (b * 6 + m) = 0
          · rw [if_pos z2, if_pos ⟨z2.1, by omega, z2.2.2⟩]
          · rw [if_neg z2, if_neg (fun y => z2 ⟨y.1, by omega, y.2.2⟩)]
      rw [oi_nI (by decide) (show i * 6 + l < 48 by omega), lt_e]
      by_cases c3 : Lps (tZ w 4 (nI (i * 6 + l)) 0) (i * 6 + l)
      · rw [lapB_t (show i * 6 + l < 48 by omega) c3, ob_s, if_neg nz_1, oi_nI (by decide) (show i * 6 + l < 48 by omega), lt_e, ov_s, lt_e, nI_1]
        have c4 : ¬ gA u 5 (i * 6 + l) = 0 ∧ ¬ gI u 0 ≤ gA u 5 (i * 6 + l) := by
          unfold Lps at c3
          rw [tZn (by decide), gI_tZ, k1 0, a5] at c3; exact c3
        refine hc (nI (i + 1), _) (by omega) ⟨rfl, fun j => ?_, fun a q1 q2 => ?_, k3, fun b m hb hm => ?_, fun b m hb hm => ?_⟩
        · show gI (tA (tZ w 4 (nI (i * 6 + l)) 0) 5 (nI (i * 6 + l)) 0) j = _
          rw [gI_tA, gI_tZ, k1 j]
        · show gA (tA (tZ w 4 (nI (i * 6 + l)) 0) 5 (nI (i * 6 + l)) 0) a = _
          rw [tAn q2, tZn q1, k2 a q1 q2]
        · show gA (tA (tZ w 4 (nI (i * 6 + l)) 0) 5 (nI (i * 6 + l)) 0) 4 (b * 6 + m) = _
          rw [tAn (by decide), n4 b m hb hm]
        · show gA (tA (tZ w 4 (nI (i * 6 + l)) 0) 5 (nI (i * 6 + l)) 0) 5 (b * 6 + m) = _
          rw [tAe, tZn (by decide), nI_clamp (by omega)]
          by_cases z : b = i ∧ m = l
          · obtain ⟨rfl, rfl⟩ := z
            rw [upd_s, if_pos ⟨rfl, by omega, c2, c4⟩]
          · rw [upd_n _ _ (by omega), k5 b m hb hm]
            by_cases z2 : m = l ∧ b < i ∧ ¬ gA u 3 (b * 6 + m) = 0 ∧ ¬ gA u 5 (b * 6 + m) = 0 ∧ ¬ gI u 0 ≤ gA u 5 (b * 6 + m)
            · rw [if_pos z2, if_pos ⟨z2.1, by omega, z2.2.2⟩]
            · rw [if_neg z2, if_neg (fun y => z2 ⟨y.1, by omega, y.2.2⟩)]
      · rw [lapB_f (show i * 6 + l < 48 by omega) c3, ob_s, if_pos rfl, ov_s, lt_e, nI_1]
        have c4 : ¬ (¬ gA u 5 (i * 6 + l) = 0 ∧ ¬ gI u 0 ≤ gA u 5 (i * 6 + l)) := by
          unfold Lps at c3
          rw [tZn (by decide), gI_tZ, k1 0, a5] at c3; exact c3
        refine hc (nI (i + 1), _) (by omega) ⟨rfl, fun j => ?_, fun a q1 q2 => ?_, k3, fun b m hb hm => ?_, fun b m hb hm => ?_⟩
        · show gI (tZ w 4 (nI (i * 6 + l)) 0) j = _
          rw [gI_tZ, k1 j]
        · show gA (tZ w 4 (nI (i * 6 + l)) 0) a = _
          rw [tZn q1, k2 a q1 q2]
        · exact n4 b m hb hm
        · show gA (tZ w 4 (nI (i * 6 + l)) 0) 5 (b * 6 + m) = _
          rw [tZn (by decide), k5 b m hb hm]
          by_cases z : b = i ∧ m = l
          · obtain ⟨rfl, rfl⟩ := z
            rw [if_neg (by omega), if_neg (fun y => c4 y.2.2.2)]
          · by_cases z2 : m = l ∧ b < i ∧ ¬ gA u 3 (b * 6 + m) = 0 ∧ ¬ gA u 5 (b * 6 + m) = 0 ∧ ¬ gI u 0 ≤ gA u 5 (b * 6 + m)
            · rw [if_pos z2, if_pos ⟨z2.1, by omega, z2.2.2⟩]
            · rw [if_neg z2, if_neg (fun y => z2 ⟨y.1, by omega, y.2.2⟩)]
/-- the reference: the challenges closed -/
def UC (i : Nat) (v w : SS) : Prop := (∀ j : Nat, gI w j = gI v j) ∧ (∀ a : Nat, a ≠ 29 → gA w a = gA v a) ∧ ∀ x : Nat, gA w 29 x = if x < i then 0 else gA v 29 x
theorem ucM {P : SS → Prop} {c : Nat} (hc : c ≤ 20) (e25 : gI v 25 = nI c) (l s : Int32) (hk : ∀ w, UC c v w → TO P (if s = 0 then (oi (0 : Int32) 80 (lt (tA w 13 (0 : Int32) (113 : Int32)) fun u13 => lt (sI u13 7 (1 : Int32)) fun u14 => f_X10_undo_L45 l s u14)) else (f_X10_undo_L45 l s w))) : TO P (f_X10_undo_L7 FU l s (0 : Int32) v) := by
  refine loopR (fun F (x : Int32 × SS) => f_X10_undo_L7 F l s x.1 x.2) (fun i x => x.1 = nI i ∧ UC i v x.2) _ c ?_ (F := FU) (x := ((0 : Int32), v)) (Nat.lt_trans (show c < 1000 by omega) FU_ge) ⟨rfl, fun _ => rfl, fun _ _ => rfl, fun x => by rw [if_neg (by omega)]⟩
  intro F x i hi hI hc2
  obtain ⟨b3, w⟩ := x
  obtain ⟨e, k1, k2, k3⟩ := hI
  have e : b3 = nI i := e
  subst e
  show TO _ (b_X10_undo_L7 (f_X10_undo_L7 F) l s (nI i) w)
  unfold b_X10_undo_L7
  rw [k1 25, e25]
  by_cases z : i = c
  · subst z
    rw [if_pos (nI_le (Nat.le_refl _) (by omega))]
    exact hk w ⟨k1, k2, k3⟩
  · rw [if_neg (nI_ge (show i < c by omega) (by omega)), oi_nI (by decide) (show i < 20 by omega), lt_e, lt_e, nI_1]
    refine hc2 (nI (i + 1), _) (by omega) ⟨rfl, k1, fun a q => ?_, fun x => ?_⟩
    · show gA (tZ w 29 (nI i) 0) a = _
      rw [tZn q, k2 a q]
    · show gA (tZ w 29 (nI i) 0) 29 x = _
      rw [tZe, nar_0, nI_clamp (by omega)]
      by_cases z1 : x = i
      · rw [z1, upd_s, if_pos (by omega)]
      · rw [upd_n _ _ z1, k3 x]
        by_cases z2 : x < i
        · rw [if_pos z2, if_pos (by omega)]
        · rw [if_neg z2, if_neg (by omega)]
def slI (v : SS) (c : Nat) : Prop := ¬ gA v 7 c < 0 ∧ ¬ gI v 0 ≤ gA v 7 c
theorem slM_t {c : Nat} (hc : c < 48) (h : slI v c) : f_X10_isSilent (nI c) v = some (1, v) := by
  unfold f_X10_isSilent
  rw [oi_nI (by decide) hc, nI_clamp (by omega), if_neg h.1, oi_nI (by decide) hc, if_neg h.2]
theorem slM_f {c : Nat} (hc : c < 48) (h : ¬ slI v c) : f_X10_isSilent (nI c) v = some (0, v) := by
  unfold f_X10_isSilent
  rw [oi_nI (by decide) hc, nI_clamp (by omega)]
  by_cases z : gA v 7 c < 0
  · rw [if_pos z]
  · rw [if_neg z, oi_nI (by decide) hc, if_pos (Classical.byContradiction (fun y => h ⟨z, y⟩))]
/-- the reference: a cell's notes cleared, scorers below j -/
def UI (c j : Nat) (v w : SS) : Prop := (∀ i : Nat, gI w i = gI v i) ∧ (∀ a : Nat, a ≠ 9 → gA w a = gA v a) ∧ ∀ s x : Nat, x < 48 → gA w 9 (48 * s + x) = if s < j ∧ x = c then -1 else gA v 9 (48 * s + x)
def UN (l st i : Nat) (v w : SS) : Prop := (∀ j : Nat, gI w j = gI v j) ∧ (∀ a : Nat, a ≠ 6 → a ≠ 7 → a ≠ 9 → gA w a = gA v a) ∧ (∀ s b m : Nat, s < 6 → b < 8 → m < 6 → gA w 9 (48 * s + (8 * m + b)) = if m = l ∧ b < i then -1 else gA v 9 (48 * s + (8 * m + b))) ∧ (∀ b m : Nat, b < 8 → m < 6 → gA w 6 (8 * m + b) = if st = 2 ∧ m = l ∧ b < i then 0 else gA v 6 (8 * m + b)) ∧ ∀ b m : Nat, b < 8 → m < 6 → gA w 7 (8 * m + b) = if st = 2 ∧ m = l ∧ b < i ∧ ¬ gA v 7 (8 * m + b) < 0 ∧ ¬ gI v 0 ≤ gA v 7 (8 * m + b) then -1 else gA v 7 (8 * m + b)
theorem uiM {P : SS → Prop} {c : Nat} (hc : c < 48) (k47 : Int32 → Int32 → Int32 → SS → Option SS) (l s b : Int32) (hk : ∀ w, UI c 6 v w → TO P (if s = (2 : Int32) then (oi (nI c) 48 (lt (tZ w 6 (nI c) (0 : Int32)) fun u6 => ob (f_X10_isSilent (nI c) u6) fun r9 u8 => if r9 = 0 then (oi (nI c) 48 (f_X10_undo_L134 k47 l s b (gA u8 7 (nI c).toNatClampNeg) (nI c) u8)) else (f_X10_undo_L134 k47 l s b (-1 : Int32) (nI c) u8))) else (f_X10_undo_L135 k47 l s b w))) : TO P (f_X10_undo_L68 k47 FU l s b (nI c) (0 : Int32) v) := by
  refine loopR (fun F (x : Int32 × SS) => f_X10_undo_L68 k47 F l s b (nI c) x.1 x.2) (fun i x => x.1 = nI i ∧ UI c i v x.2) _ 6 ?_ (F := FU) (x := ((0 : Int32), v)) (Nat.lt_trans (by decide) FU_ge) ⟨rfl, fun _ => rfl, fun _ _ => rfl, fun s x _ => by rw [if_neg (by omega)]⟩
  intro F x i hi hI hc2
  obtain ⟨b5, w⟩ := x
  obtain ⟨e, k1, k2, k3⟩ := hI
  have e : b5 = nI i := e
  subst e
  show TO _ (b_X10_undo_L68 k47 (f_X10_undo_L68 k47 F) l s b (nI c) (nI i) w)
  unfold b_X10_undo_L68
  by_cases z : i = 6
  · subst z
    rw [if_pos (show (6 : Int32) ≤ nI 6 by decide)]
    exact hk w ⟨k1, k2, k3⟩
  · have e48 : (48 : Int32) * nI i + nI c = nI (48 * i + c) := by rw [show (48 : Int32) = nI 48 by decide, pk_mul, nI_add]
    rw [if_neg (show ¬ (6 : Int32) ≤ nI i from nI_ge (b := 6) (by omega) (by decide)), e48, oi_nI (by decide) (show 48 * i + c < 288 by omega), lt_e, lt_e, nI_1]
    refine hc2 (nI (i + 1), _) (by omega) ⟨rfl, k1, fun a q => ?_, fun s2 x hx => ?_⟩
    · show gA (tA w 9 (nI (48 * i + c)) (-1)) a = _
      rw [tAn q, k2 a q]
    · show gA (tA w 9 (nI (48 * i + c)) (-1)) 9 (48 * s2 + x) = _
      rw [tAe, nI_clamp (by omega)]
      by_cases z1 : s2 = i ∧ x = c
      · obtain ⟨rfl, rfl⟩ := z1
        rw [upd_s, if_pos ⟨by omega, rfl⟩]
      · rw [upd_n _ _ (by omega), k3 s2 x hx]
        by_cases z2 : s2 < i ∧ x = c
        · rw [if_pos z2, if_pos (by omega)]
        · rw [if_neg z2, if_neg (by omega)]
theorem unM {l st : Nat} (hl : l < 6) (hs : 1 ≤ st) (hs2 : st ≤ 2) : TO (fun w => ∃ y, UN l st 8 v y ∧ w = sI y 16 0) (f_X10_undo_L45 (nI l) (nI st) v) := by
  refine loopR (fun F (x : Int32 × SS) => f_X10_undo_L47 F (nI l) (nI st) x.1 x.2) (fun i x => x.1 = nI i ∧ UN l st i v x.2) _ 8 ?_ (F := FU) (x := ((0 : Int32), v)) (Nat.lt_trans (by decide) FU_ge) ⟨rfl, fun _ => rfl, fun _ _ _ _ => rfl, fun s b m _ _ _ => by rw [if_neg (by omega)], fun b m _ _ => by rw [if_neg (by omega)], fun b m _ _ => by rw [if_neg (by omega)]⟩
  intro F x i hi hI hc
  obtain ⟨b3, w⟩ := x
  obtain ⟨e, k1, k2, k3, k4, k5⟩ := hI
  have e : b3 = nI i := e
  subst e
  show TO _ (b_X10_undo_L47 (f_X10_undo_L47 F) (nI l) (nI st) (nI i) w)
  unfold b_X10_undo_L47
  by_cases c : i = 8
  · subst c
    rw [if_pos (show (8 : Int32) ≤ nI 8 by decide), lt_e]
    exact to_s ⟨w, ⟨k1, k2, k3, k4, k5⟩, rfl⟩
  · rw [if_neg (show ¬ (8 : Int32) ≤ nI i from nI_ge (b := 8) (by omega) (by decide)), if_neg (nI_nle (by omega) (by omega)), lt_e, cellM]
    refine uiM (show 8 * l + i < 48 by omega) _ _ _ _ (fun w2 hw2 => ?_)
    obtain ⟨g1, g2, g3⟩ := hw2
    have n9 : ∀ s b m : Nat, s < 6 → b < 8 → m < 6 → gA w2 9 (48 * s + (8 * m + b)) = if m = l ∧ b < i + 1 then -1 else gA v 9 (48 * s + (8 * m + b)) := by
      intro s b m hs hb hm
      rw [g3 s (8 * m + b) (by omega)]
      by_cases z : m = l ∧ b = i
      · rw [if_pos (by omega), if_pos (by omega)]
      · rw [if_neg (by omega), k3 s b m hs hb hm]
        by_cases z2 : m = l ∧ b < i
        · rw [if_pos z2, if_pos (by omega)]
        · rw [if_neg z2, if_neg (by omega)]
    by_cases c2 : st = 2
    · subst c2
      have a7 := k5 i l (by omega) hl
      rw [if_neg (by omega)] at a7
      have f7 : gA (tZ w2 6 (nI (8 * l + i)) 0) 7 (8 * l + i) = gA v 7 (8 * l + i) := by rw [tZn (by decide), g2 7 (by decide), a7]
      have f0 : gI (tZ w2 6 (nI (8 * l + i)) 0) 0 = gI v 0 := by rw [gI_tZ, g1 0, k1 0]
      have n6 : ∀ b m : Nat, b < 8 → m < 6 → gA (tZ w2 6 (nI (8 * l + i)) 0) 6 (8 * m + b) = if 2 = 2 ∧ m = l ∧ b < i + 1 then 0 else gA v 6 (8 * m + b) := by
        intro b m hb hm
        rw [tZe, nar_0, nI_clamp (by omega)]
        by_cases z : m = l ∧ b = i
        · obtain ⟨rfl, rfl⟩ := z
          rw [upd_s, if_pos (by omega)]
        · rw [upd_n _ _ (by omega), g2 6 (by decide), k4 b m hb hm]
          by_cases z2 : 2 = 2 ∧ m = l ∧ b < i
          · rw [if_pos z2, if_pos (by omega)]
          · rw [if_neg z2, if_neg (by omega)]
      rw [if_pos (show nI 2 = (2 : Int32) by decide), oi_nI (by decide) (show 8 * l + i < 48 by omega), lt_e]
      have fin : ∀ q : Int32, q = (if ¬ gA v 7 (8 * l + i) < 0 ∧ ¬ gI v 0 ≤ gA v 7 (8 * l + i) then -1 else gA v 7 (8 * l + i)) → TO (fun w => ∃ y, UN l 2 8 v y ∧ w = sI y 16 0) (f_X10_undo_L134 (f_X10_undo_L47 F) (nI l) (nI 2) (nI i) q (nI (8 * l + i)) (tZ w2 6 (nI (8 * l + i)) 0)) := by
        intro q hq
        unfold f_X10_undo_L134 f_X10_undo_L135
        rw [oi_nI (by decide) (show 8 * l + i < 48 by omega), lt_e, lt_e, nI_1]
        refine hc (nI (i + 1), _) (by omega) ⟨rfl, fun j => ?_, fun a q1 q2 q3 => ?_, fun s b m hs hb hm => ?_, fun b m hb hm => ?_, fun b m hb hm => ?_⟩
        · show gI (tA (tZ w2 6 (nI (8 * l + i)) 0) 7 (nI (8 * l + i)) q) j = _
          rw [gI_tA, gI_tZ, g1 j, k1 j]
        · show gA (tA (tZ w2 6 (nI (8 * l + i)) 0) 7 (nI (8 * l + i)) q) a = _
          rw [tAn q2, tZn q1, g2 a q3, k2 a q1 q2 q3]
        · show gA (tA (tZ w2 6 (nI (8 * l + i)) 0) 7 (nI (8 * l + i)) q) 9 (48 * s + (8 * m + b)) = _
          rw [tAn (by decide), tZn (by decide), n9 s b m hs hb hm]
        · show gA (tA (tZ w2 6 (nI (8 * l + i)) 0) 7 (nI (8 * l + i)) q) 6 (8 * m + b) = _
          rw [tAn (by decide), n6 b m hb hm]
        · show gA (tA (tZ w2 6 (nI (8 * l + i)) 0) 7 (nI (8 * l + i)) q) 7 (8 * m + b) = _
          rw [tAe, tZn (by decide), nI_clamp (by omega)]
          by_cases z : m = l ∧ b = i
          · obtain ⟨rfl, rfl⟩ := z
            rw [upd_s, hq]
            by_cases z2 : ¬ gA v 7 (8 * m + b) < 0 ∧ ¬ gI v 0 ≤ gA v 7 (8 * m + b)
            · rw [if_pos z2, if_pos ⟨rfl, rfl, by omega, z2⟩]
            · rw [if_neg z2, if_neg (fun y => z2 y.2.2.2)]
          · rw [upd_n _ _ (by omega), g2 7 (by decide), k5 b m hb hm]
            by_cases z2 : 2 = 2 ∧ m = l ∧ b < i ∧ ¬ gA v 7 (8 * m + b) < 0 ∧ ¬ gI v 0 ≤ gA v 7 (8 * m + b)
            · rw [if_pos z2, if_pos ⟨z2.1, z2.2.1, by omega, z2.2.2.2⟩]
            · rw [if_neg z2, if_neg (fun y => z2 ⟨y.1, y.2.1, by omega, y.2.2.2⟩)]
      by_cases c3 : slI (tZ w2 6 (nI (8 * l + i)) 0) (8 * l + i)
      · rw [slM_t (by omega) c3, ob_s, if_neg nz_1]
        unfold slI at c3
        rw [f7, f0] at c3
        exact fin _ (by rw [if_pos c3])
      · rw [slM_f (by omega) c3, ob_s, if_pos rfl, oi_nI (by decide) (show 8 * l + i < 48 by omega), nI_clamp (by omega), f7]
        unfold slI at c3
        rw [f7, f0] at c3
        exact fin _ (by rw [if_neg c3])
    · rw [if_neg (show ¬ nI st = (2 : Int32) from fun z => c2 ((nI_eq (b := 2) (by omega) (by decide)).mp z))]
      unfold f_X10_undo_L135
      rw [lt_e, nI_1]
      refine hc (nI (i + 1), w2) (by omega) ⟨rfl, fun j => ?_, fun a q1 q2 q3 => ?_, n9, fun b m hb hm => ?_, fun b m hb hm => ?_⟩
      · show gI w2 j = _
        rw [g1 j, k1 j]
      · show gA w2 a = _
        rw [g2 a q3, k2 a q1 q2 q3]
      · show gA w2 6 (8 * m + b) = _
        rw [g2 6 (by decide), k4 b m hb hm, if_neg (fun y => c2 y.1), if_neg (fun y => c2 y.1)]
      · show gA w2 7 (8 * m + b) = _
        rw [g2 7 (by decide), k5 b m hb hm, if_neg (fun y => c2 y.1), if_neg (fun y => c2 y.1)]
theorem inM_f {n : Int32} {c : Nat} (hc : c ≤ 20) (hn : ¬ rg c n) : f_X10_in n 0 (nI c - 1) v = some (0, v) := by
  unfold f_X10_in
  by_cases c1 : n < 0
  · rw [if_pos c1]
  · rw [if_neg c1]
    by_cases c2 : nI c - 1 < n
    · rw [if_pos c2]
    · exfalso
      match c, hc, hn, c2 with
      | 0, _, _, c2 => exact c2 (Int32.lt_of_lt_of_le (show nI 0 - 1 < 0 by decide) (Int32.not_lt.mp c1))
      | c + 1, hc, hn, c2 =>
        rw [nI_pred] at c2
        exact hn (rg_mk (by omega) c1 ((le_nI (by omega)).mp (Int32.not_lt.mp c2)))
theorem inM_t {i c : Nat} (hc : c ≤ 20) (hi : i < c) : f_X10_in (nI i) 0 (nI c - 1) v = some (1, v) := by
  unfold f_X10_in
  match c, hc, hi with
  | c + 1, hc, hi => rw [if_neg (nI_pos (by omega)), nI_pred, if_neg (nI_nlt (by omega) (by omega))]
theorem ju_fin {u2 v2 : SS} {c i : Nat} (h : RR FE AW FD k u v) (hI : ∀ j : Nat, j ≠ 4 → j ≠ 15 → gI u2 j = gI u j) (hu : ∀ a : Nat, a ≠ 4 → a ≠ 5 → a ≠ 10 → a ≠ 13 → a ≠ 28 → gA u2 a = gA u a) (hL : gL u2 8 = gL u 8) (hV : ∀ j : Nat, j ≠ 7 → j ≠ 16 → j ≠ 22 → gI v2 j = gI v j) (hv : ∀ a : Nat, a ≠ 6 → a ≠ 7 → a ≠ 9 → a ≠ 13 → a ≠ 29 → gA v2 a = gA v a) (r5 : Rou u2 v2) (r6 : Ras u2 v2) (r7 : Rno u2 v2) (r10 : Rfo FE u2 v2) (q15 : gI u2 15 = 0) (e17 : gI u 17 = nI c) (hc : c ≤ 20) (hi : i < c) (q28 : gA u2 28 = upd (gA u 28) i 1) (q22 : gI v2 22 = 0) (q16 : gI v2 16 = 0) (q29 : ∀ x : Nat, x < c → gA v2 29 x = 0) : RR FE AW FD (k + 1) u2 v2 := by
  refine RR_ju h hI hu hL hV hv r5 r6 r7 r10 ?_ (Or.inl q16) (fun _ => q16) (fun z => (n01 (q16.symm.trans z)).elim)
  obtain ⟨hz, e22, b15, e23, b16, e24, r, hr, e18, c2, hc2, e17b, e25, hz0, hq⟩ := h.2.2.2.2.2.2.2.2.2.2.2.1
  have ec : c2 = c := (nI_eq (by omega) (by omega)).mp (e17b.symm.trans e17)
  subst ec
  refine ⟨fun _ => q15, ?_, Or.inl q15, ?_, ?_, ?_, r, Nat.le_succ_of_le hr, ?_, c2, hc, ?_, ?_, fun x x1 x2 => ?_, fun x hx => ?_⟩
  · rw [q22, q15]
  · rw [hV 23 (by decide) (by decide) (by decide), hI 16 (by decide) (by decide)]; exact e23
  · rw [hI 16 (by decide) (by decide)]; exact b16
  · rw [hV 24 (by decide) (by decide) (by decide), hI 19 (by decide) (by decide)]; exact e24
  · rw [hI 18 (by decide) (by decide)]; exact e18
  · rw [hI 17 (by decide) (by decide)]; exact e17
  · rw [hV 25 (by decide) (by decide) (by decide)]; exact e25
  · rw [q28, upd_n _ _ (by omega)]; exact hz0 x x1 x2
  · obtain ⟨a1, a2, a3, a4, a5, a6, a7⟩ := hq x hx
    rw [hu 26 (by decide) (by decide) (by decide) (by decide) (by decide), hu 27 (by decide) (by decide) (by decide) (by decide) (by decide), hu 29 (by decide) (by decide) (by decide) (by decide) (by decide), hv 27 (by decide) (by decide) (by decide) (by decide) (by decide), hv 28 (by decide) (by decide) (by decide) (by decide) (by decide), q29 x hx, q28, q15]
    refine ⟨a1, a2, a3, a4, ?_, a6, ?_⟩
    · by_cases z : x = i
      · rw [z, upd_s]; exact Or.inr rfl
      · rw [upd_n _ _ z]; exact a5
    · rw [if_neg (fun z => n01 z.1)]
theorem no_l {w w2 : SS} {l : Nat} (h7 : Rno u v) (e1 : ∀ x : Nat, gA w 10 x = if x < 288 ∧ x % 6 = l then -9 else gA u 10 x) (e2 : ∀ s b m : Nat, s < 6 → b < 8 → m < 6 → gA w2 9 (48 * s + (8 * m + b)) = if m = l ∧ b < 8 then -1 else gA v 9 (48 * s + (8 * m + b))) : Rno w w2 := by
  intro s b m hs hb hm
  rw [e1, e2 s b m hs hb hm]
  by_cases z : m = l
  · rw [if_pos (by omega), if_pos (by omega)]; exact Or.inl ⟨rfl, rfl⟩
  · rw [if_neg (by omega), if_neg (by omega)]; exact h7 s b m hs hb hm
theorem Rou_e {w w2 : SS} (no : ¬ Opn u) (i0 : gI w 0 = gI u 0) (i1 : gI w 1 = gI u 1) (a3 : gA w 3 = gA u 3) (h5 : Rou u v) (e4 : gA w 4 = gA u 4) (e6 : ∀ b m : Nat, b < 8 → m < 6 → gA w2 6 (8 * m + b) = gA v 6 (8 * m + b)) : Rou w w2 := by
  intro b m hb hm
  rw [a3, e4, e6 b m hb hm]
  refine ⟨(h5 b m hb hm).1, (h5 b m hb hm).2.1, fun z => (h5 b m hb hm).2.2 (z.elim (fun z => ?_) Or.inr)⟩
  unfold Opn at z
  rw [i0, i1] at z
  exact absurd z no
theorem st_judge (hA : FDok FD) (hA6 : FDaw FD) (hF0 : ∀ a b : Nat → Int32, FE (upd a 0 (-113)) 1 (upd b 0 113) 1) (h : RR FE AW FD k u v) (n z : Int32) : QQ (RR FE AW FD (k + 1)) (f_X9_judge n z u) (f_X10_judge n z v) := by
  obtain ⟨⟨t, L, ht, hL1, hL6, e0, e0m, e2, e2m, e1, e1c⟩, h2, h3, h4, h5, h6, h7, h8, h9, h10, h11, ⟨hz, e22, b15, e23, b16, e24, r, hr, e18, c, hc, e17, e25, hz0, hq⟩, h13⟩ := id h
  rcases in_c n c with ⟨i, hi, rfl⟩ | hn
  rotate_left
  · have d1 := inM_f (v := v) hc hn
    by_cases c1 : n < 0
    · simp only [f_X9_judge, f_X10_judge, f_X9_judge_L15, c1, e25, d1, ob_s, ov_s, lt_e, ↓reduceIte, eq_self, not_true_eq_false, not_false_eq_true, nz_1, nz_m1, nz_m2, nz_m3, nz_m4, nz_m5, nz_m6, nz_m7, nz_m8, nz_m9, nl_m1, nl_m2, nl_m3, nl_m4, nl_m5, nl_m6, nl_m7, nl_m8, nl_m9, ceB, rfB rwd1, rfM rwd1, rlB rwd1, rlM rwd1]
      exact qq_rf hA h _
    · have c2 : ¬ n < nI c := fun y => hn (rg_mk (by omega) c1 y)
      simp only [f_X9_judge, f_X10_judge, f_X9_judge_L15, c1, c2, e17, e25, d1, ob_s, ov_s, lt_e, ↓reduceIte, eq_self, not_true_eq_false, not_false_eq_true, nz_1, nz_m1, nz_m2, nz_m3, nz_m4, nz_m5, nz_m6, nz_m7, nz_m8, nz_m9, nl_m1, nl_m2, nl_m3, nl_m4, nl_m5, nl_m6, nl_m7, nl_m8, nl_m9, ceB, rfB rwd1, rfM rwd1, rlB rwd1, rlM rwd1]
      exact qq_rf hA h _
  have d1 := inM_t (v := v) hc hi
  have d2 := hoB (v := v) hc b15 hi (hq i hi).2.2.2.2.2.2
  have d3 : ¬ nI i < 0 := nI_pos (by omega)
  have d4 : nI i < nI c := nI_lt hi (by omega)
  have d5 := fun (ρ : Type) (x : Option ρ) => oi_nI (x := x) (show 20 < 2 ^ 31 by decide) (show i < 20 by omega)
  have d6 : (nI i).toNatClampNeg = i := nI_clamp (by omega)
  have d7 := (hq i hi).2.2.2.2.2.2
  by_cases cc : gI u 15 = 1 ∧ gA u 28 i = 0 ∧ gA u 29 i = gI u 18
  rotate_left
  · rw [if_neg cc] at d7
    rw [d7] at d2
    simp only [f_X9_judge, f_X10_judge, f_X9_judge_L15, d1, d2, d3, d4, d5, d6, d7, e17, e25, ob_s, ov_s, lt_e, ↓reduceIte, eq_self, not_true_eq_false, not_false_eq_true, nz_1, nz_m1, nz_m2, nz_m3, nz_m4, nz_m5, nz_m6, nz_m7, nz_m8, nz_m9, nl_m1, nl_m2, nl_m3, nl_m4, nl_m5, nl_m6, nl_m7, nl_m8, nl_m9, ceB, rfB rwd3, rfM rwd3, rlB rwd3, rlM rwd3]
    exact qq_rf hA h _
  rw [if_pos cc] at d7
  rw [d7] at d2
  by_cases cz : z = 0
  · simp only [f_X9_judge, f_X10_judge, f_X9_judge_L15, d1, d2, d3, d4, d5, d6, d7, e17, e25, cz, ob_s, ov_s, lt_e, ↓reduceIte, eq_self, not_true_eq_false, not_false_eq_true, nz_1, nz_m1, nz_m2, nz_m3, nz_m4, nz_m5, nz_m6, nz_m7, nz_m8, nz_m9, nl_m1, nl_m2, nl_m3, nl_m4, nl_m5, nl_m6, nl_m7, nl_m8, nl_m9, ceB]
    refine ⟨_, _, _, _, rfl, rfl, RR_ch2 hA6 h (fun _ _ _ _ _ _ => rfl) (fun a a1 a2 a3 a4 => by rw [tZn a3]) rfl (fun _ _ _ _ _ => rfl) (fun a a1 a2 a3 => by rw [tZn a3]) ⟨hz, e22, b15, e23, b16, e24, r, Nat.le_succ_of_le hr, e18, c, hc, e17, e25, fun x x1 x2 => ?_, fun x hx => ?_⟩, rfl⟩
    · show upd (gA u 28) (nI i).toNatClampNeg (vp_nar .boolean 1) x = 0
      rw [d6, upd_n _ _ (by omega)]; exact hz0 x x1 x2
    · obtain ⟨a1, a2, a3, a4, a5, a6, a7⟩ := hq x hx
      refine ⟨a1, a2, a3, a4, ?_, a6, ?_⟩
      · show bo (upd (gA u 28) (nI i).toNatClampNeg (vp_nar .boolean 1) x)
        rw [d6, nar_1]
        by_cases y : x = i
        · rw [y, upd_s]; exact Or.inr rfl
        · rw [upd_n _ _ y]; exact a5
      · show upd (gA v 29) (nI i).toNatClampNeg (vp_nar .boolean 0) x = if gI u 15 = 1 ∧ upd (gA u 28) (nI i).toNatClampNeg (vp_nar .boolean 1) x = 0 ∧ gA u 29 x = gI u 18 then 1 else 0
        rw [d6, nar_1, nar_0]
        by_cases y : x = i
        · rw [y, upd_s, upd_s, if_neg (fun q => nz_1 q.2.1)]
        · rw [upd_n _ _ y, upd_n _ _ y]; exact a7
  obtain ⟨⟨l, hl, el⟩, f1, ⟨s, hs, es⟩, f2, -⟩ := hq i hi
  have no : ¬ Opn u := fun y => n01 ((hz y).symm.trans cc.1)
  have g1 : gA v 27 i = nI l := f1.trans el
  have g2 : gA v 28 i = nI s := f2.trans es
  simp (decide := true) only [f_X9_judge, f_X10_judge, f_X9_judge_L15, d1, d2, d3, d4, d5, d6, d7, e17, e25, cz, el, es, g1, g2, sIe, sIn, sJe, sJn, tAe, tAn, tZe, tZn, tLe, tLn, gI_tA, gI_tZ, gI_tL, gI_sJ, gA_sI, gA_sJ, gA_tL, gJ_sI, gJ_tA, gJ_tZ, gJ_tL, gL_sI, gL_sJ, gL_tA, gL_tZ, nar_0, nar_1, ob_s, ov_s, lt_e, ↓reduceIte, eq_self, not_true_eq_false, not_false_eq_true, nz_1, nz_m1, nz_m2, nz_m3, nz_m4, nz_m5, nz_m6, nz_m7, nz_m8, nz_m9, nl_m1, nl_m2, nl_m3, nl_m4, nl_m5, nl_m6, nl_m7, nl_m8, nl_m9, ceB]
  have U28 : gA (tZ u 28 (nI i) 1) 28 = upd (gA u 28) i 1 := by rw [tZe, nar_1, d6]
  have nO : ∀ b m : Nat, b < 8 → m < 6 → gA u 3 (b * 6 + m) = 1 → gA v 6 (8 * m + b) = gA u 4 (b * 6 + m) := fun b m hb hm y => (h5 b m hb hm).2.2 (Or.inr y)
  have key : ∀ (P : SS → SS → Prop), (∀ (w y : SS), P w y → RR FE AW FD (k + 1) (sI w 15 0) y) → TO (fun w => TO (fun y => P w y) (f_X10_undo (nI l) (nI s) (tZ v 29 (nI i) 0))) (f_X9_makeAnew (nI l) (nI s) (tZ u 28 (nI i) 1)) → QQ (RR FE AW FD (k + 1)) (ov (f_X9_makeAnew (nI l) (nI s) (tZ u 28 (nI i) 1)) fun u9 => some ((1 : Int32), sI u9 15 0)) (ov (f_X10_undo (nI l) (nI s) (tZ v 29 (nI i) 0)) fun u6 => some ((1 : Int32), u6)) := by
    intro P hP hT
    obtain ⟨w, ew, y, ey, hp⟩ := hT
    rw [ew, ey, ov_s, ov_s]
    exact ⟨_, _, _, _, rfl, rfl, hP w y hp, rfl⟩
  refine key (fun w y => RR FE AW FD (k + 1) (sI w 15 0) y) (fun _ _ q => q) ?_
  unfold f_X9_makeAnew
  by_cases s0 : s = 0
  · subst s0
    unfold f_X2_useQuality
    rw [if_pos (show nI 0 = (0 : Int32) by decide), oi_in (by decide) (show rg 80 (0 : Int32) from ⟨0, by decide, by decide⟩), lt_e, lt_e, ov_s]
    refine to_s ?_
    unfold f_X10_undo
    rw [lt_e]
    refine ucM hc (show gI (sI (tZ v 29 (nI i) 0) 22 0) 25 = nI c from e25) _ _ (fun w hw => ?_)
    obtain ⟨w1, w2, w3⟩ := hw
    rw [if_pos (show nI 0 = (0 : Int32) by decide), oi_in (by decide) (show rg 80 (0 : Int32) from ⟨0, by decide, by decide⟩), lt_e, lt_e]
    have fl : ∀ x : SS, f_X10_undo_L45 (nI l) (nI 0) x = some (sI x 16 0) := by
      intro x
      unfold f_X10_undo_L45
      obtain ⟨F, hF⟩ : ∃ F, FU = F + 1 := ⟨FU - 1, by have := FU_ge; omega⟩
      rw [hF]
      show b_X10_undo_L47 _ (nI l) (nI 0) (0 : Int32) x = _
      unfold b_X10_undo_L47
      rw [if_neg (show ¬ (8 : Int32) ≤ 0 by decide), if_pos (show nI 0 ≤ (0 : Int32) by decide), lt_e]
    rw [fl]
    refine to_s (ju_fin (c := c) (i := i) h (fun j j1 j2 => ?_) (fun a a1 a2 a3 a4 a5 => ?_) rfl (fun j j1 j2 j3 => ?_) (fun a a1 a2 a3 a4 a5 => ?_) ?_ ?_ ?_ ?_ rfl e17 hc hi U28 ?_ rfl (fun x hx => ?_))
    · rw [sIn j2, sIn j1]; rfl
    · rw [gA_sI, gA_sI, tAn a4, tZn a5]
    · rw [sIn j2, sIn j1, gI_tA, w1 j, sIn j3]; rfl
    · rw [gA_sI, gA_sI, tAn a4, w2 a a5, gA_sI, tZn a5]
    · refine Rou_e no ?_ ?_ ?_ h5 ?_ (fun b m hb hm => ?_)
      · rw [sIn (by decide), sIn (by decide)]; rfl
      · rw [sIn (by decide), sIn (by decide)]; rfl
      · rw [gA_sI, gA_sI, tAn (by decide), tZn (by decide)]
      · rw [gA_sI, gA_sI, tAn (by decide), tZn (by decide)]
      · rw [gA_sI, gA_sI, tAn (by decide), w2 6 (by decide), gA_sI, tZn (by decide)]
    · unfold Ras; simp (decide := true) only [gA_sI, tAn, tZn, w2]; exact h6
    · unfold Rno; simp (decide := true) only [gA_sI, tAn, tZn, w2]; exact h7
    · refine ⟨1, 1, by decide, by decide, ?_, ?_, ?_⟩
      · rw [sIn (by decide), sIe]; rfl
      · rw [sIn (by decide), sIe]; rfl
      · rw [gA_sI, gA_sI, gA_sI, gA_sI, tAe, tAe]; exact hF0 _ _
    · rw [sIn (by decide), sIn (by decide), gI_tA, w1 22, sIe]
    · rw [gA_sI, gA_sI, tAn (by decide), w3 x, if_pos hx]
  rw [if_neg (nI_ne0 (by omega) (by omega))]
  refine to_v (clB (show l < 6 by omega)) (fun w hw => ?_)
  obtain ⟨k1, k2, k3, k4⟩ := hw
  have RF : ∀ (P : SS → Prop), (∀ (q x : SS), UC c (sI (tZ v 29 (nI i) 0) 22 0) q → UN l s 8 q x → P (sI x 16 0)) → TO P (f_X10_undo (nI l) (nI s) (tZ v 29 (nI i) 0)) := by
    intro P hP
    unfold f_X10_undo
    rw [lt_e]
    refine ucM hc (show gI (sI (tZ v 29 (nI i) 0) 22 0) 25 = nI c from e25) _ _ (fun q hq => ?_)
    rw [if_neg (nI_ne0 (by omega) (by omega))]
    refine to_w (unM (show l < 6 by omega) (by omega) (by omega)) (fun r hr => ?_)
    obtain ⟨x, x1, x2⟩ := hr
    rw [x2]; exact hP q x hq x1
  have VI : ∀ (q x : SS), UC c (sI (tZ v 29 (nI i) 0) 22 0) q → UN l s 8 q x → (∀ j : Nat, j ≠ 7 → j ≠ 16 → j ≠ 22 → gI (sI x 16 0) j = gI v j) ∧ (∀ a : Nat, a ≠ 6 → a ≠ 7 → a ≠ 9 → a ≠ 13 → a ≠ 29 → gA (sI x 16 0) a = gA v a) ∧ gI (sI x 16 0) 22 = 0 ∧ (∀ y : Nat, y < c → gA (sI x 16 0) 29 y = 0) ∧ gA (sI x 16 0) 13 = gA v 13 ∧ gI (sI x 16 0) 7 = gI v 7 ∧ gA q 9 = gA v 9 ∧ gA q 6 = gA v 6 ∧ gA q 7 = gA v 7 ∧ gI q 0 = gI v 0 := by
    intro q x ⟨w1, w2, w3⟩ ⟨g1, g2, g3, g4, g5⟩
    refine ⟨fun j j1 j2 j3 => ?_, fun a a1 a2 a3 a4 a5 => ?_, ?_, fun y hy => ?_, ?_, ?_, ?_, ?_, ?_, ?_⟩
    · rw [sIn j2, g1 j, w1 j, sIn j3]; rfl
    · rw [gA_sI, g2 a a1 a2 a3, w2 a a5, gA_sI, tZn a5]
    · rw [sIn (by decide), g1 22, w1 22, sIe]
    · rw [gA_sI, g2 29 (by decide) (by decide) (by decide), w3 y, if_pos hy]
    · rw [gA_sI, g2 13 (by decide) (by decide) (by decide), w2 13 (by decide), gA_sI, tZn (by decide)]
    · rw [sIn (by decide), g1 7, w1 7, sIn (by decide)]; rfl
    · rw [w2 9 (by decide), gA_sI, tZn (by decide)]
    · rw [w2 6 (by decide), gA_sI, tZn (by decide)]
    · rw [w2 7 (by decide), gA_sI, tZn (by decide)]
    · rw [w1 0, sIn (by decide)]; rfl
  have fo : ∀ w2 y2 : SS, gI w2 4 = gI u 4 → gA w2 13 = gA u 13 → gI y2 7 = gI v 7 → gA y2 13 = gA v 13 → Rfo FE w2 y2 := by
    intro w2 y2 q1 q2 q3 q4
    unfold Rfo; rw [q1, q2, q3, q4]; exact h10
  by_cases s2 : s = 2
  rotate_left
  · have s1 : s = 1 := by omega
    subst s1
    rw [if_neg (show ¬ nI 1 = (2 : Int32) by decide)]
    refine to_s (RF _ (fun q x hq hx => ?_))
    obtain ⟨V1, V2, V3, V4, V5, V6, V7, V8, V9, V10⟩ := VI q x hq hx
    obtain ⟨g1, g2, g3, g4, g5⟩ := hx
    refine ju_fin (c := c) (i := i) h (fun j j1 j2 => ?_) (fun a a1 a2 a3 a4 a5 => ?_) ?_ V1 V2 ?_ ?_ ?_ ?_ rfl e17 hc hi ?_ V3 rfl V4
    · rw [sIn j2, k1 j]; rfl
    · rw [gA_sI, k2 a a3, tZn a5]
    · rw [gL_sI, k3]; rfl
    · refine Rou_e no ?_ ?_ ?_ h5 ?_ (fun b m hb hm => ?_)
      · rw [sIn (by decide), k1 0]; rfl
      · rw [sIn (by decide), k1 1]; rfl
      · rw [gA_sI, k2 3 (by decide), tZn (by decide)]
      · rw [gA_sI, k2 4 (by decide), tZn (by decide)]
      · rw [gA_sI, g4 b m hb hm, if_neg (by omega), V8]
    · intro b m hb hm
      have q5 := g5 b m hb hm
      rw [if_neg (by omega), V9] at q5
      rw [gA_sI, gA_sI, gA_sI, k2 5 (by decide), k2 3 (by decide), tZn (by decide), tZn (by decide), q5]
      exact h6 b m hb hm
    · refine no_l (l := l) h7 (fun x2 => ?_) (fun s2 b m hs2 hb hm => ?_)
      · rw [gA_sI, k4 x2, tZn (by decide)]
      · rw [gA_sI, g3 s2 b m hs2 hb hm, V7]
    · refine fo _ _ ?_ ?_ V6 V5
      · rw [sIn (by decide), k1 4]; rfl
      · rw [gA_sI, k2 13 (by decide), tZn (by decide)]
    · rw [gA_sI, k2 28 (by decide), U28]
  · subst s2
    rw [if_pos (show nI 2 = (2 : Int32) by decide)]
    refine to_v (coB (show l < 6 by omega)) (fun w2 hw2 => to_s (RF _ (fun q x hq hx => ?_)))
    obtain ⟨V1, V2, V3, V4, V5, V6, V7, V8, V9, V10⟩ := VI q x hq hx
    obtain ⟨g1, g2, g3, g4, g5⟩ := hx
    obtain ⟨m1, m2, m3, m4, m5⟩ := hw2
    have A3 : gA w 3 = gA u 3 := by rw [k2 3 (by decide), tZn (by decide)]
    have A4 : gA w 4 = gA u 4 := by rw [k2 4 (by decide), tZn (by decide)]
    have A5 : gA w 5 = gA u 5 := by rw [k2 5 (by decide), tZn (by decide)]
    have I0 : gI w 0 = gI u 0 := by rw [k1 0]; rfl
    rw [A3, A4] at m4
    rw [A3, A5, I0] at m5
    rw [V8] at g4
    rw [V9, V10] at g5
    refine ju_fin (c := c) (i := i) h (fun j j1 j2 => ?_) (fun a a1 a2 a3 a4 a5 => ?_) ?_ V1 V2 ?_ ?_ ?_ ?_ rfl e17 hc hi ?_ V3 rfl V4
    · rw [sIn j2, m1 j, k1 j]; rfl
    · rw [gA_sI, m2 a a1 a2, k2 a a3, tZn a5]
    · rw [gL_sI, m3, k3]; rfl
    · intro b m hb hm
      obtain ⟨p1, p2, p3⟩ := h5 b m hb hm
      rw [gA_sI, gA_sI, gA_sI, m2 3 (by decide) (by decide), A3, m4 b m hb hm, g4 b m hb hm]
      refine ⟨?_, ?_, fun y => ?_⟩
      · by_cases q1 : m = l ∧ b < 8 ∧ ¬ gA u 3 (b * 6 + m) = 0
        · rw [if_pos q1]; exact Or.inl rfl
        · rw [if_neg q1]; exact p1
      · by_cases q1 : 2 = 2 ∧ m = l ∧ b < 8
        · rw [if_pos q1]; exact Or.inl rfl
        · rw [if_neg q1]; exact p2
      · have y3 : gA u 3 (b * 6 + m) = 1 := by
          rcases y with y | y
          · exfalso; unfold Opn at y
            rw [sIn (by decide), sIn (by decide), m1 0, m1 1, k1 0, k1 1] at y
            exact no y
          · exact y
        by_cases q1 : m = l
        · rw [if_pos ⟨rfl, q1, hb⟩, if_pos ⟨q1, hb, by rw [y3]; exact nz_1⟩]
        · rw [if_neg (fun q2 => q1 q2.2.1), if_neg (fun q2 => q1 q2.1)]; exact p3 (Or.inr y3)
    · intro b m hb hm
      rw [gA_sI, gA_sI, gA_sI, m2 3 (by decide) (by decide), A3, m5 b m hb hm, g5 b m hb hm]
      rcases h6 b m hb hm with ⟨p1, p2⟩ | ⟨n, n1, n2, p1, p2, p3⟩
      · rw [if_neg (fun q1 => q1.2.2.2.1 p1), if_neg (fun q1 => q1.2.2.2.1 (by rw [p2]; exact lt_m1))]; exact Or.inl ⟨p1, p2⟩
      · rw [p1, p2, e0, e0m, p3]
        by_cases q1 : m = l ∧ ¬ nI t ≤ nI n
        · rw [if_pos ⟨q1.1, hb, nz_1, nI_ne0 (by omega) (by omega), q1.2⟩, if_pos ⟨rfl, q1.1, hb, nI_pos (by omega), q1.2⟩]; exact Or.inl ⟨rfl, rfl⟩
        · rw [if_neg (fun q2 => q1 ⟨q2.1, q2.2.2.2.2⟩), if_neg (fun q2 => q1 ⟨q2.2.1, q2.2.2.2.2⟩)]; exact Or.inr ⟨n, n1, n2, rfl, rfl, rfl⟩
    · refine no_l (l := l) h7 (fun x2 => ?_) (fun s2 b m hs2 hb hm => ?_)
      · rw [gA_sI, m2 10 (by decide) (by decide), k4 x2, tZn (by decide)]
      · rw [gA_sI, g3 s2 b m hs2 hb hm, V7]
    · refine fo _ _ ?_ ?_ V6 V5
      · rw [sIn (by decide), m1 4, k1 4]; rfl
      · rw [gA_sI, m2 13 (by decide) (by decide), k2 13 (by decide), tZn (by decide)]
    · rw [gA_sI, m2 28 (by decide) (by decide), k2 28 (by decide), U28]
end ST12
