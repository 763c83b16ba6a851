section ST8
variable {FE : (Nat → Int32) → Nat → (Nat → Int32) → Nat → Prop} {AW : (Nat → Int32) → (Nat → Int32) → (Nat → Int64) → (Nat → Int32) → (Nat → Int32) → (Nat → Int32) → Prop} {FD : SS → SS → Prop} {k : Nat} {u v : SS}
theorem clm0 : (0 : Int32).toNatClampNeg = 0 := by decide
theorem clm1 : (1 : Int32).toNatClampNeg = 1 := by decide
theorem clm2 : (2 : Int32).toNatClampNeg = 2 := by decide
theorem clm3 : (3 : Int32).toNatClampNeg = 3 := by decide
theorem oi_z0 {β : Type} {n : Nat} (x : Option β) (h : 0 < n) (h2 : n < 2 ^ 31) : oi (0 : Int32) n x = x := oi_in h2 ⟨0, h, rfl⟩
theorem oi4_0 {β : Type} (x : Option β) : oi (0 : Int32) 4 x = x := oi_in (by decide) ⟨0, by decide, rfl⟩
theorem oi4_1 {β : Type} (x : Option β) : oi (1 : Int32) 4 x = x := oi_in (by decide) ⟨1, by decide, rfl⟩
theorem oi4_2 {β : Type} (x : Option β) : oi (2 : Int32) 4 x = x := oi_in (by decide) ⟨2, by decide, rfl⟩
theorem oi4_3 {β : Type} (x : Option β) : oi (3 : Int32) 4 x = x := oi_in (by decide) ⟨3, by decide, rfl⟩
theorem RR_lots {u2 v2 : SS} (h : RR FE AW FD k u v) (hI : ∀ i : Nat, i ≠ 2 → gI u2 i = gI u i) (hu : ∀ a : Nat, a ≠ 3 → a ≠ 5 → gA u2 a = gA u a) (hL : gL u2 8 = gL u 8) (hV : ∀ i : Nat, i ≠ 2 → gI v2 i = gI v i) (hv : ∀ a : Nat, a ≠ 1 → a ≠ 7 → gA v2 a = gA v a) (r1 : Rtm u2 v2) (r4 : Rbd u2 v2) (r5 : Rou u2 v2) (r6 : Ras u2 v2) (r19 : gI v2 16 = 1 → FD u2 v2) : RR FE AW FD (k + 1) u2 v2 := by
  obtain ⟨h1, h2, h3, h4, h5, h6, h7, h8, h9, h10, h11, h12, h13, h14, h15, h16, h17, h18, h19⟩ := h
  refine ⟨r1, ?_, ?_, r4, r5, r6, ?_, ?_, ?_, ?_, ?_, ?_, ?_, ?_, ?_, ?_, ?_, ?_, r19⟩
  · unfold Rst; rw [hu 1 (by decide) (by decide), hv 8 (by decide) (by decide)]; exact h2
  · unfold Rrt; rw [hu 2 (by decide) (by decide), hv 0 (by decide) (by decide)]; exact h3
  · unfold Rno; rw [hu 10 (by decide) (by decide), hv 9 (by decide) (by decide)]; exact h7
  · unfold Rba; rw [hu 11 (by decide) (by decide), hv 10 (by decide) (by decide)]; exact h8
  · unfold Rtp; rw [hI 5 (by decide), hV 6 (by decide)]; exact h9
  · unfold Rfo; rw [hI 4 (by decide), hu 13 (by decide) (by decide), hV 7 (by decide), hv 13 (by decide) (by decide)]; exact h10
  · unfold Rmo; rw [hu 20 (by decide) (by decide), hu 22 (by decide) (by decide), hv 16 (by decide) (by decide), hv 17 (by decide) (by decide)]; exact h11
  · unfold Raw; rw [hI 0 (by decide), hI 1 (by decide), hI 15 (by decide), hI 16 (by decide), hI 17 (by decide), hI 18 (by decide), hI 19 (by decide), hu 26 (by decide) (by decide), hu 27 (by decide) (by decide), hu 28 (by decide) (by decide), hu 29 (by decide) (by decide), hV 22 (by decide), hV 23 (by decide), hV 24 (by decide), hV 25 (by decide), hv 27 (by decide) (by decide), hv 28 (by decide) (by decide), hv 29 (by decide) (by decide)]; exact Raw_k h12
  · unfold Rfw; rw [hI 20 (by decide), hI 21 (by decide), hI 22 (by decide), hI 23 (by decide), hI 24 (by decide), hu 31 (by decide) (by decide), hu 32 (by decide) (by decide), hV 26 (by decide), hV 27 (by decide), hV 28 (by decide), hV 29 (by decide), hV 30 (by decide), hv 32 (by decide) (by decide), hv 33 (by decide) (by decide)]; exact h13
  · rw [hv 18 (by decide) (by decide)]; exact h14
  · rw [hv 24 (by decide) (by decide)]; exact h15
  · rw [hV 16 (by decide)]; exact h16
  · have hop : Opn u2 ↔ Opn u := by unfold Opn; rw [hI 0 (by decide), hI 1 (by decide)]
    intro z; rw [hV 16 (by decide)]; exact h17 (hop.mp z)
  · rw [hu 25 (by decide) (by decide), hu 30 (by decide) (by decide), hv 24 (by decide) (by decide), hv 25 (by decide) (by decide), hv 26 (by decide) (by decide), hL]; exact h18
theorem RR_out {u2 v2 : SS} (h : RR FE AW FD k u v) (hI : ∀ i : Nat, gI u2 i = gI u i) (hu : ∀ a : Nat, a ≠ 4 → a ≠ 5 → gA u2 a = gA u a) (hL : gL u2 8 = gL u 8) (hV : ∀ i : Nat, i ≠ 16 → gI v2 i = gI v i) (hv : ∀ a : Nat, a ≠ 6 → a ≠ 7 → gA v2 a = gA v a) (r5 : Rou u2 v2) (r6 : Ras u2 v2) (r16 : bo (gI v2 16)) (r17 : (Opn u2 → gI v2 16 = 0)) (r19 : gI v2 16 = 1 → FD u2 v2) : RR FE AW FD (k + 1) u2 v2 := by
  obtain ⟨h1, h2, h3, h4, h5, h6, h7, h8, h9, h10, h11, h12, h13, h14, h15, h16, h17, h18, h19⟩ := h
  refine ⟨?_, ?_, ?_, ?_, r5, r6, ?_, ?_, ?_, ?_, ?_, ?_, ?_, ?_, ?_, r16, r17, ?_, r19⟩
  · unfold Rtm; rw [hI 0 , hI 1 , hI 2 , hV 0 (by decide), hV 1 (by decide), hV 2 (by decide)]; exact h1
  · unfold Rst; rw [hu 1 (by decide) (by decide), hv 8 (by decide) (by decide)]; exact h2
  · unfold Rrt; rw [hu 2 (by decide) (by decide), hv 0 (by decide) (by decide)]; exact h3
  · unfold Rbd; rw [hu 3 (by decide) (by decide), hu 6 (by decide) (by decide), hu 7 (by decide) (by decide), hu 8 (by decide) (by decide), hu 9 (by decide) (by decide), hv 1 (by decide) (by decide), hv 2 (by decide) (by decide), hv 3 (by decide) (by decide), hv 4 (by decide) (by decide), hv 5 (by decide) (by decide)]; exact h4
  · unfold Rno; rw [hu 10 (by decide) (by decide), hv 9 (by decide) (by decide)]; exact h7
  · unfold Rba; rw [hu 11 (by decide) (by decide), hv 10 (by decide) (by decide)]; exact h8
  · unfold Rtp; rw [hI 5 , hV 6 (by decide)]; exact h9
  · unfold Rfo; rw [hI 4 , hu 13 (by decide) (by decide), hV 7 (by decide), hv 13 (by decide) (by decide)]; exact h10
  · unfold Rmo; rw [hu 20 (by decide) (by decide), hu 22 (by decide) (by decide), hv 16 (by decide) (by decide), hv 17 (by decide) (by decide)]; exact h11
  · unfold Raw; rw [hI 0 , hI 1 , hI 15 , hI 16 , hI 17 , hI 18 , hI 19 , hu 26 (by decide) (by decide), hu 27 (by decide) (by decide), hu 28 (by decide) (by decide), hu 29 (by decide) (by decide), hV 22 (by decide), hV 23 (by decide), hV 24 (by decide), hV 25 (by decide), hv 27 (by decide) (by decide), hv 28 (by decide) (by decide), hv 29 (by decide) (by decide)]; exact Raw_k h12
  · unfold Rfw; rw [hI 20 , hI 21 , hI 22 , hI 23 , hI 24 , hu 31 (by decide) (by decide), hu 32 (by decide) (by decide), hV 26 (by decide), hV 27 (by decide), hV 28 (by decide), hV 29 (by decide), hV 30 (by decide), hv 32 (by decide) (by decide), hv 33 (by decide) (by decide)]; exact h13
  · rw [hv 18 (by decide) (by decide)]; exact h14
  · rw [hv 24 (by decide) (by decide)]; exact h15
  · rw [hu 25 (by decide) (by decide), hu 30 (by decide) (by decide), hv 24 (by decide) (by decide), hv 25 (by decide) (by decide), hv 26 (by decide) (by decide), hL]; exact h18
/-- lots n and beyond dropped, up to a cell -/
def LKB (n i : Nat) (u0 u : SS) : Prop := (∀ j, gI u j = gI u0 j) ∧ (∀ a, a ≠ 3 → a ≠ 5 → gA u a = gA u0 a) ∧ gL u 8 = gL u0 8 ∧ (∀ c, gA u 3 c = if c < i ∧ n ≤ c % 6 then 0 else gA u0 3 c) ∧ ∀ c, gA u 5 c = if c < i ∧ n ≤ c % 6 then 0 else gA u0 5 c
def LKM (n i : Nat) (u0 u : SS) : Prop := (∀ j, gI u j = gI u0 j) ∧ (∀ a, a ≠ 1 → a ≠ 7 → gA u a = gA u0 a) ∧ (∀ c, gA u 1 c = if 8 * n ≤ c ∧ c < i then 0 else gA u0 1 c) ∧ ∀ c, gA u 7 c = if 8 * n ≤ c ∧ c < i then -1 else gA u0 7 c
theorem dropB {c : Nat} (hc : c < 48) : f_X1_drop (nI c) u = some (tA (tZ u 3 (nI c) 0) 5 (nI c) 0) := by
  unfold f_X1_drop
  rw [oi_nI (by decide) hc, lt_e, oi_nI (by decide) hc, lt_e]
theorem klB {n : Nat} (h1 : 1 ≤ n) (h6 : n ≤ 6) : TO (fun w => LKB n 48 (sI u 2 (nI n)) w) (f_X1_keepLots (nI n) u) := by
  refine loopR (fun F (x : Int32 × SS) => f_X1_keepLots_L2 F (nI n) x.1 x.2) (fun i x => x.1 = nI i ∧ LKB n i u x.2) _ 48 ?_ (F := FU) (x := ((0 : Int32), u)) (Nat.lt_trans (by decide) FU_ge) ⟨rfl, fun _ => rfl, fun _ _ _ => rfl, rfl, fun c => by rw [if_neg (by omega)], fun c => by rw [if_neg (by omega)]⟩
  intro F x i hi hI hc
  obtain ⟨b2, w⟩ := x
  obtain ⟨e, k1, k2, k3, k4, k5⟩ := hI
  have e : b2 = nI i := e
  subst e
  show TO _ (b_X1_keepLots_L2 (f_X1_keepLots_L2 F) (nI n) (nI i) w)
  unfold b_X1_keepLots_L2
  by_cases c : i = 48
  · subst c
    rw [if_pos (show (48 : Int32) ≤ nI 48 by decide), lt_e]
    refine to_s ⟨fun j => ?_, fun a a1 a2 => k2 a a1 a2, k3, k4, k5⟩
    rw [gI_sI, gI_sI, k1 j]
  · have e6 : nI i - nI i / (6 : Int32) * (6 : Int32) = nI (i % 6) := pk_rem (d := 6) (by omega) (by decide) (by decide)
    rw [if_neg (show ¬ (48 : Int32) ≤ nI i from nI_ge (b := 48) (by omega) (by decide)), e6]
    by_cases c2 : i % 6 < n
    · rw [if_pos (nI_lt c2 (by omega))]
      unfold f_X1_keepLots_L21
      rw [lt_e, nI_1]
      refine hc (nI (i + 1), w) (by omega) ⟨rfl, k1, k2, k3, fun d => ?_, fun d => ?_⟩
      · show gA w 3 d = _
        rw [k4 d]
        by_cases z : d < i ∧ n ≤ d % 6
        · rw [if_pos z, if_pos (by omega)]
        · rw [if_neg z, if_neg (fun y => z ⟨by rcases Nat.lt_or_ge d i with q | q; exact q; exact absurd (show d = i by omega) (fun q2 => by subst q2; omega), y.2⟩)]
      · show gA w 5 d = _
        rw [k5 d]
        by_cases z : d < i ∧ n ≤ d % 6
        · rw [if_pos z, if_pos (by omega)]
        · rw [if_neg z, if_neg (fun y => z ⟨by rcases Nat.lt_or_ge d i with q | q; exact q; exact absurd (show d = i by omega) (fun q2 => by subst q2; omega), y.2⟩)]
    · rw [if_neg (nI_nlt (by omega) (by omega)), dropB (by omega), ov_s]
      unfold f_X1_keepLots_L21
      rw [lt_e, nI_1]
      refine hc (nI (i + 1), _) (by omega) ⟨rfl, fun j => ?_, fun a a1 a2 => ?_, k3, fun d => ?_, fun d => ?_⟩
      · show gI (tA (tZ w 3 (nI i) 0) 5 (nI i) 0) j = _
        rw [gI_tA, gI_tZ, k1 j]
      · show gA (tA (tZ w 3 (nI i) 0) 5 (nI i) 0) a = _
        rw [tAn a2, tZn a1, k2 a a1 a2]
      · show gA (tA (tZ w 3 (nI i) 0) 5 (nI i) 0) 3 d = _
        rw [tAn (by decide), tZe, nar_0, nI_clamp (by omega)]
        by_cases z : d = i
        · rw [z, upd_s, if_pos (by omega)]
        · rw [upd_n _ _ z, k4 d]
          by_cases z2 : d < i ∧ n ≤ d % 6
          · rw [if_pos z2, if_pos (by omega)]
          · rw [if_neg z2, if_neg (by omega)]
      · show gA (tA (tZ w 3 (nI i) 0) 5 (nI i) 0) 5 d = _
        rw [tAe, tZn (by decide), nI_clamp (by omega)]
        by_cases z : d = i
        · rw [z, upd_s, if_pos (by omega)]
        · rw [upd_n _ _ z, k5 d]
          by_cases z2 : d < i ∧ n ≤ d % 6
          · rw [if_pos z2, if_pos (by omega)]
          · rw [if_neg z2, if_neg (by omega)]
theorem klM {n : Nat} (h6 : n ≤ 6) (a : Int32) : TO (fun p => p.1 = a ∧ LKM n 48 v p.2) (f_X10_lots_L54 FU a (nI (8 * n)) v) := by
  refine loopG (fun F (x : Int32 × SS) => f_X10_lots_L54 F a x.1 x.2) (fun i x => x.1 = nI i ∧ 8 * n ≤ i ∧ LKM n i v x.2) _ 48 ?_ (48 - 8 * n) (8 * n) FU (nI (8 * n), v) (by omega) (Nat.lt_trans (by omega) FU_ge) ⟨rfl, Nat.le_refl _, fun _ => rfl, fun _ _ _ => rfl, fun c => by rw [if_neg (by omega)], fun c => by rw [if_neg (by omega)]⟩
  intro F x i hi hI hc
  obtain ⟨b2, w⟩ := x
  obtain ⟨e, q8, k1, k2, k4, k5⟩ := hI
  have e : b2 = nI i := e
  subst e
  show TO _ (b_X10_lots_L54 (f_X10_lots_L54 F) a (nI i) w)
  unfold b_X10_lots_L54
  by_cases c : i = 48
  · subst c
    rw [if_pos (show (48 : Int32) ≤ nI 48 by decide)]
    exact to_s ⟨rfl, k1, k2, k4, k5⟩
  · rw [if_neg (show ¬ (48 : Int32) ≤ nI i from nI_ge (b := 48) (by omega) (by decide)), oi_nI (by decide) (by omega), lt_e, oi_nI (by decide) (by omega), lt_e, lt_e, nI_1]
    refine hc (nI (i + 1), _) (by omega) ⟨rfl, by omega, fun j => ?_, fun a a1 a2 => ?_, fun d => ?_, fun d => ?_⟩
    · show gI (tA (tZ w 1 (nI i) 0) 7 (nI i) (-1)) j = _
      rw [gI_tA, gI_tZ, k1 j]
    · show gA (tA (tZ w 1 (nI i) 0) 7 (nI i) (-1)) a = _
      rw [tAn a2, tZn a1, k2 a a1 a2]
    · show gA (tA (tZ w 1 (nI i) 0) 7 (nI i) (-1)) 1 d = _
      rw [tAn (by decide), tZe, nar_0, nI_clamp (by omega)]
      by_cases z : d = i
      · rw [z, upd_s, if_pos (by omega)]
      · rw [upd_n _ _ z, k4 d]
        by_cases z2 : 8 * n ≤ d ∧ d < i
        · rw [if_pos z2, if_pos (by omega)]
        · rw [if_neg z2, if_neg (by omega)]
    · show gA (tA (tZ w 1 (nI i) 0) 7 (nI i) (-1)) 7 d = _
      rw [tAe, tZn (by decide), nI_clamp (by omega)]
      by_cases z : d = i
      · rw [z, upd_s, if_pos (by omega)]
      · rw [upd_n _ _ z, k5 d]
        by_cases z2 : 8 * n ≤ d ∧ d < i
        · rw [if_pos z2, if_pos (by omega)]
        · rw [if_neg z2, if_neg (by omega)]
theorem st_lots (hA : FDok FD) (h : RR FE AW FD k u v) (n0 : Int32) : QQ (RR FE AW FD (k + 1)) (f_X9_lots n0 u) (f_X10_lots n0 v) := by
  obtain ⟨t, L, ht, hL1, hL6, e0, e0m, e2, e2m, e1, e1c⟩ := h.1
  rcases Opn_dec u with ho | ho
  · by_cases c1 : (1 : Int32) ≤ n0
    · by_cases c2 : n0 ≤ (6 : Int32)
      · obtain ⟨n, hn, rfl⟩ := nI_of2 (M := (6 : Int32)) (n := 6) (by decide) (fun z => absurd (Int32.lt_of_lt_of_le z (by decide : (0 : Int32) ≤ 1)) (Int32.not_lt.mpr c1)) c2
        have h1 : 1 ≤ n := (nI_leI (a := 1) (b := n) (by decide) (by omega)).mp c1
        obtain ⟨w, ew, k1, k2, k3, k4, k5⟩ := klB (u := u) h1 hn
        obtain ⟨⟨a, w2⟩, ew2, ea, m1, m2, m4, m5⟩ := klM (v := sI v 2 (nI n)) hn (gI v 2)
        have ea : a = gI v 2 := ea
        subst ea
        have e8 : (8 : Int32) * nI n = nI (8 * n) := pk_mul 8 n
        simp only [f_X9_lots, f_X10_lots, f_X9_inRange, opB_t ho, opM_t h.1 ho, c1, c2, ew, e8, ew2, ob_s, ov_s, lt_e, ↓reduceIte, eq_self, not_true_eq_false, not_false_eq_true, nz_1, nz_m1, nz_m2, nz_m3, nz_m4, nz_m5, nz_m6, nz_m7, nz_m8, nz_m9, nl_m1, nl_m2, nl_m3, nl_m4, nl_m5, nl_m6, nl_m7, nl_m8, nl_m9, ceB]
        refine ⟨_, _, _, _, rfl, rfl, RR_lots h (fun i hi => by rw [k1 i, sIn hi]) (fun a a1 a2 => k2 a a1 a2) k3 (fun i hi => by rw [m1 i, sIn hi]) (fun a a1 a2 => m2 a a1 a2) ?_ ?_ ?_ ?_ ?_, ?_⟩
        · refine ⟨t, n, ht, h1, hn, ?_, ?_, ?_, ?_, ?_, ?_⟩
          · rw [k1]; exact e0
          · rw [m1]; exact e0m
          · rw [k1]; exact sIe
          · rw [m1]; exact sIe
          · rw [k1, m1]; exact e1
          · rw [k1]; exact e1c
        · intro b l hb hl
          obtain ⟨⟨b1, b2⟩, b3⟩ := h.2.2.2.1 b l hb hl
          have q1 : gA w 3 (b * 6 + l) = if n ≤ l then 0 else gA u 3 (b * 6 + l) := by
            rw [k4, gA_sI]
            by_cases z : n ≤ l
            · rw [if_pos z, if_pos (by omega)]
            · rw [if_neg z, if_neg (by omega)]
          have q2 : gA w2 1 (8 * l + b) = if n ≤ l then 0 else gA v 1 (8 * l + b) := by
            rw [m4, gA_sI]
            by_cases z : n ≤ l
            · rw [if_pos z, if_pos (by omega)]
            · rw [if_neg z, if_neg (by omega)]
          refine ⟨?_, ?_⟩
          · rw [q1, q2]
            by_cases z : n ≤ l
            · rw [if_pos z, if_pos z]; exact ⟨rfl, Or.inl rfl⟩
            · rw [if_neg z, if_neg z]; exact ⟨b1, b2⟩
          · rw [k2 6 (by decide) (by decide), k2 7 (by decide) (by decide), k2 8 (by decide) (by decide), k2 9 (by decide) (by decide), m2 2 (by decide) (by decide), m2 3 (by decide) (by decide), m2 4 (by decide) (by decide), m2 5 (by decide) (by decide)]
            exact b3
        · intro b l hb hl
          obtain ⟨g1, g2, g3⟩ := h.2.2.2.2.1 b l hb hl
          rw [k2 4 (by decide) (by decide), m2 6 (by decide) (by decide)]
          exact ⟨g1, g2, fun _ => g3 (Or.inl ho)⟩
        · intro b l hb hl
          have q1 : gA w 3 (b * 6 + l) = if n ≤ l then 0 else gA u 3 (b * 6 + l) := by
            rw [k4, gA_sI]
            by_cases z : n ≤ l
            · rw [if_pos z, if_pos (by omega)]
            · rw [if_neg z, if_neg (by omega)]
          have q5 : gA w 5 (b * 6 + l) = if n ≤ l then 0 else gA u 5 (b * 6 + l) := by
            rw [k5, gA_sI]
            by_cases z : n ≤ l
            · rw [if_pos z, if_pos (by omega)]
            · rw [if_neg z, if_neg (by omega)]
          have q7 : gA w2 7 (8 * l + b) = if n ≤ l then -1 else gA v 7 (8 * l + b) := by
            rw [m5, gA_sI]
            by_cases z : n ≤ l
            · rw [if_pos z, if_pos (by omega)]
            · rw [if_neg z, if_neg (by omega)]
          rw [q1, q5, q7]
          by_cases z : n ≤ l
          · rw [if_pos z, if_pos z]; exact Or.inl ⟨rfl, rfl⟩
          · rw [if_neg z, if_neg z, if_neg z]; exact h.2.2.2.2.2.1 b l hb hl
        · rw [m1, sIn (by decide), h.2.2.2.2.2.2.2.2.2.2.2.2.2.2.2.2.1 ho]
          exact fun z => (n01 z).elim
        · rw [e2, e2m]
      · simp only [f_X9_lots, f_X10_lots, f_X9_inRange, opB_t ho, opM_t h.1 ho, c1, c2, ob_s, ov_s, lt_e, ↓reduceIte, eq_self, not_true_eq_false, not_false_eq_true, nz_1, nz_m1, nz_m2, nz_m3, nz_m4, nz_m5, nz_m6, nz_m7, nz_m8, nz_m9, nl_m1, nl_m2, nl_m3, nl_m4, nl_m5, nl_m6, nl_m7, nl_m8, nl_m9, ceB, rfB rwd6, rfM rwd6, rlB rwd6, rlM rwd6]
        exact qq_rf hA h _
    · simp only [f_X9_lots, f_X10_lots, f_X9_inRange, opB_t ho, opM_t h.1 ho, c1, ob_s, ov_s, lt_e, ↓reduceIte, eq_self, not_true_eq_false, not_false_eq_true, nz_1, nz_m1, nz_m2, nz_m3, nz_m4, nz_m5, nz_m6, nz_m7, nz_m8, nz_m9, nl_m1, nl_m2, nl_m3, nl_m4, nl_m5, nl_m6, nl_m7, nl_m8, nl_m9, ceB, rfB rwd4, rfM rwd4, rlB rwd4, rlM rwd4]
      exact qq_rf hA h _
  · simp only [f_X9_lots, f_X10_lots, f_X9_inRange, opB_f ho, opM_f h.1 ho, ob_s, ov_s, lt_e, ↓reduceIte, eq_self, not_true_eq_false, not_false_eq_true, nz_1, nz_m1, nz_m2, nz_m3, nz_m4, nz_m5, nz_m6, nz_m7, nz_m8, nz_m9, nl_m1, nl_m2, nl_m3, nl_m4, nl_m5, nl_m6, nl_m7, nl_m8, nl_m9, ceB, rfB rwd3, rfM rwd3, rlB rwd3, rlM rwd3]
    exact qq_rf hA h _
/-- an end that compares nothing -/
def EN (P : SS → SS → Prop) (x y : Option (Int32 × SS)) : Prop := ∃ (r : Int32) (u2 : SS) (r2 : Int32) (v2 : SS), x = some (r, u2) ∧ y = some (r2, v2) ∧ P u2 v2
theorem EN_qn {P : SS → SS → Prop} {x y : Option (Int32 × SS)} (h : EN P x y) : QN P x y := by
  obtain ⟨r, u2, r2, v2, h1, h2, h3⟩ := h
  exact ⟨r, u2, r2, v2, h1, h2, h3, trivial⟩
theorem ifs {c : Prop} [d : Decidable c] {α : Type} {a b : α} {w : SS} : (if c then some (a, w) else some (b, w)) = some ((if c then a else b), w) := by
  by_cases h : c
  · rw [if_pos h, if_pos h]
  · rw [if_neg h, if_neg h]
theorem outB_at {c : Nat} (hc : c < 48) : ∃ r, f_X1_isOutAt (nI c) u = some (r, u) := by
  unfold f_X1_isOutAt f_X1_isLapsed
  rw [oi_nI (by decide) hc, oi_nI (by decide) hc, oi_nI (by decide) hc]
  by_cases c1 : gA u 4 (nI c).toNatClampNeg = 0
  · rw [if_pos c1]
    by_cases c2 : gA u 5 (nI c).toNatClampNeg = 0
    · rw [if_pos c2]; exact ⟨_, rfl⟩
    · rw [if_neg c2]
      by_cases c3 : gI u 0 ≤ gA u 5 (nI c).toNatClampNeg
      · rw [if_pos c3]; exact ⟨_, rfl⟩
      · rw [if_neg c3]; exact ⟨_, rfl⟩
  · rw [if_neg c1]; exact ⟨_, rfl⟩
/-- what out does to both states -/
theorem RR_out1 (h : RR FE AW FD k u v) {i j : Nat} {z : Int32} (hi : i < 8) (hj : j < 6) (hz : bo z) {x y : Int32} (hxy : (x = gA u 5 (i * 6 + j) ∧ y = gA v 7 (8 * j + i)) ∨ (x = 0 ∧ y = -1)) {u2 v2 : SS} (hu : ∀ i, gI u2 i = gI u i) (hu2 : ∀ a, a ≠ 4 → a ≠ 5 → gA u2 a = gA u a) (hL : gL u2 8 = gL u 8) (u4 : gA u2 4 = upd (gA u 4) (i * 6 + j) z) (u5 : ∀ c, gA u2 5 c = upd (gA u 5) (i * 6 + j) x c) (hv : ∀ i, i ≠ 16 → gI v2 i = gI v i) (hv2 : ∀ a, a ≠ 6 → a ≠ 7 → gA v2 a = gA v a) (v16 : gI v2 16 = 0) (v6 : gA v2 6 = upd (gA v 6) (8 * j + i) z) (v7 : ∀ c, gA v2 7 c = upd (gA v 7) (8 * j + i) y c) : RR FE AW FD (k + 1) u2 v2 := by
  refine RR_out h (fun i => hu i) hu2 hL hv hv2 ?_ ?_ (by rw [v16]; exact Or.inl rfl) (fun _ => v16) (fun q => by rw [v16] at q; exact (n01 q).elim)
  · intro b l hb hl
    obtain ⟨g1, g2, g3⟩ := h.2.2.2.2.1 b l hb hl
    have hop : Opn u2 ↔ Opn u := by unfold Opn; rw [hu 0, hu 1]
    rw [u4, v6, hu2 3 (by decide) (by decide), hop]
    by_cases c : b = i ∧ l = j
    · obtain ⟨rfl, rfl⟩ := c
      rw [upd_s, upd_s]
      exact ⟨hz, hz, fun _ => rfl⟩
    · rw [upd_n _ _ (by omega), upd_n _ _ (by omega)]
      exact ⟨g1, g2, g3⟩
  · intro b l hb hl
    rw [u5, v7, hu2 3 (by decide) (by decide)]
    by_cases c : b = i ∧ l = j
    · obtain ⟨rfl, rfl⟩ := c
      rw [upd_s, upd_s]
      rcases hxy with ⟨rfl, rfl⟩ | ⟨rfl, rfl⟩
      · exact h.2.2.2.2.2.1 b l hb hl
      · exact Or.inl ⟨rfl, rfl⟩
    · rw [upd_n _ _ (by omega), upd_n _ _ (by omega)]
      exact h.2.2.2.2.2.1 b l hb hl
theorem upd_id (f : Nat → Int32) (c d : Nat) : upd f c (f c) d = f d := by
  by_cases h : d = c
  · rw [h, upd_s]
  · rw [upd_n _ _ h]
theorem st_out (hA : FDok FD) (h : RR FE AW FD k u v) (b l z : Int32) (hz : bo z) : QN (RR FE AW FD (k + 1)) (f_X9_out b l z u) (f_X10_out b l z v) := by
  obtain ⟨⟨t, L, ht, hL1, hL6, e0, e0m, e2, e2m, e1, e1c⟩, h2, h3, h4, h5, h6, h7⟩ := id h
  rcases bl_c b l L hL6 with ⟨i, j, hi, hj, hj6, rfl, rfl⟩ | hbl
  rotate_left
  · by_cases hb : rg 8 b
    · have hl : ¬ rg L l := fun y => hbl ⟨hb, y⟩
      simp only [f_X9_out, f_X10_out, f_X10_out_L15, f_X10_out_L48, f_X10_out_L53, f_X10_out_L78, f_X10_out_L85, f_X9_out_L60, f_X1_clearOut, noBid_f e2 hL6 hbl, isBidder_t hb, isLot_f e2m hL1 hL6 hl, ob_s, ov_s, lt_e, ↓reduceIte, eq_self, not_true_eq_false, not_false_eq_true, nz_1, nz_m1, nz_m2, nz_m3, nz_m4, nz_m5, nz_m6, nz_m7, nz_m8, nz_m9, nl_m1, nl_m2, nl_m3, nl_m4, nl_m5, nl_m6, nl_m7, nl_m8, nl_m9, ceB, rfB rwd1, rfM rwd1, rlB rwd1, rlM rwd1]
      exact qn_rf hA h _
    · simp only [f_X9_out, f_X10_out, f_X10_out_L15, f_X10_out_L48, f_X10_out_L53, f_X10_out_L78, f_X10_out_L85, f_X9_out_L60, f_X1_clearOut, noBid_f e2 hL6 hbl, isBidder_f hb, ob_s, ov_s, lt_e, ↓reduceIte, eq_self, not_true_eq_false, not_false_eq_true, nz_1, nz_m1, nz_m2, nz_m3, nz_m4, nz_m5, nz_m6, nz_m7, nz_m8, nz_m9, nl_m1, nl_m2, nl_m3, nl_m4, nl_m5, nl_m6, nl_m7, nl_m8, nl_m9, ceB, rfB rwd1, rfM rwd1, rlB rwd1, rlM rwd1]
      exact qn_rf hA h _
  · refine EN_qn ?_
    obtain ⟨rB, eB⟩ := outB_at (u := u) (c := i * 6 + j) (by omega)
    have eM : ∃ r, f_X10_out (nI i) (nI j) z v = f_X10_out_L53 z (nI (8 * j + i)) r v := by
      unfold f_X10_out
      rw [isBidder_t (show rg 8 (nI i) from ⟨i, hi, rfl⟩), ob_s, if_neg nz_1, isLot_t e2m hL1 hL6 (show rg L (nI j) from ⟨j, hj, rfl⟩), ob_s, if_neg nz_1, lt_e, cellM, oi_nI (by decide) (show 8 * j + i < 48 by omega)]
      unfold f_X10_isSilent f_X10_out_L48
      rw [oi_nI (by decide) (show 8 * j + i < 48 by omega), oi_nI (by decide) (show 8 * j + i < 48 by omega)]
      by_cases c1 : gA v 6 (nI (8 * j + i)).toNatClampNeg = 0
      · rw [if_pos c1]
        by_cases c2 : gA v 7 (nI (8 * j + i)).toNatClampNeg < 0
        · rw [if_pos c2, ob_s, if_pos rfl]; exact ⟨_, rfl⟩
        · rw [if_neg c2]
          by_cases c3 : gI v 0 ≤ gA v 7 (nI (8 * j + i)).toNatClampNeg
          · rw [if_pos c3, ob_s, if_pos rfl]; exact ⟨_, rfl⟩
          · rw [if_neg c3, ob_s, if_neg nz_1]; exact ⟨_, rfl⟩
      · rw [if_neg c1]; exact ⟨_, rfl⟩
    obtain ⟨rM, eM⟩ := eM
    rw [eM]
    unfold f_X9_out f_X10_out_L53 f_X10_out_L78 f_X10_out_L85
    rw [noBid_t e2 hL6 ⟨⟨i, hi, rfl⟩, ⟨j, hj, rfl⟩⟩, ob_s, if_pos rfl, ceB, ob_s, cellB, eB, ob_s]
    have cB : (nI (i * 6 + j)).toNatClampNeg = i * 6 + j := nI_clamp (by omega)
    have cM : (nI (8 * j + i)).toNatClampNeg = 8 * j + i := nI_clamp (by omega)
    have oB : ∀ {β : Type} (x : Option β), oi (nI (i * 6 + j)) 48 x = x := fun x => oi_nI (by decide) (by omega)
    have oM : ∀ {β : Type} (x : Option β), oi (nI (8 * j + i)) 48 x = x := fun x => oi_nI (by decide) (by omega)
    rcases hz with rfl | rfl
    · rw [if_pos rfl, if_pos rfl]
      unfold f_X1_clearOut f_X9_out_L60
      simp only [oB, oM, lt_e]
      have hl4 : Lps (tZ u 4 (nI (i * 6 + j)) 0) (i * 6 + j) ↔ Lps u (i * 6 + j) := Iff.rfl
      by_cases hl : Lps u (i * 6 + j)
      · rw [lapB_t (by omega) (hl4.mpr hl), silM_t h hi hj6 hl]
        simp only [ob_s, ov_s, nz_1, ↓reduceIte, ifs]
        refine ⟨_, _, _, _, rfl, rfl, RR_out1 h hi hj6 (z := 0) (Or.inl rfl) (x := 0) (y := -1) (Or.inr ⟨rfl, rfl⟩) (fun _ => rfl) (fun a a1 a2 => by rw [tAn a2, tZn a1]) rfl ?_ ?_ (fun i q => by rw [sIn q]; rfl) (fun a a1 a2 => by rw [gA_sI, tZn a1, tAn a2]) rfl ?_ ?_⟩
        · rw [tAn (by decide), tZe, nar_0, cB]
        · intro c; rw [tAe, cB, tZn (by decide)]
        · rw [gA_sI, tZe, nar_0, cM, tAn (by decide)]
        · intro c; rw [gA_sI, tZn (by decide), tAe, cM]
      · rw [lapB_f (by omega) (fun q => hl (hl4.mp q)), silM_f h hi hj6 hl]
        simp only [ob_s, ov_s, nz_1, ↓reduceIte, ifs]
        refine ⟨_, _, _, _, rfl, rfl, RR_out1 h hi hj6 (z := 0) (Or.inl rfl) (x := gA u 5 (i * 6 + j)) (y := gA v 7 (8 * j + i)) (Or.inl ⟨rfl, rfl⟩) (fun _ => rfl) (fun a a1 a2 => by rw [tZn a1]) rfl ?_ ?_ (fun i q => by rw [sIn q]; rfl) (fun a a1 a2 => by rw [gA_sI, tZn a1, tAn a2]) rfl ?_ ?_⟩
        · rw [tZe, nar_0, cB]
        · intro c; rw [tZn (by decide), upd_id]
        · rw [gA_sI, tZe, nar_0, cM, tAn (by decide)]
        · intro c; rw [gA_sI, tZn (by decide), tAe, cM]
    · rw [if_neg nz_1, if_neg nz_1]
      unfold f_X9_out_L60
      simp only [oB, oM, lt_e, ifs]
      refine ⟨_, _, _, _, rfl, rfl, RR_out1 h hi hj6 (z := 1) (Or.inr rfl) (x := gA u 5 (i * 6 + j)) (y := gA v 7 (8 * j + i)) (Or.inl ⟨rfl, rfl⟩) (fun _ => rfl) (fun a a1 a2 => by rw [tZn a1]) rfl ?_ ?_ (fun i q => by rw [sIn q]; rfl) (fun a a1 a2 => by rw [gA_sI, tZn a1, tAn a2]) rfl ?_ ?_⟩
      · rw [tZe, nar_1, cB]
      · intro c; rw [tZn (by decide), upd_id]
      · rw [gA_sI, tZe, nar_1, cM, tAn (by decide)]
      · intro c; rw [gA_sI, tZn (by decide), tAe, cM]
end ST8
