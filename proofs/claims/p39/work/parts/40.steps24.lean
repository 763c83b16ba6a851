section ST24
variable {k n : Nat} {u v v2 w x y : SS}
/-- a name's fraction, neither below 0 -/
def NN (w : SS) (j : Nat) : Prop := ∃ a b : Nat, gL w 0 j = lN a ∧ gL w 1 j = lN b ∧ a ≤ 1000000000 ∧ 1 ≤ b ∧ b ≤ 1000000000
theorem NN_q {j : Nat} (h : NN w j) : QE (gL w 0 j) (gL w 1 j) := by
  obtain ⟨a, b, e1, e2, h1, h2, h3⟩ := h
  rw [e1, e2, ← iL_n a]; exact QE_i (by omega) (by omega) h2 h3
theorem pr_c (h : RT k u v) {c : Nat} (hc : c < 48) : ∃ p : Nat, 1 ≤ p ∧ p ≤ 109999800 ∧ f_X10_priceOf (nI c) v = some (nI p, v) := by
  have a := prM h (b := c % 8) (l := c / 8) (by omega) (by omega)
  have q := pr_le (BD_of h (b := c % 8) (l := c / 8) (by omega) (by omega))
  rw [show 8 * (c / 8) + c % 8 = c by omega] at a
  refine ⟨_, ?_, q, a⟩
  unfold prN
  split <;> omega
/-- a price less something, at least 1 -/
def pmx (p d : Nat) : Nat := if 1 ≤ p - d then p - d else 1
theorem px {p d : Nat} (hp : p ≤ 109999800) (hd : d ≤ 99999) : ∃ z : Int, (nI p - nI d).toInt64 = iL z ∧ z = (p : Int) - d := by
  refine ⟨(p : Int) - d, ?_, rfl⟩
  refine Int64.toInt_inj.mp ?_
  rw [Int32.toInt_toInt64, pk_sub_toInt (by omega) (by omega), iL_t (by omega) (by omega)]
theorem lL1 (z : Int) (h1 : -(2 ^ 62) ≤ z) (h2 : z ≤ 2 ^ 62) : 0 ≤ lg_cmp (iL z) (1 : Int64) ↔ 1 ≤ z := by
  rw [lg_cmp_ge, Int64.le_iff_toInt_le, iL_t (by omega) (by omega), show (1 : Int64).toInt = 1 by decide]
/-- what the names are gathered from -/
def FG (cn0 i lo hi su cn : Nat) (b5 b7 b9 : Int64) (b11 : Int32) (w : SS) : Prop := b5 = lN lo ∧ b7 = lN hi ∧ b9 = lN su ∧ b11 = nI cn ∧ lo ≤ 109999800 ∧ hi ≤ 109999800 ∧ su ≤ cn * 109999800 ∧ cn ≤ i ∧ (cn0 < i → 1 ≤ cn) ∧ NN w 5
theorem clL {j : Nat} : (nI j).toNatClampNeg = j ∨ 2 ^ 31 ≤ j := by
  rcases Nat.lt_or_ge j (2 ^ 31) with z | z
  · exact Or.inl (nI_clamp z)
  · exact Or.inr z
theorem NN_t {j m : Nat} {x : Int64} {a : Nat} (h : NN w j) (e : j ≠ m) (hm : m < 2 ^ 31) : NN (tL w a (nI m) x) j := by
  obtain ⟨p, q, e1, e2, h3⟩ := h
  refine ⟨p, q, ?_, ?_, h3⟩
  · by_cases z : (0 : Nat) = a
    · subst z; rw [tLe, nI_clamp hm, updL_n _ _ e]; exact e1
    · rw [tLn z]; exact e1
  · by_cases z : (1 : Nat) = a
    · subst z; rw [tLe, nI_clamp hm, updL_n _ _ e]; exact e2
    · rw [tLn z]; exact e2
theorem NN_p {m a b : Nat} (hm : m < 2 ^ 31) (ha : a ≤ 1000000000) (h1 : 1 ≤ b) (hb : b ≤ 1000000000) : NN (tL (tL w 0 (nI m) (lN a)) 1 (nI m) (lN b)) m := by
  refine ⟨a, b, ?_, ?_, ha, h1, hb⟩
  · rw [tLn (by decide), tLe, nI_clamp hm, updL_s]
  · rw [tLe, nI_clamp hm, updL_s]
theorem NN_g {j : Nat} (h : NN w j) (e0 : gL y 0 j = gL w 0 j) (e1 : gL y 1 j = gL w 1 j) : NN y j := by
  unfold NN; rw [e0, e1]; exact h
/-- names 3 to 5 reduced -/
theorem fn357 (m : PK v w) (hn : ∀ j : Nat, j < 7 → NN w j) : TO (fun y => PK v y ∧ NMI y) (f_X10_findNames_L357 FU (3 : Int32) w) := by
  refine loopG (fun F (x : Int32 × SS) => f_X10_findNames_L357 F x.1 x.2) (fun i x => x.1 = nI i ∧ PK v x.2 ∧ ∀ j : Nat, j < 7 → NN x.2 j) _ 6 ?_ 3 3 FU ((3 : Int32), w) (by omega) (Nat.lt_trans (by decide) FU_ge) ⟨rfl, m, hn⟩
  intro F x i hi hI hc
  obtain ⟨b14, y⟩ := x
  obtain ⟨e, m, hn⟩ := hI
  have e : b14 = nI i := e
  have m : PK v y := m
  have hn : ∀ j : Nat, j < 7 → NN y j := hn
  subst e
  show TO _ (b_X10_findNames_L357 (f_X10_findNames_L357 F) (nI i) y)
  unfold b_X10_findNames_L357
  refine to_c (fun _ => to_s ⟨m, fun j hj => NN_q (hn j hj)⟩) (fun c => ?_)
  have hi2 : i < 6 := ltn (n := 6) (by omega) c
  have r7 : rg 7 (nI i) := ⟨i, by omega, rfl⟩
  obtain ⟨a, b, e1, e2, h1, h2, h3⟩ := hn i (by omega)
  have e1 : gL y 0 i = lN a := e1
  have e2 : gL y 1 i = lN b := e2
  obtain ⟨g, g0, g1, g2, eg⟩ := dvT (z := (a : Int)) (m := b) (by omega) (by omega) (by omega) (by omega) y
  have gn : ¬ lN g = 0 := fun y => by
    have := (pk_lEQ (b := 0) g2 (by decide)).mp y
    omega
  rw [nI_clamp (show i < 2 ^ 31 by omega), e1, e2, ← iL_n a]
  refine to_i (by decide) r7 (to_i (by decide) r7 ?_)
  rw [eg, ob_s]
  refine to_i (by decide) r7 (to_n gn (to_i (by decide) r7 ?_))
  rw [e1, pk_lDiv (by omega) g0 g2, lt_e, tLn (show (1 : Nat) ≠ 0 by decide), e2, pk_lDiv (by omega) g0 g2]
  refine to_i (by decide) r7 (to_n gn (to_i (by decide) r7 ?_))
  rw [lt_e, lt_e, nI_1]
  have q1 : a / g ≤ a := Nat.div_le_self _ _
  have q2 : b / g ≤ b := Nat.div_le_self _ _
  have q3 : 1 ≤ b / g := (Nat.le_div_iff_mul_le g0).mpr (by omega)
  refine hc (nI (i + 1), _) (by omega) ⟨rfl, PK_L (PK_L m), fun j hj => ?_⟩
  show NN (tL (tL y 0 (nI i) (lN (a / g))) 1 (nI i) (lN (b / g))) j
  by_cases z : j = i
  · subst z; exact NN_p (by omega) (by omega) (by omega) (by omega)
  · exact NN_t (NN_t (hn j hj) z (by omega)) z (by omega)
theorem fn281 (h : RT k u v) {c : Nat} (hc : c < 48) (b3 : Int32) {cn : Nat} (h1 : 1 ≤ cn) (h8 : cn ≤ 8) (m : PK v w) (ht : ∀ j : Nat, j < 7 → j ≠ 5 → j ≠ 4 → ∃ a : Nat, a ≤ 1000000000 ∧ gL w 0 j = lN a) (n5 : NN w 5) (n4 : ∃ a : Nat, gL w 0 4 = lN a ∨ True) : TO (fun y => PK v y ∧ NMI y) (f_X10_findNames_L281 FU (nI c) b3 (nI cn) (0 : Int32) w) := by
  refine loopR (fun F (x : Int32 × SS) => f_X10_findNames_L281 F (nI c) b3 (nI cn) x.1 x.2) (fun i x => x.1 = nI i ∧ PK v x.2 ∧ (∀ j : Nat, j < 7 → j ≠ 5 → j ≠ 4 → ∃ a : Nat, a ≤ 1000000000 ∧ gL x.2 0 j = lN a) ∧ NN x.2 5 ∧ ∀ j : Nat, j < i → j ≠ 5 → gL x.2 1 j = lN 1) _ 7 ?_ (F := FU) (x := ((0 : Int32), w)) (Nat.lt_trans (by decide) FU_ge) ⟨rfl, m, ht, n5, fun j hj => absurd hj (by omega)⟩
  intro F x i hi hI hc2
  obtain ⟨b14, y⟩ := x
  obtain ⟨e, m, ht, n5, hb⟩ := hI
  have e : b14 = nI i := e
  have m : PK v y := m
  have ht : ∀ j : Nat, j < 7 → j ≠ 5 → j ≠ 4 → ∃ a : Nat, a ≤ 1000000000 ∧ gL y 0 j = lN a := ht
  have n5 : NN y 5 := n5
  have hb : ∀ j : Nat, j < i → j ≠ 5 → gL y 1 j = lN 1 := hb
  subst e
  show TO _ (b_X10_findNames_L281 (f_X10_findNames_L281 F) (nI c) b3 (nI cn) (nI i) y)
  unfold b_X10_findNames_L281 f_X10_findNames_L310
  by_cases c7 : i = 7
  · subst c7
    rw [if_pos (show (7 : Int32) ≤ nI 7 by decide), nI_l (by omega)]
    refine to_i (by decide) ⟨3, by decide, by decide⟩ (to_l ?_)
    have m2 : PK v (tL y 1 (3 : Int32) (lN cn)) := PK_L m
    refine to_v (fqT (RT_mk h (PK_mk m2)) hc b3) (fun z hz => ?_)
    obtain ⟨q, s, d, d1, d6, s6, e4, e5⟩ := hz
    rw [e4, nI_l (by omega)]
    refine to_i (by decide) ⟨4, by decide, by decide⟩ (to_l ?_)
    rw [gI_tL, e5, nI_l (by omega)]
    refine to_i (by decide) ⟨4, by decide, by decide⟩ (to_l ?_)
    refine fn357 (PK_L (PK_L (PK_t m2 (QK_pk q)))) (fun j hj => ?_)
    by_cases z4 : j = 4
    · subst z4
      exact NN_p (m := 4) (by decide) (by omega) d1 (by omega)
    refine NN_t (m := 4) (NN_t (m := 4) ?_ z4 (by decide)) z4 (by decide)
    refine NN_g (w := tL y 1 (nI 3) (lN cn)) ?_ (by rw [q.2.2.1 0]; rfl) (by rw [q.2.2.1 1]; rfl)
    by_cases z5 : j = 5
    · subst z5; exact NN_t (m := 3) n5 (by decide) (by decide)
    obtain ⟨a, ha, ea⟩ := ht j hj z5 z4
    by_cases z3 : j = 3
    · subst z3
      exact ⟨a, cn, by rw [tLn (by decide)]; exact ea, by rw [tLe, nI_clamp (by decide), updL_s], ha, h1, by omega⟩
    · exact ⟨a, 1, by rw [tLn (by decide)]; exact ea, by rw [tLe, nI_clamp (by decide), updL_n _ _ z3]; exact hb j hj z5, ha, by decide, by decide⟩
  · have hi2 : i < 7 := by omega
    rw [if_neg (show ¬ (7 : Int32) ≤ nI i from nI_ge (b := 7) hi2 (by decide))]
    have st : ∀ q0 : Int64, (i ≠ 5 → q0 = lN 1) → (i = 5 → q0 = gL y 1 5) → TO (fun y => PK v y ∧ NMI y) (oi (nI i) 7 (lt (tL y 1 (nI i) q0) fun u24 => lt (nI i + (1 : Int32)) fun x25 => f_X10_findNames_L281 F (nI c) b3 (nI cn) x25 u24)) := by
      intro q0 hq hq5
      refine to_i (by decide) ⟨i, hi2, rfl⟩ (to_l ?_)
      rw [lt_e, nI_1]
      refine hc2 (nI (i + 1), _) (by omega) ⟨rfl, PK_L m, fun j hj a1 a2 => ?_, ?_, fun j hj a1 => ?_⟩
      · show ∃ a : Nat, a ≤ 1000000000 ∧ gL (tL y 1 (nI i) q0) 0 j = lN a
        rw [tLn (by decide)]; exact ht j hj a1 a2
      · show NN (tL y 1 (nI i) q0) 5
        by_cases z : i = 5
        · refine NN_g n5 (by rw [tLn (by decide)]) ?_
          rw [tLe, nI_clamp (by omega), z, updL_s]; exact hq5 z
        · exact NN_t n5 (Ne.symm z) (by omega)
      · show gL (tL y 1 (nI i) q0) 1 j = lN 1
        rw [tLe, nI_clamp (by omega)]
        by_cases z : j = i
        · rw [z, updL_s]; exact hq (by omega)
        · rw [updL_n _ _ z]; exact hb j (by omega) a1
    refine to_c (fun c5 => to_i (by decide) ⟨5, by decide, by decide⟩ ?_) (fun c5 => ?_)
    · have i5 : i = 5 := (nI_eq (b := 5) (by omega) (by decide)).mp c5
      exact st _ (fun z => absurd i5 z) (fun _ => rfl)
    · have i5 : i ≠ 5 := fun z => c5 (by rw [z]; rfl)
      exact st _ (fun _ => rfl) (fun z => absurd z i5)
theorem mul_b {a b c : Nat} (h : a ≤ b * c) (hb : b ≤ 8) (hc : c = 109999800) : a ≤ 879998400 := by
  subst hc; omega
theorem fnT (h : RT k u v) {c d : Nat} (hc : c < 48) (hd : d ≤ 99999) (b3 : Int32) (hb3 : ¬ nI (c % 8) = b3) (hst : f_X10_doesStand (nI c) v = some (1, v)) : TO (fun y => PK v y ∧ NMI y) (f_X10_findNames (nI c) (nI d) b3 v) := by
  unfold f_X10_findNames
  rw [show nI c / (8 : Int32) = nI (c / 8) from pk_div (d := 8) (by omega) (by decide) (by decide), lt_e]
  refine to_i (by decide) ⟨5, by decide, by decide⟩ (to_l (to_i (by decide) ⟨5, by decide, by decide⟩ (to_l ?_)))
  have n5 : NN (tL (tL v 0 (5 : Int32) (0 : Int64)) 1 (5 : Int32) (1 : Int64)) 5 := NN_p (m := 5) (a := 0) (b := 1) (by decide) (by decide) (by decide) (by decide)
  refine loopR (fun F (x : Int64 × Int64 × Int64 × Int32 × Int32 × SS) => f_X10_findNames_L35 F (nI c) (nI d) b3 (nI (c / 8)) x.1 x.2.1 x.2.2.1 x.2.2.2.1 x.2.2.2.2.1 x.2.2.2.2.2) (fun i x => x.2.2.2.2.1 = nI i ∧ PK v x.2.2.2.2.2 ∧ ∃ lo hi su cn : Nat, FG (c % 8) i lo hi su cn x.1 x.2.1 x.2.2.1 x.2.2.2.1 x.2.2.2.2.2) _ 8 ?_ (F := FU) (x := ((0 : Int64), (0 : Int64), (0 : Int64), (0 : Int32), (0 : Int32), _)) (Nat.lt_trans (by decide) FU_ge) ⟨rfl, PK_L (PK_L (PK_r v)), 0, 0, 0, 0, rfl, rfl, rfl, rfl, by omega, by omega, by omega, by omega, fun z => absurd z (by omega), n5⟩
  intro F x i hi hI hc2
  obtain ⟨b5, b7, b9, b11, b12, y⟩ := x
  obtain ⟨e, m, lo, hi2, su, cn, f5, f7, f9, f11, l1, l2, l3, l4, l5, n5⟩ := hI
  have e : b12 = nI i := e
  have m : PK v y := m
  have f5 : b5 = lN lo := f5
  have f7 : b7 = lN hi2 := f7
  have f9 : b9 = lN su := f9
  have f11 : b11 = nI cn := f11
  have n5 : NN y 5 := n5
  subst e
  subst f5
  subst f7
  subst f9
  subst f11
  have hy := RT_mk h (PK_mk m)
  show TO _ (b_X10_findNames_L35 (f_X10_findNames_L35 F) (nI c) (nI d) b3 (nI (c / 8)) (lN lo) (lN hi2) (lN su) (nI cn) (nI i) y)
  unfold b_X10_findNames_L35 f_X10_findNames_L84 f_X10_findNames_L101 f_X10_findNames_L116 f_X10_findNames_L123 f_X10_findNames_L140 f_X10_findNames_L209
  by_cases c8 : i = 8
  · subst c8
    rw [if_pos (show (8 : Int32) ≤ nI 8 by decide)]
    have cn1 : 1 ≤ cn := l5 (Nat.mod_lt _ (by decide))
    obtain ⟨p, p1, p2, ep⟩ := pr_c hy hc
    obtain ⟨z, ez, hz⟩ := px (p := p) (d := d) p2 hd
    rw [ep, ob_s, ez, lt_e]
    have L243 : ∀ t : Nat, t ≤ 109999800 → TO (fun y => PK v y ∧ NMI y) (f_X10_findNames_L243 (nI c) b3 (lN lo) (lN hi2) (lN su) (nI cn) (lN t) (0 : Int32) y) := by
      intro t ht
      have su9 : su ≤ 879998400 := mul_b l3 l4 rfl
      unfold f_X10_findNames_L243
      rw [nI_l (show cn < 2 ^ 31 by omega)]
      refine to_i (by decide) ⟨0, by decide, by decide⟩ (to_l (to_i (by decide) ⟨1, by decide, by decide⟩ (to_l (to_i (by decide) ⟨2, by decide, by decide⟩ (to_l (to_i (by decide) ⟨3, by decide, by decide⟩ (to_l (to_i (by decide) ⟨6, by decide, by decide⟩ (to_l ?_)))))))))
      refine fn281 h hc b3 cn1 l4 (PK_L (PK_L (PK_L (PK_L (PK_L m))))) (fun j hj a5 a4 => ?_) ?_ ⟨0, Or.inr trivial⟩
      · have k0 : (0 : Int32) = nI 0 := rfl
        have k1 : (1 : Int32) = nI 1 := rfl
        have k2 : (2 : Int32) = nI 2 := rfl
        have k3 : (3 : Int32) = nI 3 := rfl
        have k6 : (6 : Int32) = nI 6 := rfl
        rw [k0, k1, k2, k3, k6, tLe, tLe, tLe, tLe, tLe, nI_clamp (by decide), nI_clamp (by decide), nI_clamp (by decide), nI_clamp (by decide), nI_clamp (by decide)]
        match j, hj, a5, a4 with
        | 0, _, _, _ => exact ⟨t, by omega, by rw [updL_n _ _ (by decide), updL_n _ _ (by decide), updL_n _ _ (by decide), updL_n _ _ (by decide), updL_s]⟩
        | 1, _, _, _ => exact ⟨lo, by omega, by rw [updL_n _ _ (by decide), updL_n _ _ (by decide), updL_n _ _ (by decide), updL_s]⟩
        | 2, _, _, _ => exact ⟨hi2, by omega, by rw [updL_n _ _ (by decide), updL_n _ _ (by decide), updL_s]⟩
        | 3, _, _, _ => exact ⟨su, by omega, by rw [updL_n _ _ (by decide), updL_s]⟩
        | 6, _, _, _ => exact ⟨cn, by omega, by rw [updL_s]⟩
        | 4, _, _, a4 => exact absurd rfl a4
        | 5, _, a5, _ => exact absurd rfl a5
      · exact NN_t (m := 6) (NN_t (m := 3) (NN_t (m := 2) (NN_t (m := 1) (NN_t (m := 0) n5 (by decide) (by decide)) (by decide) (by decide)) (by decide) (by decide)) (by decide) (by decide)) (by decide) (by decide)
    by_cases c1 : 1 ≤ z
    · rw [if_pos ((lL1 z (by omega) (by omega)).mpr c1)]
      obtain ⟨t, ht⟩ := Int.eq_ofNat_of_zero_le (show 0 ≤ z by omega)
      rw [ht, iL_n]; exact L243 t (by omega)
    · rw [if_neg (fun q => c1 ((lL1 z (by omega) (by omega)).mp q))]
      exact L243 1 (by omega)
  · have hi3 : i < 8 := by omega
    rw [if_neg (show ¬ (8 : Int32) ≤ nI i from nI_ge (b := 8) hi3 (by decide)), lt_e, cellM]
    have c48 : 8 * (c / 8) + i < 48 := by omega
    have skip : (i ≠ c % 8) → TO (fun y => PK v y ∧ NMI y) (lt (nI i + (1 : Int32)) fun x30 => f_X10_findNames_L35 F (nI c) (nI d) b3 (nI (c / 8)) (lN lo) (lN hi2) (lN su) (nI cn) x30 y) := by
      intro ne
      rw [lt_e, nI_1]
      exact hc2 (lN lo, lN hi2, lN su, nI cn, nI (i + 1), y) hi3 ⟨rfl, m, lo, hi2, su, cn, rfl, rfl, rfl, rfl, l1, l2, l3, by omega, fun z => l5 (by omega), n5⟩
    obtain ⟨⟨r, z⟩, er, hz⟩ := stM_T hy c48
    have ez : z = y := hz.1
    subst ez
    rw [er, ob_s]
    have rn : r = 0 → i ≠ c % 8 := by
      intro r0 ic
      have e1 : 8 * (c / 8) + i = c := by omega
      rw [e1, r0] at er
      have g : f_X10_doesStand (nI c) z = some (1, z) := by
        have q := hst
        unfold f_X10_doesStand f_X10_isSilent at q ⊢
        rw [m.2 1 (by unfold kPA; omega), m.2 6 (by unfold kPA; omega), m.2 7 (by unfold kPA; omega), m.1 0 (by unfold kPI; omega)]
        rw [oi_nI (by decide) hc] at q ⊢
        by_cases a1 : gA v 1 (nI c).toNatClampNeg = 0
        · rw [if_pos a1] at q; exact absurd (Prod.mk.inj (Option.some.inj q)).1 n01
        rw [if_neg a1] at q ⊢
        rw [oi_nI (by decide) hc] at q ⊢
        by_cases a2 : gA v 6 (nI c).toNatClampNeg = 0
        rotate_left
        · rw [if_neg a2] at q; exact absurd (Prod.mk.inj (Option.some.inj q)).1 n01
        rw [if_pos a2] at q ⊢
        rw [oi_nI (by decide) hc] at q ⊢
        by_cases a3 : gA v 7 (nI c).toNatClampNeg < 0
        · rw [if_pos a3, ob_s, if_pos rfl]
        rw [if_neg a3] at q ⊢
        rw [oi_nI (by decide) hc] at q ⊢
        by_cases a4 : gI v 0 ≤ gA v 7 (nI c).toNatClampNeg
        · rw [if_pos a4, ob_s, if_pos rfl]
        · rw [if_neg a4, ob_s, if_neg nz_1] at q; exact absurd (Prod.mk.inj (Option.some.inj q)).1 n01
      rw [er] at g
      exact absurd (Prod.mk.inj (Option.some.inj g)).1 n01
    refine to_c (fun c0 => skip (rn c0)) (fun _ => to_c (fun cb => skip (fun z => hb3 (by rw [← z]; exact cb))) (fun _ => ?_))
    obtain ⟨p, p1, p2, ep⟩ := pr_c hy c48
    rw [ep, ob_s]
    have tail : ∀ (t lo2 hi4 : Nat), t ≤ 109999800 → lo2 ≤ 109999800 → hi4 ≤ 109999800 → TO (fun y => PK v y ∧ NMI y) (lt (lN su + lN t) fun x35 => lt (nI cn + (1 : Int32)) fun x36 => ov (f_X10_findQuality (nI (8 * (c / 8) + i)) b3 z) fun u38 => oi (5 : Int32) 7 (oi (5 : Int32) 7 (if (lg_cmp (((gI u38 4).toInt64) * (gL u38 1 (5 : Int32).toNatClampNeg)) ((gL u38 0 (5 : Int32).toNatClampNeg) * ((gI u38 5).toInt64))) ≤ 0 then (lt (nI i + (1 : Int32)) fun x30 => f_X10_findNames_L35 F (nI c) (nI d) b3 (nI (c / 8)) (lN lo2) (lN hi4) x35 x36 x30 u38) else (oi (5 : Int32) 7 (lt (tL u38 0 (5 : Int32) ((gI u38 4).toInt64)) fun u39 => oi (5 : Int32) 7 (lt (tL u39 1 (5 : Int32) ((gI u39 5).toInt64)) fun u40 => (lt (nI i + (1 : Int32)) fun x30 => f_X10_findNames_L35 F (nI c) (nI d) b3 (nI (c / 8)) (lN lo2) (lN hi4) x35 x36 x30 u40))))))) := by
      intro t lo2 hi4 t1 t2 t3
      rw [lN_add, lt_e, nI_1 cn, lt_e]
      refine to_v (fqT hy c48 b3) (fun q hq => ?_)
      obtain ⟨qk, s, dd, d1, d6, s6, e4, e5⟩ := hq
      have r5 : rg 7 (5 : Int32) := ⟨5, by decide, by decide⟩
      have mq : PK v q := PK_t m (QK_pk qk)
      have nq : NN q 5 := NN_g n5 (by rw [qk.2.2.1 0]) (by rw [qk.2.2.1 1])
      have fin : ∀ q2 : SS, PK v q2 → NN q2 5 → TO (fun y => PK v y ∧ NMI y) (lt (nI i + (1 : Int32)) fun x30 => f_X10_findNames_L35 F (nI c) (nI d) b3 (nI (c / 8)) (lN lo2) (lN hi4) (lN (su + t)) (nI (cn + 1)) x30 q2) := by
        intro q2 m2 n2
        rw [lt_e, nI_1]
        exact hc2 (lN lo2, lN hi4, lN (su + t), nI (cn + 1), nI (i + 1), q2) hi3 ⟨rfl, m2, lo2, hi4, su + t, cn + 1, rfl, rfl, rfl, rfl, t2, t3, by omega, by omega, fun _ => by omega, n2⟩
      refine to_i (by decide) r5 (to_i (by decide) r5 (to_c (fun _ => fin q mq nq) (fun _ => ?_)))
      refine to_i (by decide) r5 (to_l (to_i (by decide) r5 (to_l ?_)))
      refine fin _ (PK_L (PK_L mq)) ?_
      rw [gI_tL, e4, e5, nI_l (by omega), nI_l (by omega)]
      exact NN_p (m := 5) (by decide) (by omega) d1 (by omega)
    have L101 : ∀ t : Nat, t ≤ 109999800 → TO (fun y => PK v y ∧ NMI y) (f_X10_findNames_L101 (f_X10_findNames_L35 F) (nI c) (nI d) b3 (nI (c / 8)) (lN lo) (lN hi2) (lN su) (nI cn) (nI i) (nI (8 * (c / 8) + i)) (lN t) z) := by
      intro t ht
      unfold f_X10_findNames_L101 f_X10_findNames_L116 f_X10_findNames_L123 f_X10_findNames_L140 f_X10_findNames_L209
      refine to_c (fun _ => to_c (fun _ => tail t t hi2 ht ht l2) (fun _ => tail t t t ht ht ht)) (fun _ => to_c (fun _ => to_c (fun _ => tail t lo hi2 ht l1 l2) (fun _ => tail t lo t ht l1 ht)) (fun _ => to_c (fun _ => tail t t hi2 ht ht l2) (fun _ => tail t t t ht ht ht)))
    have L84 : ∀ dd : Nat, dd ≤ 99999 → TO (fun y => PK v y ∧ NMI y) (lt ((nI p - nI dd).toInt64) fun x34 => if 0 ≤ (lg_cmp x34 (1 : Int64)) then (f_X10_findNames_L101 (f_X10_findNames_L35 F) (nI c) (nI d) b3 (nI (c / 8)) (lN lo) (lN hi2) (lN su) (nI cn) (nI i) (nI (8 * (c / 8) + i)) x34 z) else (f_X10_findNames_L101 (f_X10_findNames_L35 F) (nI c) (nI d) b3 (nI (c / 8)) (lN lo) (lN hi2) (lN su) (nI cn) (nI i) (nI (8 * (c / 8) + i)) (1 : Int64) z)) := by
      intro dd hdd
      obtain ⟨q, eq, hq⟩ := px (p := p) (d := dd) p2 hdd
      rw [eq, lt_e]
      by_cases c1 : 1 ≤ q
      · rw [if_pos ((lL1 q (by omega) (by omega)).mpr c1)]
        obtain ⟨t, ht⟩ := Int.eq_ofNat_of_zero_le (show 0 ≤ q by omega)
        rw [ht, iL_n]; exact L101 t (by omega)
      · rw [if_neg (fun z => c1 ((lL1 q (by omega) (by omega)).mp z))]
        exact L101 1 (by omega)
    exact to_c (fun _ => L84 d hd) (fun _ => L84 0 (by omega))
/-- points found: a fraction as it should be -/
def FPT (v : SS) (p : Int32 × SS) : Prop := PK v p.2 ∧ QE (gJ p.2 0) (gJ p.2 1)
theorem fpT (h : RT k u v) {c d : Nat} (hc : c < 48) (hd : d ≤ 99999) (b3 : Int32) (hb3 : ¬ nI (c % 8) = b3) (hst : f_X10_doesStand (nI c) v = some (1, v)) : TO (FPT v) (f_X10_findPoints (nI c) (nI d) b3 v) := by
  unfold f_X10_findPoints
  obtain ⟨n, m, hn, hm, e4, e7, gd⟩ := h.2.2.2.2.2.2.2.2.2.1
  refine to_v (fnT h hc hd b3 hb3 hst) (fun w hw => ?_)
  obtain ⟨mw, nm⟩ := hw
  rw [mw.1 7 (by unfold kPI; omega), e7]
  obtain ⟨y, ey, y12, qe⟩ := gd w nm (fun j hj => by rw [mw.2 13 (by unfold kPA; omega)])
  obtain ⟨y2, ey2, my⟩ := wtM14 hm mw nm
  rw [ey] at ey2
  have e : y = y2 := Option.some.inj ey2
  subst e
  rw [ey, ov_s]
  refine to_i (by decide) ⟨0, by decide, by decide⟩ (to_l (to_i (by decide) ⟨0, by decide, by decide⟩ (to_l ?_)))
  have q : QE (gJ (sJ (sJ y 0 (gL y 2 0)) 1 (gL y 3 0)) 0) (gJ (sJ (sJ y 0 (gL y 2 0)) 1 (gL y 3 0)) 1) := by
    rw [sJn (by decide), sJe, sJe]; exact qe
  exact to_c (fun _ => to_s ⟨PK_J (PK_J my), q⟩) (fun _ => to_s ⟨PK_J (PK_J my), q⟩)
/-- who stands, stands also then -/
theorem st_PK (m : PK v w) {c : Nat} (hc : c < 48) (q : f_X10_doesStand (nI c) v = some (1, v)) : f_X10_doesStand (nI c) w = some (1, w) := by
  unfold f_X10_doesStand f_X10_isSilent at q ⊢
  rw [m.2 1 (by unfold kPA; omega), m.2 6 (by unfold kPA; omega), m.2 7 (by unfold kPA; omega), m.1 0 (by unfold kPI; omega)]
  rw [oi_nI (by decide) hc] at q ⊢
  by_cases a1 : gA v 1 (nI c).toNatClampNeg = 0
  · rw [if_pos a1] at q; exact absurd (Prod.mk.inj (Option.some.inj q)).1 n01
  rw [if_neg a1] at q ⊢
  rw [oi_nI (by decide) hc] at q ⊢
  by_cases a2 : gA v 6 (nI c).toNatClampNeg = 0
  rotate_left
  · rw [if_neg a2] at q; exact absurd (Prod.mk.inj (Option.some.inj q)).1 n01
  rw [if_pos a2] at q ⊢
  rw [oi_nI (by decide) hc] at q ⊢
  by_cases a3 : gA v 7 (nI c).toNatClampNeg < 0
  · rw [if_pos a3, ob_s, if_pos rfl]
  rw [if_neg a3] at q ⊢
  rw [oi_nI (by decide) hc] at q ⊢
  by_cases a4 : gI v 0 ≤ gA v 7 (nI c).toNatClampNeg
  · rw [if_pos a4, ob_s, if_pos rfl]
  · rw [if_neg a4, ob_s, if_neg nz_1] at q; exact absurd (Prod.mk.inj (Option.some.inj q)).1 n01
theorem iaM (h : RT k u v) {c d : Nat} (hc : c < 48) (hd : d < 48) (b3 : Int32) (hb : ¬ nI (c % 8) = b3) (hb2 : ¬ nI (d % 8) = b3) (sc : f_X10_doesStand (nI c) v = some (1, v)) (sd : f_X10_doesStand (nI d) v = some (1, v)) : TO (fun p : Int32 × SS => PK v p.2 ∧ bo p.1) (f_X10_isAhead (nI c) (nI d) b3 v) := by
  unfold f_X10_isAhead
  refine to_b (fpT h hc (d := 0) (by omega) b3 hb sc) (fun a w hw => ?_)
  have mw : PK v w := hw.1
  rw [lt_e, lt_e]
  refine to_b (fpT (RT_mk h (PK_mk mw)) hd (d := 0) (by omega) b3 hb2 (st_PK mw hd sd)) (fun a2 y hy => ?_)
  have my : PK v y := PK_t mw hy.1
  rw [lt_e, lt_e]
  refine to_c (fun _ => ?_) (fun _ => to_c (fun _ => to_s ⟨my, Or.inl rfl⟩) (fun _ => to_s ⟨my, Or.inr rfl⟩))
  have hy2 := RT_mk h (PK_mk my)
  refine to_v (fqT hy2 hc b3) (fun z hz => to_l (to_l ?_))
  have mz : PK v z := PK_t my (QK_pk hz.1)
  refine to_v (fqT (RT_mk h (PK_mk mz)) hd b3) (fun q hq => ?_)
  have mq : PK v q := PK_t mz (QK_pk hq.1)
  have hq2 := RT_mk h (PK_mk mq)
  refine to_c (fun _ => ?_) (fun _ => to_c (fun _ => to_s ⟨mq, Or.inl rfl⟩) (fun _ => to_s ⟨mq, Or.inr rfl⟩))
  obtain ⟨p, -, -, ep⟩ := pr_c hq2 hc
  obtain ⟨p2, -, -, ep2⟩ := pr_c hq2 hd
  rw [ep, ob_s, ep2, ob_s]
  refine to_c (fun _ => to_c (fun _ => to_s ⟨mq, Or.inl rfl⟩) (fun _ => to_s ⟨mq, Or.inr rfl⟩)) (fun _ => ?_)
  rw [ep, ob_s, ep2, ob_s]
  exact to_c (fun _ => to_s ⟨mq, Or.inl rfl⟩) (fun _ => to_s ⟨mq, Or.inr rfl⟩)
end ST24
