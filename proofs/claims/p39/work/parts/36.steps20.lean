section ST20
variable {k n : Nat} {u v w x : SS}
abbrev iL (z : Int) : Int64 := Int64.ofInt z
theorem iL_n (n : Nat) : iL (n : Int) = lN n := Int64.ofInt_eq_ofNat
theorem iL_m (a b : Int) : iL a * iL b = iL (a * b) := (Int64.ofInt_mul a b).symm
theorem iL_a (a b : Int) : iL a + iL b = iL (a + b) := (Int64.ofInt_add a b).symm
theorem iL_s (a b : Int) : iL a - iL b = iL (a - b) := (Int64.ofInt_sub a b).symm
theorem iL_g (a : Int) : -iL a = iL (-a) := (Int64.ofInt_neg a).symm
theorem iL_t {z : Int} (h1 : -(2 ^ 63) ≤ z) (h2 : z < 2 ^ 63) : (iL z).toInt = z := Int64.toInt_ofInt_of_le h1 h2
theorem iL_o (x : Int64) : iL x.toInt = x := Int64.ofInt_toInt x
/-- Euclid's steps: two of them halve the divisor -/
theorem dvN : ∀ (s a b F : Nat), a < 2 ^ 63 → b < 2 ^ 63 → b < 2 ^ s → 2 * s < F → ∀ u : SS, f_X10_divisor_L17 F (lN a) (lN b) u = some (lN (Nat.gcd b a), u) := by
  intro s
  have z0 : ∀ (a F : Nat) (u : SS), 0 < F → f_X10_divisor_L17 F (lN a) (lN 0) u = some (lN (Nat.gcd 0 a), u) := by
    intro a F u hF
    match F, hF with
    | F + 1, _ =>
      show b_X10_divisor_L17 (f_X10_divisor_L17 F) (lN a) (lN 0) u = _
      unfold b_X10_divisor_L17
      rw [if_pos ((lg_cmp_eq (lN 0) (0 : Int64)).mpr rfl), Nat.gcd_zero_left]
  have st : ∀ (a b F : Nat) (u : SS), a < 2 ^ 63 → 0 < b → b < 2 ^ 63 → f_X10_divisor_L17 (F + 1) (lN a) (lN b) u = f_X10_divisor_L17 F (lN b) (lN (a % b)) u := by
    intro a b F u ha hb hb2
    show b_X10_divisor_L17 (f_X10_divisor_L17 F) (lN a) (lN b) u = _
    unfold b_X10_divisor_L17
    have n0 : ¬ lN b = 0 := fun z => by
      have := (pk_lEQ (b := 0) hb2 (by decide)).mp z
      omega
    rw [if_neg (fun z => n0 ((lg_cmp_eq _ _).mp z)), if_neg n0, pk_lRem ha hb hb2, lt_e]
  induction s with
  | zero =>
    intro a b F ha hb hs hF u
    have e : b = 0 := by
      have : (2 : Nat) ^ 0 = 1 := rfl
      omega
    subst e
    exact z0 a F u (by omega)
  | succ s ih =>
    intro a b F ha hb hs hF u
    rcases Nat.eq_zero_or_pos b with e | hb0
    · subst e; exact z0 a F u (by omega)
    · have hr := Nat.mod_lt a hb0
      match F, hF with
      | F + 2, hF =>
        rw [st a b (F + 1) u ha hb0 hb]
        rcases Nat.eq_zero_or_pos (a % b) with e | hr0
        · rw [e, z0 b (F + 1) u (by omega), Nat.gcd_zero_left, Nat.gcd_rec, e, Nat.gcd_zero_left]
        · rw [st b (a % b) F u hb hr0 (by omega)]
          have q1 := Nat.mod_lt b hr0
          have h2 : b % (a % b) < 2 ^ s := by
            have q2 : b % (a % b) + (a % b) ≤ b := by
              have := Nat.mod_add_div b (a % b)
              have q3 : 1 ≤ b / (a % b) := (Nat.le_div_iff_mul_le hr0).mpr (by omega)
              have q4 : (a % b) * 1 ≤ (a % b) * (b / (a % b)) := Nat.mul_le_mul (Nat.le_refl _) q3
              omega
            have q5 : (2 : Nat) ^ (s + 1) = 2 * 2 ^ s := by rw [Nat.pow_succ]; omega
            omega
          rw [ih (a % b) (b % (a % b)) F (by omega) (by omega) h2 (by omega) u, Nat.gcd_rec b a, Nat.gcd_rec (a % b) b]
      | 0, hF => omega
      | 1, hF => omega
/-- the divisor of a number and of one above 0 -/
theorem dvT {z : Int} {m : Nat} (h1 : -(2 ^ 62) ≤ z) (h2 : z ≤ 2 ^ 62) (hm : 0 < m) (hm2 : m < 2 ^ 63) (u : SS) : ∃ g : Nat, 0 < g ∧ g ≤ m ∧ g < 2 ^ 63 ∧ f_X10_divisor (iL z) (lN m) u = some (lN g, u) := by
  have fu : 2 * 63 < FU := Nat.lt_trans (by decide) FU_ge
  have g0 : ∀ a : Nat, 0 < Nat.gcd m a ∧ Nat.gcd m a ≤ m := fun a => ⟨Nat.gcd_pos_of_pos_left _ hm, Nat.gcd_le_left _ hm⟩
  unfold f_X10_divisor f_X10_divisor_L12
  have z0 : (0 : Int64).toInt = 0 := by decide
  by_cases c : 0 ≤ lg_cmp (iL z) 0
  · have c2 : 0 ≤ z := by
      have q := Int64.le_iff_toInt_le.mp ((lg_cmp_ge _ _).mp c)
      rw [iL_t (by omega) (by omega), z0] at q; exact q
    obtain ⟨a, rfl⟩ := Int.eq_ofNat_of_zero_le c2
    rw [if_pos c, iL_n, dvN 63 a m FU (by omega) hm2 hm2 fu]
    exact ⟨_, (g0 a).1, (g0 a).2, Nat.lt_of_le_of_lt (g0 a).2 hm2, rfl⟩
  · have c2 : z < 0 := by
      by_cases q : z < 0
      · exact q
      · have q : 0 ≤ z := by omega
        exact absurd ((lg_cmp_ge _ _).mpr (Int64.le_iff_toInt_le.mpr (by rw [iL_t (by omega) (by omega), z0]; exact q))) c
    obtain ⟨a, ha⟩ := Int.eq_ofNat_of_zero_le (show 0 ≤ -z by omega)
    rw [if_neg c, iL_g, ha, iL_n, dvN 63 a m FU (by omega) hm2 hm2 fu]
    exact ⟨_, (g0 a).1, (g0 a).2, Nat.lt_of_le_of_lt (g0 a).2 hm2, rfl⟩
/-! quality -/
theorem asT (h : RT k u v) {s l : Nat} (hs : s < 6) (hl : l < 6) (b3 : Int32) : TO (fun p : Int32 × SS => p.2 = v ∧ bo p.1) (f_X10_isAside (nI s) (nI l) b3 v) := by
  refine loopR (fun F (x : Int32 × Int32 × SS) => f_X10_isAside_L6 F (nI s) (nI l) b3 x.1 x.2.1 x.2.2) (fun i x => bo x.1 ∧ x.2 = (nI i, v)) _ 8 ?_ (F := FU) (x := ((0 : Int32), (0 : Int32), v)) (Nat.lt_trans (by decide) FU_ge) ⟨Or.inl rfl, rfl⟩
  intro F x i hi hI hc2
  obtain ⟨b4, b5, w⟩ := x
  obtain ⟨hb, hI⟩ := hI
  have hb : bo b4 := hb
  obtain ⟨rfl, rfl⟩ := Prod.mk.inj hI
  show TO _ (b_X10_isAside_L6 (f_X10_isAside_L6 F) (nI s) (nI l) b3 b4 (nI i) w)
  unfold b_X10_isAside_L6 f_X10_isAside_L57 f_X10_isAside_L53 f_X10_isAside_L58
  refine to_c (fun _ => to_n (fun z => z hb) (to_s ⟨rfl, hb⟩)) (fun c1 => ?_)
  have hi2 : i < 8 := ltn (n := 8) (by omega) c1
  have st : ∀ q : Int32, bo q → TO (fun p : Int32 × SS => p.2 = w ∧ bo p.1) (lt (nI i + (1 : Int32)) fun x1 => f_X10_isAside_L6 F (nI s) (nI l) b3 q x1 w) := by
    intro q hq
    rw [lt_e, nI_1]; exact hc2 (q, nI (i + 1), w) hi2 ⟨hq, rfl⟩
  refine to_c (fun _ => ?_) (fun _ => st _ (Or.inr rfl))
  rw [show (8 : Int32) * nI s + nI i = nI (8 * s + i) from cellM i s]
  refine to_i (by decide) ⟨8 * s + i, by omega, rfl⟩ (to_c (fun _ => st _ (Or.inl rfl)) (fun _ => ?_))
  rw [cellM]
  refine to_b (stM_T h (show 8 * l + i < 48 by omega)) (fun a y hy => ?_)
  have e : y = w := hy.1
  subst e
  exact to_c (fun _ => st _ (Or.inl rfl)) (fun _ => to_c (fun _ => st _ (Or.inl rfl)) (fun _ => st _ (Or.inr rfl)))
/-- what quality writes: the sum of notes and how many -/
def QK (v w : SS) : Prop := (∀ i : Nat, i ≠ 4 → i ≠ 5 → gI w i = gI v i) ∧ (∀ a : Nat, gA w a = gA v a) ∧ (∀ a : Nat, gL w a = gL v a) ∧ (∀ a : Nat, gJ w a = gJ v a)
theorem QK_mk (h : QK v w) : MK v w := ⟨⟨fun i hi => h.1 i (by unfold kMI at hi; omega) (by unfold kMI at hi; omega), fun a _ => h.2.1 a⟩, h.2.1 18, h.2.1 24, h.1 16 (by decide) (by decide)⟩
theorem QK_I {i : Nat} {y : Int32} (hi : i = 4 ∨ i = 5) (h : QK u w) : QK u (sI w i y) := ⟨fun j a b => by rw [sIn (by omega)]; exact h.1 j a b, h.2.1, h.2.2.1, h.2.2.2⟩
/-- sum and number of notes, at most 100 each, 6 of them; the least and the greatest taken off -/
def QS (m : Nat) (b3 b4 : Int32) (w : SS) : Prop := ∃ s c lo hi : Nat, c ≤ m ∧ s ≤ 100 * c ∧ gI w 4 = nI s ∧ gI w 5 = nI c ∧ ((c = 0 ∧ b4 = -1 ∧ b3 = 101) ∨ (1 ≤ c ∧ b3 = nI lo ∧ b4 = nI hi ∧ lo ≤ hi ∧ hi ≤ 100 ∧ (c = 1 → lo = s ∧ hi = s) ∧ (2 ≤ c → lo + hi ≤ s)))
def QR (w : SS) : Prop := ∃ s c : Nat, 1 ≤ c ∧ c ≤ 6 ∧ s ≤ 600 ∧ gI w 4 = nI s ∧ gI w 5 = nI c
theorem fq146 {s c : Nat} (hs : s ≤ 600) (hc : c ≤ 6) (e4 : gI w 4 = nI s) (e5 : gI w 5 = nI c) (q : QK v w) : TO (fun y => QK v y ∧ QR y) (f_X10_findQuality_L146 w) := by
  unfold f_X10_findQuality_L146
  rw [e5]
  refine to_c (fun z => to_l (to_s ⟨QK_I (by omega) q, s, 1, by omega, by omega, hs, ?_, ?_⟩)) (fun z => to_l (to_s ⟨QK_I (by omega) q, s, c, ?_, hc, hs, ?_, ?_⟩))
  · rw [sIn (by decide)]; exact e4
  · rw [sIe]; rfl
  · rcases Nat.eq_zero_or_pos c with y | y
    · subst y; exact absurd rfl z
    · omega
  · rw [sIn (by decide)]; exact e4
  · rw [sIe]
theorem lt101 {lo : Nat} (h : lo ≤ 100) : ¬ (101 : Int32) ≤ nI lo := nI_ge (b := 101) (by omega) (by decide)
theorem fqT (h : RT k u v) {c : Nat} (hc : c < 48) (b2 : Int32) : TO (fun y => QK v y ∧ QR y) (f_X10_findQuality (nI c) b2 v) := by
  unfold f_X10_findQuality
  refine to_l (to_l ?_)
  refine loopR (fun F (x : Int32 × Int32 × Int32 × SS) => f_X10_findQuality_L19 F (nI c) b2 x.1 x.2.1 x.2.2.1 x.2.2.2) (fun i x => x.2.2.1 = nI i ∧ QK v x.2.2.2 ∧ QS i x.1 x.2.1 x.2.2.2) _ 6 ?_ (F := FU) (x := ((101 : Int32), (-1 : Int32), (0 : Int32), sI (sI v 4 0) 5 0)) (Nat.lt_trans (by decide) FU_ge) ⟨rfl, QK_I (by omega) (QK_I (by omega) ⟨fun _ _ _ => rfl, fun _ => rfl, fun _ => rfl, fun _ => rfl⟩), 0, 0, 0, 0, by omega, by omega, rfl, rfl, Or.inl ⟨rfl, rfl, rfl⟩⟩
  intro F x i hi hI hc2
  obtain ⟨b3, b4, b5, y⟩ := x
  obtain ⟨e, q, hq⟩ := hI
  have e : b5 = nI i := e
  have q : QK v y := q
  have hq : QS i b3 b4 y := hq
  subst e
  show TO _ (b_X10_findQuality_L19 (f_X10_findQuality_L19 F) (nI c) b2 b3 b4 (nI i) y)
  unfold b_X10_findQuality_L19 f_X10_findQuality_L92 f_X10_findQuality_L107 f_X10_findQuality_L109
  refine to_c (fun _ => ?_) (fun c1 => ?_)
  · obtain ⟨s, n, lo, hi2, hn, hs, e4, e5, hl⟩ := hq
    rw [e5]
    refine to_c (fun _ => fq146 (by omega) (by omega) e4 e5 q) (fun c4 => ?_)
    have hn4 : 4 ≤ n := by
      rcases Nat.lt_or_ge n 4 with z | z
      · exact absurd (nI_lt (b := 4) z (by decide)) c4
      · exact z
    rcases hl with ⟨z, -⟩ | ⟨l0, l1, l2, l3, l4, l5, l6⟩
    · omega
    subst l1
    subst l2
    have l7 := l6 (by omega)
    rw [lt_e, lt_e, e4, nI_add, pk_sub (show lo + hi2 ≤ s by omega), sIn (by decide), e5, show nI n - (2 : Int32) = nI (n - 2) from pk_sub (a := n) (b := 2) (by omega)]
    refine fq146 (s := s - (lo + hi2)) (c := n - 2) (by omega) (by omega) ?_ ?_ (QK_I (by omega) (QK_I (by omega) q))
    · rw [sIn (by decide), sIe]
    · rw [sIe]
  have hi2 : i < 6 := ltn (n := 6) (by omega) c1
  have st : ∀ (p r : Int32) (z : SS), QK v z → QS (i + 1) p r z → TO (fun y => QK v y ∧ QR y) (lt (nI i + (1 : Int32)) fun x8 => f_X10_findQuality_L19 F (nI c) b2 p r x8 z) := by
    intro p r z qz sz
    rw [lt_e, nI_1]; exact hc2 (p, r, nI (i + 1), z) hi2 ⟨rfl, qz, sz⟩
  have up : QS (i + 1) b3 b4 y := by
    obtain ⟨s, n, lo, hi2, hn, q⟩ := hq
    exact ⟨s, n, lo, hi2, by omega, q⟩
  rw [show (48 : Int32) * nI i + nI c = nI (48 * i + c) by rw [show (48 : Int32) = nI 48 by decide, pk_mul, nI_add]]
  refine to_i (by decide) ⟨48 * i + c, by omega, rfl⟩ (to_l ?_)
  rw [nI_clamp (by omega), q.2.1 9]
  have hno := h.2.2.2.2.2.2.1 i (c % 8) (c / 8) hi2 (by omega) (by omega)
  rw [show 8 * (c / 8) + c % 8 = c by omega] at hno
  rcases hno with ⟨-, e9⟩ | ⟨t, ht, -, e9⟩
  · rw [e9, if_pos lt_m1]; exact st _ _ _ q up
  · rw [e9, if_neg (nI_pos (by omega)), show nI c / (8 : Int32) = nI (c / 8) from pk_div (d := 8) (by omega) (by decide) (by decide)]
    refine to_b (asT (RT_mk h (QK_mk q)) hi2 (by omega) b2) (fun a z hz => ?_)
    have ez : z = y := hz.1
    subst ez
    refine to_c (fun _ => ?_) (fun _ => st _ _ _ q up)
    obtain ⟨s, n, lo, hi3, hn, hs, e4, e5, hl⟩ := hq
    rw [lt_e, e4, nI_add, lt_e, sIn (by decide), e5, nI_1 n]
    have qz : QK v (sI (sI z 4 (nI (s + t))) 5 (nI (n + 1))) := QK_I (by omega) (QK_I (by omega) q)
    have s4 : gI (sI (sI z 4 (nI (s + t))) 5 (nI (n + 1))) 4 = nI (s + t) := by rw [sIn (by decide), sIe]
    have s5 : gI (sI (sI z 4 (nI (s + t))) 5 (nI (n + 1))) 5 = nI (n + 1) := sIe
    rcases hl with ⟨z0, z1, z2⟩ | ⟨l0, l1, l2, l3, l4, l5, l6⟩
    · subst z0
      subst z1
      subst z2
      rw [if_neg (lt101 ht), if_neg (show ¬ nI t ≤ (-1 : Int32) from fun y => absurd (Int32.le_trans (nI_pos' (by omega)) y) nl_m1)]
      exact st _ _ _ qz ⟨s + t, 0 + 1, t, t, by omega, by omega, s4, s5, Or.inr ⟨by omega, rfl, rfl, by omega, by omega, fun _ => by omega, fun y => by omega⟩⟩
    · subst l1
      subst l2
      have fin : ∀ lo2 hi4 : Nat, (lo2 = lo ∨ lo2 = t) → (hi4 = hi3 ∨ hi4 = t) → lo2 ≤ lo → lo2 ≤ t → hi3 ≤ hi4 → t ≤ hi4 → QS (i + 1) (nI lo2) (nI hi4) (sI (sI z 4 (nI (s + t))) 5 (nI (n + 1))) := by
        intro lo2 hi4 a1 a2 a3 a4 a5 a6
        have l8 : n = 1 ∨ 2 ≤ n := by omega
        refine ⟨s + t, n + 1, lo2, hi4, by omega, by omega, s4, s5, Or.inr ⟨by omega, rfl, rfl, by omega, by omega, fun y => by omega, fun y => ?_⟩⟩
        rcases l8 with y1 | y1
        · have := l5 y1; omega
        · have := l6 y1; omega
      by_cases d1 : lo ≤ t
      · rw [if_pos (nI_le d1 (by omega))]
        by_cases d2 : t ≤ hi3
        · rw [if_pos (nI_le d2 (by omega))]; exact st _ _ _ qz (fin lo hi3 (Or.inl rfl) (Or.inl rfl) (by omega) (by omega) (by omega) (by omega))
        · rw [if_neg (nI_ge (by omega) (by omega))]; exact st _ _ _ qz (fin lo t (Or.inl rfl) (Or.inr rfl) (by omega) (by omega) (by omega) (by omega))
      · rw [if_neg (nI_ge (by omega) (by omega))]
        by_cases d2 : t ≤ hi3
        · rw [if_pos (nI_le d2 (by omega))]; exact st _ _ _ qz (fin t hi3 (Or.inr rfl) (Or.inl rfl) (by omega) (by omega) (by omega) (by omega))
        · rw [if_neg (nI_ge (by omega) (by omega))]; exact st _ _ _ qz (fin t t (Or.inr rfl) (Or.inr rfl) (by omega) (by omega) (by omega) (by omega))
end ST20
