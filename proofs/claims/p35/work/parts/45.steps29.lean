section ST29
variable {k n : Nat} {u v v2 w x y : SS}
/-! likeness and chance: equal answers -/
def ad (x y : Nat) : Nat := if x ≤ y then y - x else x - y
theorem ad_B {x y : Nat} (hx : x < 2 ^ 62) (hy : y < 2 ^ 62) : (if 0 < lN x - lN y then lN x - lN y else -(lN x - lN y)) = lN (ad x y) := by
  have e : lN x - lN y = iL ((x : Int) - y) := by rw [← iL_n, ← iL_n, iL_s]
  have t0 : (0 : Int64).toInt = 0 := by decide
  have c : 0 < lN x - lN y ↔ y < x := by
    rw [e, Int64.lt_iff_toInt_lt, t0, iL_t (by omega) (by omega)]; omega
  unfold ad
  by_cases h : y < x
  · rw [if_pos (c.mpr h), if_neg (by omega), lN_sub (by omega)]
  · rw [if_neg (fun z => h (c.mp z)), if_pos (by omega), e, iL_g, show -((x : Int) - y) = ((y - x : Nat) : Int) by omega, iL_n]
theorem ad_M {x y : Nat} (hx : x < 2 ^ 62) (hy : y < 2 ^ 62) (v : SS) : f_X10_apart (lN x) (lN y) v = some (lN (ad x y), v) := by
  unfold f_X10_apart ad
  by_cases h : x ≤ y
  · rw [if_pos ((lg_cmp_le _ _).mpr ((pk_lLE (by omega) (by omega)).mpr h)), if_pos h, lN_sub h]
  · rw [if_neg (fun z => h ((pk_lLE (by omega) (by omega)).mp ((lg_cmp_le _ _).mp z))), if_neg h, lN_sub (by omega)]
/-- an item of a bid -/
def im (u : SS) (c t : Nat) : Nat := nn (gA u 6 (c * 4 + t))
theorem im_le {c t : Nat} (h : BD u c) (ht : t < 4) : gA u 6 (c * 4 + t) = nI (im u c t) ∧ im u c t ≤ 99999 := eN_nn (by decide) (h.1 t ht)
/-- how unlike two bids are, the second's items in the order p q r s -/
def lkN (u : SS) (c d p q r s : Nat) : Nat := ad (im u c 0 * isN u d) (im u d p * isN u c) + ad (im u c 1 * isN u d) (im u d q * isN u c) + ad (im u c 2 * isN u d) (im u d r * isN u c) + ad (im u c 3 * isN u d) (im u d s * isN u c)
theorem ad_le {x y m : Nat} (hx : x ≤ m) (hy : y ≤ m) : ad x y ≤ m := by
  unfold ad; split <;> omega
theorem pm_le {a b : Nat} (ha : a ≤ 99999) (hb : b ≤ 399996) : a * b ≤ 39999200004 := Nat.le_trans (Nat.mul_le_mul ha hb) (by decide)
theorem loE (h : RT k u v) {c d p q r : Nat} (hc : c < 48) (hd : d < 48) (hp : p < 4) (hq : q < 4) (hr : r < 4) (s1 : 3 ≤ p + q + r) (s2 : p + q + r ≤ 6) : f_X6_likenessInOrder (nI c) (nI d) (nI p) (nI q) (nI r) u = some (lN (lkN u c d p q r (6 - p - q - r)), u) := by
  have Bc := BD_c h hc
  have Bd := BD_c h hd
  have i1 := isN_le Bc
  have i2 := isN_le Bd
  unfold f_X6_likenessInOrder
  have e : (6 : Int32) - nI p - nI q - nI r = nI (6 - p - q - r) := by
    rw [show (6 : Int32) = nI 6 by decide, pk_sub (by omega), pk_sub (by omega), pk_sub (by omega)]
  rw [isB hc Bc, ob_s, lt_e, isB hd Bd, ob_s, lt_e, nI_x4, nI_x4, lt_e, lt_e, lt_e, e]
  rw [nI_p1, nI_p2, nI_p3, nI_add, nI_add, nI_add, nI_add]
  rw [oi_nI (by decide) (show c * 4 < 192 by omega), oi_nI (by decide) (show d * 4 + p < 192 by omega), oi_nI (by decide) (show c * 4 + 1 < 192 by omega), oi_nI (by decide) (show d * 4 + q < 192 by omega), oi_nI (by decide) (show c * 4 + 2 < 192 by omega), oi_nI (by decide) (show d * 4 + r < 192 by omega), oi_nI (by decide) (show c * 4 + 3 < 192 by omega), oi_nI (by decide) (show d * 4 + (6 - p - q - r) < 192 by omega)]
  rw [nI_clamp (show c * 4 < 2 ^ 31 by omega), nI_clamp (show d * 4 + p < 2 ^ 31 by omega), nI_clamp (show c * 4 + 1 < 2 ^ 31 by omega), nI_clamp (show d * 4 + q < 2 ^ 31 by omega), nI_clamp (show c * 4 + 2 < 2 ^ 31 by omega), nI_clamp (show d * 4 + r < 2 ^ 31 by omega), nI_clamp (show c * 4 + 3 < 2 ^ 31 by omega), nI_clamp (show d * 4 + (6 - p - q - r) < 2 ^ 31 by omega)]
  have a0 : gA u 6 (c * 4) = nI (im u c 0) ∧ im u c 0 ≤ 99999 := im_le Bc (show 0 < 4 by decide)
  have a1 := im_le Bc (show 1 < 4 by decide)
  have a2 := im_le Bc (show 2 < 4 by decide)
  have a3 := im_le Bc (show 3 < 4 by decide)
  have b0 := im_le Bd hp
  have b1 := im_le Bd hq
  have b2 := im_le Bd hr
  have b3 := im_le Bd (show 6 - p - q - r < 4 by omega)
  rw [a0.1, a1.1, a2.1, a3.1, b0.1, b1.1, b2.1, b3.1, nI_l (show isN u c < 2 ^ 31 by omega), nI_l (show isN u d < 2 ^ 31 by omega), nI_l (show im u c 0 < 2 ^ 31 by omega), nI_l (show im u c 1 < 2 ^ 31 by omega), nI_l (show im u c 2 < 2 ^ 31 by omega), nI_l (show im u c 3 < 2 ^ 31 by omega), nI_l (show im u d p < 2 ^ 31 by omega), nI_l (show im u d q < 2 ^ 31 by omega), nI_l (show im u d r < 2 ^ 31 by omega), nI_l (show im u d (6 - p - q - r) < 2 ^ 31 by omega)]
  have m0 := pm_le a0.2 i2
  have m1 := pm_le a1.2 i2
  have m2 := pm_le a2.2 i2
  have m3 := pm_le a3.2 i2
  have n0 := pm_le b0.2 i1
  have n1 := pm_le b1.2 i1
  have n2 := pm_le b2.2 i1
  have n3 := pm_le b3.2 i1
  rw [lN_mul, lN_mul, lN_mul, lN_mul, lN_mul, lN_mul, lN_mul, lN_mul, ad_B (by omega) (by omega), ad_B (by omega) (by omega), ad_B (by omega) (by omega), ad_B (by omega) (by omega), lN_add, lN_add, lN_add]
  rfl
theorem lk_lt (h : RT k u v) {c d p q r s : Nat} (hc : c < 48) (hd : d < 48) (hp : p < 4) (hq : q < 4) (hr : r < 4) (hs : s < 4) : lkN u c d p q r s ≤ 159996800016 := by
  have Bc := BD_c h hc
  have Bd := BD_c h hd
  have i1 := isN_le Bc
  have i2 := isN_le Bd
  have m0 := ad_le (pm_le (im_le Bc (show 0 < 4 by decide)).2 i2) (pm_le (im_le Bd hp).2 i1)
  have m1 := ad_le (pm_le (im_le Bc (show 1 < 4 by decide)).2 i2) (pm_le (im_le Bd hq).2 i1)
  have m2 := ad_le (pm_le (im_le Bc (show 2 < 4 by decide)).2 i2) (pm_le (im_le Bd hr).2 i1)
  have m3 := ad_le (pm_le (im_le Bc (show 3 < 4 by decide)).2 i2) (pm_le (im_le Bd hs).2 i1)
  unfold lkN; omega
/-- the reference's places after some turns of n -/
def psw (f : Nat → Nat) (i x : Nat) : Nat → Nat := fun j => if j = x then f i else if j = i then f x else f j
def pmt (n : Nat) : Nat → Nat → Nat × (Nat → Nat)
  | 0, m => (m, fun j => j)
  | i + 1, m => let a := pmt n i m; (a.1 / (4 - i), psw a.2 i (i + a.1 % (4 - i)))
/-- the places of the n-th order -/
def pl4 (n : Nat) : Nat → Nat := (pmt n 4 n).2
theorem pl4_lt : ∀ n, n < 24 → pl4 n 0 < 4 ∧ pl4 n 1 < 4 ∧ pl4 n 2 < 4 ∧ pl4 n 3 < 4 := by decide
/-- the reference's places are those -/
def PE (f : Nat → Nat) (w : SS) : Prop := ∀ j : Nat, j < 4 → gA w 30 j = nI (f j)
theorem lb101E (h : RT k u v) {i j b : Nat} (hi : i < 8) (hj : j < 6) (hb : b < 8) {f : Nat → Nat} (hf : ∀ t, t < 4 → f t < 4) (pe : PE f v) : f_X10_likenessBy_L101 FU (nI (8 * j + i)) (nI (8 * j + b)) (0 : Int64) (0 : Int32) v = some (lN (lkN u (i * 6 + j) (b * 6 + j) (f 0) (f 1) (f 2) (f 3)), v) := by
  have Bc := BD_of h hi hj
  have Bd := BD_of h hb hj
  have i1 := isN_le Bc
  have i2 := isN_le Bd
  obtain ⟨-, -, -, -, ec⟩ := h.2.2.2.1 i j hi hj
  obtain ⟨-, -, -, -, ed⟩ := h.2.2.2.1 b j hb hj
  have st : ∀ (F t : Nat) (s : Int64), t < 4 → f_X10_likenessBy_L101 (F + 1) (nI (8 * j + i)) (nI (8 * j + b)) s (nI t) v = f_X10_likenessBy_L101 F (nI (8 * j + i)) (nI (8 * j + b)) (s + lN (ad (im u (i * 6 + j) t * isN u (b * 6 + j)) (im u (b * 6 + j) (f t) * isN u (i * 6 + j)))) (nI (t + 1)) v := by
    intro F t s ht
    show b_X10_likenessBy_L101 (f_X10_likenessBy_L101 F) (nI (8 * j + i)) (nI (8 * j + b)) s (nI t) v = _
    unfold b_X10_likenessBy_L101
    have q1 := im_le Bc ht
    have q2 := im_le Bd (hf t ht)
    have f4 := hf t ht
    rw [if_neg (show ¬ (4 : Int32) ≤ nI t from nI_ge (b := 4) ht (by decide)), nI_4x, nI_4x, nI_add, oi_nI (by decide) (show 4 * (8 * j + i) + t < 192 by omega), isM h hb hj, ob_s, oi_nI (by decide) ht, nI_clamp (show t < 2 ^ 31 by omega), pe t ht, nI_add, oi_nI (by decide) (show 4 * (8 * j + b) + f t < 192 by omega), isM h hi hj, ob_s, nI_clamp (by omega), nI_clamp (by omega), (ec t ht).1, (ed (f t) f4).1, q1.1, q2.1, nI_l (by omega), nI_l (by omega), nI_l (by omega), nI_l (by omega), lN_mul, lN_mul]
    have m1 := pm_le q1.2 i2
    have m2 := pm_le q2.2 i1
    rw [ad_M (by omega) (by omega), ob_s, lt_e, lt_e, nI_1]
  obtain ⟨F, hF⟩ : ∃ F, FU = F + 5 := ⟨FU - 5, by have := FU_ge; omega⟩
  rw [hF, show (0 : Int32) = nI 0 from rfl, st _ 0 _ (by decide), st _ 1 _ (by decide), st _ 2 _ (by decide), st _ 3 _ (by decide)]
  show b_X10_likenessBy_L101 (f_X10_likenessBy_L101 F) (nI (8 * j + i)) (nI (8 * j + b)) _ (nI 4) v = _
  unfold b_X10_likenessBy_L101
  rw [if_pos (show (4 : Int32) ≤ nI 4 by decide), show (0 : Int64) = lN 0 from rfl, lN_add, lN_add, lN_add, lN_add, Nat.zero_add]
  rfl
theorem RT_lk2 (h : RT k u v) (m : LK v w) : RT k u w := RT_lk h m
theorem lb30E (h : RT k u v) {i j b n : Nat} (hi : i < 8) (hj : j < 6) (hb : b < 8) (hn : n < 24) (m : LK v w) (pe : PE (fun t => t) w) : ∃ y, f_X10_likenessBy_L30 FU (nI (8 * j + i)) (nI (8 * j + b)) (nI n) (0 : Int32) w = some (lN (lkN u (i * 6 + j) (b * 6 + j) (pl4 n 0) (pl4 n 1) (pl4 n 2) (pl4 n 3)), y) ∧ LK v y := by
  have mo : ∀ t : Nat, t ≤ 4 → (pmt n t n).1 < 2 ^ 31 ∧ ∀ s : Nat, s < 4 → (pmt n t n).2 s < 4 := by
    intro t
    induction t with
    | zero => intro _; exact ⟨by show n < 2 ^ 31; omega, fun s hs => hs⟩
    | succ t ih =>
      intro ht
      obtain ⟨a1, a2⟩ := ih (by omega)
      refine ⟨Nat.lt_of_le_of_lt (Nat.div_le_self _ _) a1, fun s hs => ?_⟩
      show psw (pmt n t n).2 t (t + (pmt n t n).1 % (4 - t)) s < 4
      have md : (pmt n t n).1 % (4 - t) < 4 - t := Nat.mod_lt _ (by omega)
      unfold psw
      split
      · exact a2 t (by omega)
      · split
        · exact a2 _ (by omega)
        · exact a2 s hs
  have key : TO (fun p : Int64 × SS => p.1 = lN (lkN u (i * 6 + j) (b * 6 + j) (pl4 n 0) (pl4 n 1) (pl4 n 2) (pl4 n 3)) ∧ LK v p.2) (f_X10_likenessBy_L30 FU (nI (8 * j + i)) (nI (8 * j + b)) (nI n) (0 : Int32) w) := by
    refine loopR (fun F (x : Int32 × Int32 × SS) => f_X10_likenessBy_L30 F (nI (8 * j + i)) (nI (8 * j + b)) x.1 x.2.1 x.2.2) (fun t x => x.1 = nI (pmt n t n).1 ∧ x.2.1 = nI t ∧ LK v x.2.2 ∧ PE (pmt n t n).2 x.2.2) _ 4 ?_ (F := FU) (x := (nI n, (0 : Int32), w)) (Nat.lt_trans (by decide) FU_ge) ⟨rfl, rfl, m, pe⟩
    intro F x t ht hI hc2
    obtain ⟨b4, b5, y⟩ := x
    obtain ⟨e4, e5, m, pl⟩ := hI
    have e4 : b4 = nI (pmt n t n).1 := e4
    have e5 : b5 = nI t := e5
    subst e4
    subst e5
    have m : LK v y := m
    have pl : PE (pmt n t n).2 y := pl
    obtain ⟨a1, a2⟩ := mo t ht
    show TO _ (b_X10_likenessBy_L30 (f_X10_likenessBy_L30 F) (nI (8 * j + i)) (nI (8 * j + b)) (nI (pmt n t n).1) (nI t) y)
    unfold b_X10_likenessBy_L30
    by_cases c1 : t = 4
    · subst c1
      rw [if_pos (show (4 : Int32) ≤ nI 4 by decide), lb101E (RT_lk h m) hi hj hb a2 pl]
      exact to_s ⟨rfl, m⟩
    have hi2 : t < 4 := by omega
    have e1 : (4 : Int32) - nI t = nI (4 - t) := pk_sub (a := 4) (by omega)
    have md : (pmt n t n).1 % (4 - t) < 4 - t := Nat.mod_lt _ (by omega)
    rw [if_neg (show ¬ (4 : Int32) ≤ nI t from nI_ge (b := 4) hi2 (by decide)), e1, if_neg (nI_ne0 (by omega) (by omega)), pk_rem a1 (by omega) (by omega), nI_add, lt_e, if_neg (nI_ne0 (by omega) (by omega)), pk_div a1 (by omega) (by omega), lt_e, oi_nI (by decide) hi2, lt_e, oi_nI (by decide) (show t + (pmt n t n).1 % (4 - t) < 4 by omega), oi_nI (by decide) hi2, lt_e, oi_nI (by decide) (show t + (pmt n t n).1 % (4 - t) < 4 by omega), lt_e, lt_e, nI_1, nI_clamp (by omega), nI_clamp (by omega)]
    refine hc2 (nI ((pmt n t n).1 / (4 - t)), nI (t + 1), _) hi2 ⟨rfl, rfl, LK_A (LK_A m), fun s hs => ?_⟩
    show gA (tA (tA y 30 (nI t) (gA y 30 (t + (pmt n t n).1 % (4 - t)))) 30 (nI (t + (pmt n t n).1 % (4 - t))) (gA y 30 t)) 30 s = nI (psw (pmt n t n).2 t (t + (pmt n t n).1 % (4 - t)) s)
    rw [tAe, tAe, nI_clamp (by omega), nI_clamp (by omega)]
    unfold psw
    by_cases z1 : s = t + (pmt n t n).1 % (4 - t)
    · rw [if_pos z1, z1, upd_s]; exact pl t hi2
    · rw [if_neg z1, upd_n _ _ z1]
      by_cases z2 : s = t
      · rw [if_pos z2, z2, upd_s]; exact pl _ (by omega)
      · rw [if_neg z2, upd_n _ _ z2]; exact pl s hs
  obtain ⟨⟨r, y⟩, e, e2, e3⟩ := key
  have e2 : r = lN (lkN u (i * 6 + j) (b * 6 + j) (pl4 n 0) (pl4 n 1) (pl4 n 2) (pl4 n 3)) := e2
  subst e2
  exact ⟨y, e, e3⟩
theorem lbE (h : RT k u v) {i j b n : Nat} (hi : i < 8) (hj : j < 6) (hb : b < 8) (hn : n < 24) : ∃ y, f_X10_likenessBy (nI (8 * j + i)) (nI (8 * j + b)) (nI n) v = some (lN (lkN u (i * 6 + j) (b * 6 + j) (pl4 n 0) (pl4 n 1) (pl4 n 2) (pl4 n 3)), y) ∧ LK v y := by
  have key : TO (fun p : Int64 × SS => p.1 = lN (lkN u (i * 6 + j) (b * 6 + j) (pl4 n 0) (pl4 n 1) (pl4 n 2) (pl4 n 3)) ∧ LK v p.2) (f_X10_likenessBy_L6 FU (nI (8 * j + i)) (nI (8 * j + b)) (nI n) (0 : Int32) v) := by
    refine loopR (fun F (x : Int32 × SS) => f_X10_likenessBy_L6 F (nI (8 * j + i)) (nI (8 * j + b)) (nI n) x.1 x.2) (fun t x => x.1 = nI t ∧ LK v x.2 ∧ ∀ s : Nat, s < t → gA x.2 30 s = nI s) _ 4 ?_ (F := FU) (x := ((0 : Int32), v)) (Nat.lt_trans (by decide) FU_ge) ⟨rfl, LK_r v, fun s hs => absurd hs (by omega)⟩
    intro F x t ht hI hc2
    obtain ⟨b5, y⟩ := x
    obtain ⟨e5, m, pl⟩ := hI
    have e5 : b5 = nI t := e5
    subst e5
    have m : LK v y := m
    have pl : ∀ s : Nat, s < t → gA y 30 s = nI s := pl
    show TO _ (b_X10_likenessBy_L6 (f_X10_likenessBy_L6 F) (nI (8 * j + i)) (nI (8 * j + b)) (nI n) (nI t) y)
    unfold b_X10_likenessBy_L6
    by_cases c1 : t = 4
    · subst c1
      rw [if_pos (show (4 : Int32) ≤ nI 4 by decide)]
      obtain ⟨z, ez, hz⟩ := lb30E h hi hj hb hn m pl
      rw [ez]; exact to_s ⟨rfl, hz⟩
    · rw [if_neg (show ¬ (4 : Int32) ≤ nI t from nI_ge (b := 4) (by omega) (by decide)), oi_nI (by decide) (show t < 4 by omega), lt_e, lt_e, nI_1]
      refine hc2 (nI (t + 1), _) (by omega) ⟨rfl, LK_A m, fun s hs => ?_⟩
      show gA (tA y 30 (nI t) (nI t)) 30 s = nI s
      rw [tAe, nI_clamp (by omega)]
      by_cases z : s = t
      · rw [z, upd_s]
      · rw [upd_n _ _ z]; exact pl s (by omega)
  obtain ⟨⟨r, y⟩, e, e2, e3⟩ := key
  have e2 : r = lN (lkN u (i * 6 + j) (b * 6 + j) (pl4 n 0) (pl4 n 1) (pl4 n 2) (pl4 n 3)) := e2
  subst e2
  exact ⟨y, e, e3⟩
/-- likeness: the same answer -/
theorem st_likenessE (h : RT k u v) (l a b : Int32) : QQ (RT (k + 1)) (f_X9_likeness l a b u) (f_X10_likeness l a b v) := by
  obtain ⟨⟨t, L, ht, hL1, hL6, e0, e0m, e2, e2m, e1, e1c⟩, -⟩ := id h
  unfold f_X9_likeness f_X9_likeness_L48 f_X10_likeness
  rcases npB h e2 hL6 l a b with ⟨e, nb⟩ | ⟨e, q1, q2, q3, q4⟩
  · rcases wtM h e2m hL1 hL6 l a b with ⟨f, -⟩ | ⟨i, j, m, hi, hm, hj, rfl, rfl, rfl, ne, -⟩
    · rw [e, f, ob_s, ob_s, if_neg nz_1, if_neg nl_m1, rlB rwd1, rlM rwd1]; exact qq_rl tA1 h _ _
    · exact absurd ⟨⟨j, hj, rfl⟩, ⟨i, hi, rfl⟩, ⟨m, hm, rfl⟩, ne⟩ nb
  · rcases wtM h e2m hL1 hL6 l a b with ⟨-, nf⟩ | ⟨i, j, m, hi, hm, hj, rfl, rfl, rfl, ne, f⟩
    · exact absurd ⟨q1, q2, q3, q4⟩ nf
    rw [e, f, ob_s, ob_s, if_pos rfl, ceB, ob_s, cellB, oi_nI (by decide) (show i * 6 + j < 48 by omega), nI_clamp (show i * 6 + j < 2 ^ 31 by omega)]
    by_cases c1 : gA u 3 (i * 6 + j) = 0
    · rw [if_pos c1, if_pos (Or.inl c1), if_neg nl_m5, rlB rwd5, rlM rwd5]; exact qq_rl tA1 h _ _
    rw [if_neg c1, ceB, ob_s, cellB, oi_nI (by decide) (show m * 6 + j < 48 by omega), nI_clamp (show m * 6 + j < 2 ^ 31 by omega)]
    by_cases c2 : gA u 3 (m * 6 + j) = 0
    · rw [if_pos c2, if_pos (Or.inr c2), if_neg nl_m5, rlB rwd5, rlM rwd5]; exact qq_rl tA1 h _ _
    rw [if_neg c2, if_neg (show ¬ (gA u 3 (i * 6 + j) = 0 ∨ gA u 3 (m * 6 + j) = 0) from fun z => z.elim c1 c2), if_pos le_00, ceB, ob_s, cellB, ceB, ob_s, cellB, cellM, cellM]
    unfold f_X6_likenessOf
    rw [show (0 : Int32) = nI 0 from rfl, show (1 : Int32) = nI 1 from rfl, show (2 : Int32) = nI 2 from rfl, loE h (show i * 6 + j < 48 by omega) (show m * 6 + j < 48 by omega) (p := 0) (q := 1) (r := 2) (by omega) (by omega) (by omega) (by omega) (by omega), ob_s, ob_s]
    obtain ⟨y, ey, hy⟩ := lbE h hi (show j < 6 by omega) hm (n := 0) (by omega)
    rw [ey, ob_s]
    exact ⟨_, _, _, _, rfl, rfl, RT_s (RT_lk h hy), rfl⟩
/-! chance -/
/-- is the order p q r at least as like? -/
def ind (u : SS) (c d p q r s : Nat) : Nat := if lkN u c d p q r s ≤ lkN u c d 0 1 2 3 then 1 else 0
def inB (u : SS) (c d p q r : Nat) : Nat := if p = q ∨ p = r ∨ q = r then 0 else ind u c d p q r (6 - p - q - r)
def sr (u : SS) (c d p q : Nat) : Nat → Nat
  | 0 => 0
  | r + 1 => sr u c d p q r + inB u c d p q r
def sq (u : SS) (c d p : Nat) : Nat → Nat
  | 0 => 0
  | q + 1 => sq u c d p q + sr u c d p q 4
def sp (u : SS) (c d : Nat) : Nat → Nat
  | 0 => 0
  | p + 1 => sp u c d p + sq u c d p 4
def sm24 (u : SS) (c d : Nat) : Nat → Nat
  | 0 => 0
  | n + 1 => sm24 u c d n + ind u c d (pl4 n 0) (pl4 n 1) (pl4 n 2) (pl4 n 3)
theorem sm_eq (u : SS) (c d : Nat) : sp u c d 4 = sm24 u c d 24 := by
  have e : sm24 u c d 24 = ind u c d 0 1 2 3 + ind u c d 1 0 2 3 + ind u c d 2 1 0 3 + ind u c d 3 1 2 0 + ind u c d 0 2 1 3 + ind u c d 1 2 0 3 + ind u c d 2 0 1 3 + ind u c d 3 2 1 0 + ind u c d 0 3 2 1 + ind u c d 1 3 2 0 + ind u c d 2 3 0 1 + ind u c d 3 0 2 1 + ind u c d 0 1 3 2 + ind u c d 1 0 3 2 + ind u c d 2 1 3 0 + ind u c d 3 1 0 2 + ind u c d 0 2 3 1 + ind u c d 1 2 3 0 + ind u c d 2 0 3 1 + ind u c d 3 2 0 1 + ind u c d 0 3 1 2 + ind u c d 1 3 0 2 + ind u c d 2 3 1 0 + ind u c d 3 0 1 2 := by
    show 0 + _ + _ + _ + _ + _ + _ + _ + _ + _ + _ + _ + _ + _ + _ + _ + _ + _ + _ + _ + _ + _ + _ + _ + _ = _
    rw [Nat.zero_add]
    rfl
  rw [e]
  have b : ∀ p q r : Nat, (p = q ∨ p = r ∨ q = r) → inB u c d p q r = 0 := fun p q r h => if_pos h
  have b2 : ∀ p q r : Nat, ¬ (p = q ∨ p = r ∨ q = r) → inB u c d p q r = ind u c d p q r (6 - p - q - r) := fun p q r h => if_neg h
  have s4 : ∀ p q : Nat, sr u c d p q 4 = inB u c d p q 0 + inB u c d p q 1 + inB u c d p q 2 + inB u c d p q 3 := fun p q => by
    show 0 + _ + _ + _ + _ = _
    rw [Nat.zero_add]
  have q4 : ∀ p : Nat, sq u c d p 4 = sr u c d p 0 4 + sr u c d p 1 4 + sr u c d p 2 4 + sr u c d p 3 4 := fun p => by
    show 0 + _ + _ + _ + _ = _
    rw [Nat.zero_add]
  have p4 : sp u c d 4 = sq u c d 0 4 + sq u c d 1 4 + sq u c d 2 4 + sq u c d 3 4 := by
    show 0 + _ + _ + _ + _ = _
    rw [Nat.zero_add]
  rw [p4, q4, q4, q4, q4]
  simp only [s4]
  rw [b 0 0 0 (by decide), b 0 0 1 (by decide), b 0 0 2 (by decide), b 0 0 3 (by decide), b 0 1 0 (by decide), b 0 1 1 (by decide), b2 0 1 2 (by decide), b2 0 1 3 (by decide), b 0 2 0 (by decide), b2 0 2 1 (by decide), b 0 2 2 (by decide), b2 0 2 3 (by decide), b 0 3 0 (by decide), b2 0 3 1 (by decide), b2 0 3 2 (by decide), b 0 3 3 (by decide)]
  rw [b 1 0 0 (by decide), b 1 0 1 (by decide), b2 1 0 2 (by decide), b2 1 0 3 (by decide), b 1 1 0 (by decide), b 1 1 1 (by decide), b 1 1 2 (by decide), b 1 1 3 (by decide), b2 1 2 0 (by decide), b 1 2 1 (by decide), b 1 2 2 (by decide), b2 1 2 3 (by decide), b2 1 3 0 (by decide), b 1 3 1 (by decide), b2 1 3 2 (by decide), b 1 3 3 (by decide)]
  rw [b 2 0 0 (by decide), b2 2 0 1 (by decide), b 2 0 2 (by decide), b2 2 0 3 (by decide), b2 2 1 0 (by decide), b 2 1 1 (by decide), b 2 1 2 (by decide), b2 2 1 3 (by decide), b 2 2 0 (by decide), b 2 2 1 (by decide), b 2 2 2 (by decide), b 2 2 3 (by decide), b2 2 3 0 (by decide), b2 2 3 1 (by decide), b 2 3 2 (by decide), b 2 3 3 (by decide)]
  rw [b 3 0 0 (by decide), b2 3 0 1 (by decide), b2 3 0 2 (by decide), b 3 0 3 (by decide), b2 3 1 0 (by decide), b 3 1 1 (by decide), b2 3 1 2 (by decide), b 3 1 3 (by decide), b2 3 2 0 (by decide), b2 3 2 1 (by decide), b 3 2 2 (by decide), b 3 2 3 (by decide), b 3 3 0 (by decide), b 3 3 1 (by decide), b 3 3 2 (by decide), b 3 3 3 (by decide)]
  show _ = _
  simp only [Nat.zero_add, Nat.add_zero, show 6 - 0 - 1 - 2 = 3 from rfl, show 6 - 0 - 1 - 3 = 2 from rfl, show 6 - 0 - 2 - 1 = 3 from rfl, show 6 - 0 - 2 - 3 = 1 from rfl, show 6 - 0 - 3 - 1 = 2 from rfl, show 6 - 0 - 3 - 2 = 1 from rfl, show 6 - 1 - 0 - 2 = 3 from rfl, show 6 - 1 - 0 - 3 = 2 from rfl, show 6 - 1 - 2 - 0 = 3 from rfl, show 6 - 1 - 2 - 3 = 0 from rfl, show 6 - 1 - 3 - 0 = 2 from rfl, show 6 - 1 - 3 - 2 = 0 from rfl, show 6 - 2 - 0 - 1 = 3 from rfl, show 6 - 2 - 0 - 3 = 1 from rfl, show 6 - 2 - 1 - 0 = 3 from rfl, show 6 - 2 - 1 - 3 = 0 from rfl, show 6 - 2 - 3 - 0 = 1 from rfl, show 6 - 2 - 3 - 1 = 0 from rfl, show 6 - 3 - 0 - 1 = 2 from rfl, show 6 - 3 - 0 - 2 = 1 from rfl, show 6 - 3 - 1 - 0 = 2 from rfl, show 6 - 3 - 1 - 2 = 0 from rfl, show 6 - 3 - 2 - 0 = 1 from rfl, show 6 - 3 - 2 - 1 = 0 from rfl]
  omega
theorem ind_le (u : SS) (c d p q r s : Nat) : ind u c d p q r s ≤ 1 := by
  unfold ind; split <;> omega
theorem inB_le (u : SS) (c d p q r : Nat) : inB u c d p q r ≤ 1 := by
  unfold inB; split
  · omega
  · exact ind_le _ _ _ _ _ _ _
theorem sr_le (u : SS) (c d p q r : Nat) : sr u c d p q r ≤ r := by
  induction r with
  | zero => exact Nat.le_refl _
  | succ r ih =>
    have := inB_le u c d p q r
    show sr u c d p q r + inB u c d p q r ≤ r + 1
    omega
theorem sq_le (u : SS) (c d p q : Nat) : sq u c d p q ≤ 4 * q := by
  induction q with
  | zero => exact Nat.le_refl _
  | succ q ih =>
    have := sr_le u c d p q 4
    show sq u c d p q + sr u c d p q 4 ≤ 4 * (q + 1)
    omega
theorem sp_le (u : SS) (c d p : Nat) : sp u c d p ≤ 16 * p := by
  induction p with
  | zero => exact Nat.le_refl _
  | succ p ih =>
    have := sq_le u c d p 4
    show sp u c d p + sq u c d p 4 ≤ 16 * (p + 1)
    omega
theorem ch31E (h : RT k u v) {c d p q s : Nat} (hc : c < 48) (hd : d < 48) (hp : p < 4) (hq : q < 4) {P : Int32 × SS → Prop} (k22 : Int32 → Int32 → Int64 → Int32 → Int32 → Int32 → SS → Option (Int32 × SS)) (hk : TO P (k22 (nI c) (nI d) (lN (lkN u c d 0 1 2 3)) (nI (s + sr u c d p q 4)) (nI p) (nI (q + 1)) u)) : TO P (f_X6_chanceOf_L31 k22 FU (nI c) (nI d) (lN (lkN u c d 0 1 2 3)) (nI s) (nI p) (nI q) (0 : Int32) u) := by
  refine loopR (fun F (x : Int32 × Int32 × SS) => f_X6_chanceOf_L31 k22 F (nI c) (nI d) (lN (lkN u c d 0 1 2 3)) x.1 (nI p) (nI q) x.2.1 x.2.2) (fun i x => x = (nI (s + sr u c d p q i), nI i, u)) _ 4 ?_ (F := FU) (x := (nI s, (0 : Int32), u)) (Nat.lt_trans (by decide) FU_ge) rfl
  intro F x i hi hI hc2
  subst hI
  show TO _ (b_X6_chanceOf_L31 k22 (f_X6_chanceOf_L31 k22 F) (nI c) (nI d) (lN (lkN u c d 0 1 2 3)) (nI (s + sr u c d p q i)) (nI p) (nI q) (nI i) u)
  unfold b_X6_chanceOf_L31 f_X6_chanceOf_L62 f_X6_chanceOf_L63 f_X6_chanceOf_L90
  by_cases c4 : i = 4
  · subst c4
    rw [if_pos (show (4 : Int32) ≤ nI 4 by decide), lt_e, nI_1]; exact hk
  have hi2 : i < 4 := by omega
  rw [if_neg (show ¬ (4 : Int32) ≤ nI i from nI_ge (b := 4) hi2 (by decide))]
  have st : ∀ m : Nat, m = inB u c d p q i → TO P (lt (nI i + (1 : Int32)) fun x6 => f_X6_chanceOf_L31 k22 F (nI c) (nI d) (lN (lkN u c d 0 1 2 3)) (nI (s + sr u c d p q i + m)) (nI p) (nI q) x6 u) := by
    intro m hm
    rw [lt_e, nI_1]
    refine hc2 (nI (s + sr u c d p q i + m), nI (i + 1), u) hi2 ?_
    rw [hm, Nat.add_assoc]
    rfl
  have z0 : (p = q ∨ p = i ∨ q = i) → TO P (if (0 : Int32) = 0 then (lt (nI i + (1 : Int32)) fun x6 => f_X6_chanceOf_L31 k22 F (nI c) (nI d) (lN (lkN u c d 0 1 2 3)) (nI (s + sr u c d p q i)) (nI p) (nI q) x6 u) else (ob (f_X6_likenessInOrder (nI c) (nI d) (nI p) (nI q) (nI i) u) fun r9 u8 => if 0 < (lg_cmp r9 (lN (lkN u c d 0 1 2 3))) then (lt (nI i + (1 : Int32)) fun x6 => f_X6_chanceOf_L31 k22 F (nI c) (nI d) (lN (lkN u c d 0 1 2 3)) (nI (s + sr u c d p q i)) (nI p) (nI q) x6 u8) else (lt ((nI (s + sr u c d p q i)) + (1 : Int32)) fun x10 => lt (nI i + (1 : Int32)) fun x6 => f_X6_chanceOf_L31 k22 F (nI c) (nI d) (lN (lkN u c d 0 1 2 3)) x10 (nI p) (nI q) x6 u8))) := by
    intro hz
    rw [if_pos rfl]
    exact st 0 (if_pos hz).symm
  by_cases d1 : p = q
  · rw [if_pos (by rw [d1])]; exact z0 (Or.inl d1)
  rw [if_neg (fun z => d1 ((nI_eq (by omega) (by omega)).mp z))]
  by_cases d2 : p = i
  · rw [if_pos (by rw [d2])]; exact z0 (Or.inr (Or.inl d2))
  rw [if_neg (fun z => d2 ((nI_eq (by omega) (by omega)).mp z))]
  by_cases d3 : q = i
  · rw [if_pos (by rw [d3])]; exact z0 (Or.inr (Or.inr d3))
  rw [if_neg (fun z => d3 ((nI_eq (by omega) (by omega)).mp z)), if_neg nz_1, loE h hc hd hp hq hi2 (by omega) (by omega), ob_s]
  have l1 := lk_lt h hc hd hp hq hi2 (show 6 - p - q - i < 4 by omega)
  have l0 := lk_lt h hc hd (show 0 < 4 by decide) (show 1 < 4 by decide) (show 2 < 4 by decide) (show 3 < 4 by decide)
  have nd : ¬ (p = q ∨ p = i ∨ q = i) := fun z => z.elim d1 (fun z => z.elim d2 d3)
  by_cases d4 : lkN u c d p q i (6 - p - q - i) ≤ lkN u c d 0 1 2 3
  · rw [if_neg (fun z => absurd ((pk_lLT (by omega) (by omega)).mp ((lg_cmp_gt _ _).mp z)) (by omega)), lt_e, nI_1 (s + sr u c d p q i)]
    refine st 1 ?_
    unfold inB ind
    rw [if_neg nd, if_pos d4]
  · rw [if_pos ((lg_cmp_gt _ _).mpr ((pk_lLT (by omega) (by omega)).mpr (by omega)))]
    refine st 0 ?_
    unfold inB ind
    rw [if_neg nd, if_neg d4]
theorem ch22E (h : RT k u v) {c d p s : Nat} (hc : c < 48) (hd : d < 48) (hp : p < 4) {P : Int32 × SS → Prop} (k13 : Int32 → Int32 → Int64 → Int32 → Int32 → SS → Option (Int32 × SS)) (hk : TO P (k13 (nI c) (nI d) (lN (lkN u c d 0 1 2 3)) (nI (s + sq u c d p 4)) (nI (p + 1)) u)) : TO P (f_X6_chanceOf_L22 k13 FU (nI c) (nI d) (lN (lkN u c d 0 1 2 3)) (nI s) (nI p) (0 : Int32) u) := by
  refine loopR (fun F (x : Int32 × Int32 × SS) => f_X6_chanceOf_L22 k13 F (nI c) (nI d) (lN (lkN u c d 0 1 2 3)) x.1 (nI p) x.2.1 x.2.2) (fun i x => x = (nI (s + sq u c d p i), nI i, u)) _ 4 ?_ (F := FU) (x := (nI s, (0 : Int32), u)) (Nat.lt_trans (by decide) FU_ge) rfl
  intro F x i hi hI hc2
  subst hI
  show TO _ (b_X6_chanceOf_L22 k13 (f_X6_chanceOf_L22 k13 F) (nI c) (nI d) (lN (lkN u c d 0 1 2 3)) (nI (s + sq u c d p i)) (nI p) (nI i) u)
  unfold b_X6_chanceOf_L22
  by_cases c4 : i = 4
  · subst c4
    rw [if_pos (show (4 : Int32) ≤ nI 4 by decide), lt_e, nI_1]; exact hk
  have hi2 : i < 4 := by omega
  rw [if_neg (show ¬ (4 : Int32) ≤ nI i from nI_ge (b := 4) hi2 (by decide))]
  refine ch31E h hc hd hp hi2 _ (hc2 (nI (s + sq u c d p i + sr u c d p i 4), nI (i + 1), u) hi2 ?_)
  rw [Nat.add_assoc]
  rfl
theorem chE (h : RT k u v) {c d : Nat} (hc : c < 48) (hd : d < 48) : f_X6_chanceOf (nI c) (nI d) u = some (nI (sp u c d 4), u) := by
  unfold f_X6_chanceOf f_X6_likenessOf
  rw [show (0 : Int32) = nI 0 from rfl, show (1 : Int32) = nI 1 from rfl, show (2 : Int32) = nI 2 from rfl, loE h hc hd (p := 0) (q := 1) (r := 2) (by omega) (by omega) (by omega) (by omega) (by omega), ob_s, ob_s]
  show f_X6_chanceOf_L13 FU (nI c) (nI d) (lN (lkN u c d 0 1 2 3)) (nI 0) (nI 0) u = _
  refine to_eq (loopR (fun F (x : Int32 × Int32 × SS) => f_X6_chanceOf_L13 F (nI c) (nI d) (lN (lkN u c d 0 1 2 3)) x.1 x.2.1 x.2.2) (fun i x => x = (nI (sp u c d i), nI i, u)) _ 4 ?_ (F := FU) (x := (nI 0, nI 0, u)) (Nat.lt_trans (by decide) FU_ge) rfl)
  intro F x i hi hI hc2
  subst hI
  show TO _ (b_X6_chanceOf_L13 (f_X6_chanceOf_L13 F) (nI c) (nI d) (lN (lkN u c d 0 1 2 3)) (nI (sp u c d i)) (nI i) u)
  unfold b_X6_chanceOf_L13
  by_cases c4 : i = 4
  · subst c4
    rw [if_pos (show (4 : Int32) ≤ nI 4 by decide)]; exact to_s rfl
  have hi2 : i < 4 := by omega
  rw [if_neg (show ¬ (4 : Int32) ≤ nI i from nI_ge (b := 4) hi2 (by decide))]
  exact ch22E h hc hd hi2 _ (hc2 (nI (sp u c d i + sq u c d i 4), nI (i + 1), u) hi2 rfl)
theorem cmE (h : RT k u v) {i j b : Nat} (hi : i < 8) (hj : j < 6) (hb : b < 8) : ∃ y, f_X10_chanceOf (nI (8 * j + i)) (nI (8 * j + b)) v = some (nI (sm24 u (i * 6 + j) (b * 6 + j) 24), y) ∧ LK v y := by
  have key : TO (fun p : Int32 × SS => p.1 = nI (sm24 u (i * 6 + j) (b * 6 + j) 24) ∧ LK v p.2) (f_X10_chanceOf (nI (8 * j + i)) (nI (8 * j + b)) v) := by
    refine loopR (fun F (x : Int32 × Int32 × SS) => f_X10_chanceOf_L5 F (nI (8 * j + i)) (nI (8 * j + b)) x.1 x.2.1 x.2.2) (fun t x => x.1 = nI (sm24 u (i * 6 + j) (b * 6 + j) t) ∧ x.2.1 = nI t ∧ LK v x.2.2) _ 24 ?_ (F := FU) (x := ((0 : Int32), (0 : Int32), v)) (Nat.lt_trans (by decide) FU_ge) ⟨rfl, rfl, LK_r v⟩
    intro F x t ht hI hc2
    obtain ⟨b3, b4, y⟩ := x
    obtain ⟨e3, e4, m⟩ := hI
    have e3 : b3 = nI (sm24 u (i * 6 + j) (b * 6 + j) t) := e3
    have e4 : b4 = nI t := e4
    subst e3
    subst e4
    have m : LK v y := m
    show TO _ (b_X10_chanceOf_L5 (f_X10_chanceOf_L5 F) (nI (8 * j + i)) (nI (8 * j + b)) (nI (sm24 u (i * 6 + j) (b * 6 + j) t)) (nI t) y)
    unfold b_X10_chanceOf_L5 f_X10_chanceOf_L37
    by_cases c4 : t = 24
    · subst c4
      rw [if_pos (show (24 : Int32) ≤ nI 24 by decide)]; exact to_s ⟨rfl, m⟩
    have ht2 : t < 24 := by omega
    rw [if_neg (show ¬ (24 : Int32) ≤ nI t from nI_ge (b := 24) ht2 (by decide))]
    obtain ⟨y2, ey2, m2⟩ := lbE (RT_lk h m) hi hj hb ht2
    have m2 := LK_t m m2
    obtain ⟨y3, ey3, m3⟩ := lbE (RT_lk h m2) hi hj hb (n := 0) (by omega)
    have m3 := LK_t m2 m3
    have ey3 : f_X10_likenessBy (nI (8 * j + i)) (nI (8 * j + b)) (0 : Int32) y2 = some (lN (lkN u (i * 6 + j) (b * 6 + j) 0 1 2 3), y3) := ey3
    rw [ey2, ob_s, ey3, ob_s]
    have pl := pl4_lt t ht2
    have l1 := lk_lt h (show i * 6 + j < 48 by omega) (show b * 6 + j < 48 by omega) pl.1 pl.2.1 pl.2.2.1 pl.2.2.2
    have l0 := lk_lt h (show i * 6 + j < 48 by omega) (show b * 6 + j < 48 by omega) (show 0 < 4 by decide) (show 1 < 4 by decide) (show 2 < 4 by decide) (show 3 < 4 by decide)
    have st : ∀ m : Nat, m = ind u (i * 6 + j) (b * 6 + j) (pl4 t 0) (pl4 t 1) (pl4 t 2) (pl4 t 3) → TO (fun p : Int32 × SS => p.1 = nI (sm24 u (i * 6 + j) (b * 6 + j) 24) ∧ LK v p.2) (lt (nI (sm24 u (i * 6 + j) (b * 6 + j) t) + nI m) fun x7 => lt (nI t + (1 : Int32)) fun x8 => f_X10_chanceOf_L5 F (nI (8 * j + i)) (nI (8 * j + b)) x7 x8 y3) := by
      intro m hm
      rw [nI_add, lt_e, lt_e, nI_1]
      refine hc2 (nI (sm24 u (i * 6 + j) (b * 6 + j) t + m), nI (t + 1), y3) ht2 ⟨?_, rfl, m3⟩
      rw [hm]; rfl
    by_cases d4 : lkN u (i * 6 + j) (b * 6 + j) (pl4 t 0) (pl4 t 1) (pl4 t 2) (pl4 t 3) ≤ lkN u (i * 6 + j) (b * 6 + j) 0 1 2 3
    · rw [if_neg (fun z => absurd ((pk_lLT (by omega) (by omega)).mp ((lg_cmp_gt _ _).mp z)) (by omega))]
      exact st 1 (if_pos d4).symm
    · rw [if_pos ((lg_cmp_gt _ _).mpr ((pk_lLT (by omega) (by omega)).mpr (by omega)))]
      exact st 0 (if_neg d4).symm
  obtain ⟨⟨r, y⟩, e, e2, e3⟩ := key
  have e2 : r = nI (sm24 u (i * 6 + j) (b * 6 + j) 24) := e2
  subst e2
  exact ⟨y, e, e3⟩
theorem st_chanceE (h : RT k u v) (l a b : Int32) : QQ (RT (k + 1)) (f_X9_chance l a b u) (f_X10_chance l a b v) := by
  obtain ⟨⟨t, L, ht, hL1, hL6, e0, e0m, e2, e2m, e1, e1c⟩, -⟩ := id h
  unfold f_X9_chance f_X9_chance_L48 f_X10_chance
  rcases npB h e2 hL6 l a b with ⟨e, nb⟩ | ⟨e, q1, q2, q3, q4⟩
  · rcases wtM h e2m hL1 hL6 l a b with ⟨f, -⟩ | ⟨i, j, m, hi, hm, hj, rfl, rfl, rfl, ne, -⟩
    · rw [e, f, ob_s, ob_s, if_neg nz_1, if_neg nl_m1, rfB rwd1, rfM rwd1]; exact qq_rf tA1 h _
    · exact absurd ⟨⟨j, hj, rfl⟩, ⟨i, hi, rfl⟩, ⟨m, hm, rfl⟩, ne⟩ nb
  · rcases wtM h e2m hL1 hL6 l a b with ⟨-, nf⟩ | ⟨i, j, m, hi, hm, hj, rfl, rfl, rfl, ne, f⟩
    · exact absurd ⟨q1, q2, q3, q4⟩ nf
    rw [e, f, ob_s, ob_s, if_pos rfl, ceB, ob_s, cellB, oi_nI (by decide) (show i * 6 + j < 48 by omega), nI_clamp (show i * 6 + j < 2 ^ 31 by omega)]
    by_cases c1 : gA u 3 (i * 6 + j) = 0
    · rw [if_pos c1, if_pos (Or.inl c1), if_neg nl_m5, rfB rwd5, rfM rwd5]; exact qq_rf tA1 h _
    rw [if_neg c1, ceB, ob_s, cellB, oi_nI (by decide) (show m * 6 + j < 48 by omega), nI_clamp (show m * 6 + j < 2 ^ 31 by omega)]
    by_cases c2 : gA u 3 (m * 6 + j) = 0
    · rw [if_pos c2, if_pos (Or.inr c2), if_neg nl_m5, rfB rwd5, rfM rwd5]; exact qq_rf tA1 h _
    rw [if_neg c2, if_neg (show ¬ (gA u 3 (i * 6 + j) = 0 ∨ gA u 3 (m * 6 + j) = 0) from fun z => z.elim c1 c2), if_pos le_00, ceB, ob_s, cellB, ceB, ob_s, cellB, cellM, cellM, chE h (show i * 6 + j < 48 by omega) (show m * 6 + j < 48 by omega), ob_s]
    obtain ⟨y, ey, hy⟩ := cmE h hi (show j < 6 by omega) hm
    rw [ey, ob_s, sm_eq]
    exact ⟨_, _, _, _, rfl, rfl, RT_s (RT_lk h hy), rfl⟩
end ST29
