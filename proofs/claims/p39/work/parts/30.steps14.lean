section ST14
variable {k : Nat} {u v w x : SS}
theorem ltn {n i : Nat} (hi : i < 2 ^ 31) (c : ¬ nI n ≤ nI i) : i < n := Nat.lt_of_not_le (fun q => c (nI_le q hi))
theorem BD_c (h : RT k u v) {c : Nat} (hc : c < 48) : BD u c := by
  have a := BD_of h (b := c / 6) (l := c % 6) (by omega) (by omega)
  rw [show c / 6 * 6 + c % 6 = c by omega] at a
  exact a
theorem isM_c (h : RT k u v) {c : Nat} (hc : c < 48) : ∃ n : Nat, f_X10_itemsOf (nI c) v = some (nI n, v) := by
  have a := isM h (b := c % 8) (l := c / 8) (by omega) (by omega)
  rw [show 8 * (c / 8) + c % 8 = c by omega] at a
  exact ⟨_, a⟩
theorem loT (h : RT k u v) {c d p q r : Nat} (hc : c < 48) (hd : d < 48) (hp : p < 4) (hq : q < 4) (hr : r < 4) (s1 : 3 ≤ p + q + r) (s2 : p + q + r ≤ 6) : TO (fun x : Int64 × SS => x.2 = u) (f_X6_likenessInOrder (nI c) (nI d) (nI p) (nI q) (nI r) u) := by
  unfold f_X6_likenessInOrder
  have e : (6 : Int32) - nI p - nI q - nI r = nI (6 - p - q - r) := by
    rw [show (6 : Int32) = nI 6 by decide, pk_sub (by omega), pk_sub (by omega), pk_sub (by omega)]
  rw [isB hc (BD_c h hc), ob_s, lt_e, isB hd (BD_c h hd), ob_s, lt_e, nI_x4, nI_x4, lt_e, lt_e, lt_e, e]
  refine to_i (by decide) ⟨c * 4, by omega, rfl⟩ ?_
  refine to_i (by decide) ⟨d * 4 + p, by omega, nI_add _ _⟩ ?_
  refine to_i (by decide) ⟨c * 4 + 1, by omega, nI_add _ 1⟩ ?_
  refine to_i (by decide) ⟨d * 4 + q, by omega, nI_add _ _⟩ ?_
  refine to_i (by decide) ⟨c * 4 + 2, by omega, nI_add _ 2⟩ ?_
  refine to_i (by decide) ⟨d * 4 + r, by omega, nI_add _ _⟩ ?_
  refine to_i (by decide) ⟨c * 4 + 3, by omega, nI_add _ 3⟩ ?_
  refine to_i (by decide) ⟨d * 4 + (6 - p - q - r), by omega, nI_add _ _⟩ ?_
  exact to_s rfl
theorem lkT (h : RT k u v) {c d : Nat} (hc : c < 48) (hd : d < 48) : TO (fun x : Int64 × SS => x.2 = u) (f_X6_likenessOf (nI c) (nI d) u) := by
  unfold f_X6_likenessOf
  exact seq (loT h hc hd (p := 0) (q := 1) (r := 2) (by omega) (by omega) (by omega) (by omega) (by omega))
theorem ch31 (h : RT k u v) {c d p q : Nat} (hc : c < 48) (hd : d < 48) (hp : p < 4) (hq : q < 4) {P : Int32 × SS → Prop} (k22 : Int32 → Int32 → Int64 → Int32 → Int32 → Int32 → SS → Option (Int32 × SS)) (b3 : Int64) (hk : ∀ b5 : Int32, TO P (k22 (nI c) (nI d) b3 b5 (nI p) (nI (q + 1)) u)) (b5 : Int32) : TO P (f_X6_chanceOf_L31 k22 FU (nI c) (nI d) b3 b5 (nI p) (nI q) (0 : Int32) u) := by
  refine loopR (fun F (x : Int32 × Int32 × SS) => f_X6_chanceOf_L31 k22 F (nI c) (nI d) b3 x.1 (nI p) (nI q) x.2.1 x.2.2) (fun i x => x.2 = (nI i, u)) _ 4 ?_ (F := FU) (x := (b5, (0 : Int32), u)) (Nat.lt_trans (by decide) FU_ge) rfl
  intro F x i hi hI hc2
  obtain ⟨b5, b8, w⟩ := x
  obtain ⟨rfl, rfl⟩ := Prod.mk.inj hI
  show TO _ (b_X6_chanceOf_L31 k22 (f_X6_chanceOf_L31 k22 F) (nI c) (nI d) b3 b5 (nI p) (nI q) (nI i) w)
  unfold b_X6_chanceOf_L31 f_X6_chanceOf_L62 f_X6_chanceOf_L63 f_X6_chanceOf_L90
  refine to_c (fun _ => ?_) (fun c1 => ?_)
  · rw [lt_e, nI_1]; exact hk b5
  have hi2 : i < 4 := ltn (n := 4) (by omega) c1
  have st : ∀ b : Int32, TO P (lt (nI i + (1 : Int32)) fun x6 => f_X6_chanceOf_L31 k22 F (nI c) (nI d) b3 b (nI p) (nI q) x6 w) := by
    intro b
    rw [lt_e, nI_1]; exact hc2 (b, nI (i + 1), w) hi2 rfl
  refine to_c (fun _ => to_c (fun _ => st _) (fun z => absurd rfl z)) (fun d1 => ?_)
  refine to_c (fun _ => to_c (fun _ => st _) (fun z => absurd rfl z)) (fun d2 => ?_)
  refine to_c (fun _ => to_c (fun _ => st _) (fun z => absurd rfl z)) (fun d3 => ?_)
  have n1 : p ≠ q := fun z => d1 (by rw [z])
  have n2 : p ≠ i := fun z => d2 (by rw [z])
  have n3 : q ≠ i := fun z => d3 (by rw [z])
  refine to_c (fun _ => st _) (fun _ => ?_)
  refine to_b (loT h hc hd hp hq hi2 (by omega) (by omega)) (fun a y hy => ?_)
  have hy : y = w := hy
  subst hy
  refine to_c (fun _ => st _) (fun _ => ?_)
  rw [lt_e]; exact st _
theorem ch22 (h : RT k u v) {c d p : Nat} (hc : c < 48) (hd : d < 48) (hp : p < 4) {P : Int32 × SS → Prop} (k13 : Int32 → Int32 → Int64 → Int32 → Int32 → SS → Option (Int32 × SS)) (b3 : Int64) (hk : ∀ b5 : Int32, TO P (k13 (nI c) (nI d) b3 b5 (nI (p + 1)) u)) (b5 : Int32) : TO P (f_X6_chanceOf_L22 k13 FU (nI c) (nI d) b3 b5 (nI p) (0 : Int32) u) := by
  refine loopR (fun F (x : Int32 × Int32 × SS) => f_X6_chanceOf_L22 k13 F (nI c) (nI d) b3 x.1 (nI p) x.2.1 x.2.2) (fun i x => x.2 = (nI i, u)) _ 4 ?_ (F := FU) (x := (b5, (0 : Int32), u)) (Nat.lt_trans (by decide) FU_ge) rfl
  intro F x i hi hI hc2
  obtain ⟨b5, b8, w⟩ := x
  obtain ⟨rfl, rfl⟩ := Prod.mk.inj hI
  show TO _ (b_X6_chanceOf_L22 k13 (f_X6_chanceOf_L22 k13 F) (nI c) (nI d) b3 b5 (nI p) (nI i) w)
  unfold b_X6_chanceOf_L22
  refine to_c (fun _ => ?_) (fun c1 => ?_)
  · rw [lt_e, nI_1]; exact hk b5
  have hi2 : i < 4 := ltn (n := 4) (by omega) c1
  exact ch31 h hc hd hp hi2 _ _ (fun b => hc2 (b, nI (i + 1), w) hi2 rfl) b5
theorem chT (h : RT k u v) {c d : Nat} (hc : c < 48) (hd : d < 48) : TO (fun x : Int32 × SS => x.2 = u) (f_X6_chanceOf (nI c) (nI d) u) := by
  unfold f_X6_chanceOf
  refine to_b (lkT h hc hd) (fun b3 w hw => ?_)
  have hw : w = u := hw
  subst hw
  refine loopR (fun F (x : Int32 × Int32 × SS) => f_X6_chanceOf_L13 F (nI c) (nI d) b3 x.1 x.2.1 x.2.2) (fun i x => x.2 = (nI i, w)) _ 4 ?_ (F := FU) (x := ((0 : Int32), (0 : Int32), w)) (Nat.lt_trans (by decide) FU_ge) rfl
  intro F x i hi hI hc2
  obtain ⟨b5, b8, y⟩ := x
  obtain ⟨rfl, rfl⟩ := Prod.mk.inj hI
  show TO _ (b_X6_chanceOf_L13 (f_X6_chanceOf_L13 F) (nI c) (nI d) b3 b5 (nI i) y)
  unfold b_X6_chanceOf_L13
  refine to_c (fun _ => to_s rfl) (fun c1 => ?_)
  have hi2 : i < 4 := ltn (n := 4) (by omega) c1
  exact ch22 h hc hd hi2 _ _ (fun b => hc2 (b, nI (i + 1), y) hi2 rfl) b5
theorem ajT (h : RT k u v) {c d : Nat} (hc : c < 48) (hd : d < 48) : TO (fun x : Int32 × SS => x.2 = u ∧ bo x.1) (f_X6_areJoined (nI c) (nI d) u) := by
  unfold f_X6_areJoined
  refine to_b (lkT h hc hd) (fun b3 w hw => ?_)
  have hw : w = u := hw
  subst hw
  rw [isB hc (BD_c h hc), ob_s, isB hd (BD_c h hd), ob_s, lt_e]
  refine to_c (fun _ => to_c (fun _ => to_s ⟨rfl, Or.inr rfl⟩) (fun _ => ?_)) (fun _ => to_s ⟨rfl, Or.inl rfl⟩)
  refine to_b (chT h hc hd) (fun a y hy => ?_)
  exact to_c (fun _ => to_s ⟨hy, Or.inr rfl⟩) (fun _ => to_s ⟨hy, Or.inl rfl⟩)
theorem or_bit : ∀ i, i < 8 → ∀ m, m < 256 → nI m ||| ((1 : Int32) <<< (nI i &&& 31)) = nI (m ||| 2 ^ i) := by decide +kernel
theorem or_lt {m i : Nat} (hm : m < 256) (hi : i < 8) : m ||| 2 ^ i < 256 := Nat.or_lt_two_pow (n := 8) hm (Nat.pow_lt_pow_right (by decide) hi)
theorem jwT (h : RT k u v) {l b : Nat} (hl : l < 6) (hb : b < 8) (b3 : Int32) : TO (fun x : Int32 × SS => x.2 = u ∧ ∃ m : Nat, m < 256 ∧ x.1 = nI m) (f_X6_joinedWith (nI l) (nI b) b3 u) := by
  refine loopR (fun F (x : Int32 × Int32 × SS) => f_X6_joinedWith_L6 F (nI l) (nI b) b3 x.1 x.2.1 x.2.2) (fun i x => x.2 = (nI i, u) ∧ ∃ m : Nat, m < 256 ∧ x.1 = nI m) _ 8 ?_ (F := FU) (x := ((0 : Int32), (0 : Int32), u)) (Nat.lt_trans (by decide) FU_ge) ⟨rfl, 0, by decide, rfl⟩
  intro F x i hi hI hc2
  obtain ⟨b4, b5, w⟩ := x
  obtain ⟨hI, m, hm, e4⟩ := hI
  obtain ⟨rfl, rfl⟩ := Prod.mk.inj hI
  have e4 : b4 = nI m := e4
  subst e4
  show TO _ (b_X6_joinedWith_L6 (f_X6_joinedWith_L6 F) (nI l) (nI b) b3 (nI m) (nI i) w)
  unfold b_X6_joinedWith_L6 f_X6_joinedWith_L35 f_X6_joinedWith_L75
  refine to_c (fun _ => to_s ⟨rfl, m, hm, rfl⟩) (fun c1 => ?_)
  have hi2 : i < 8 := ltn (n := 8) (by omega) c1
  have st : ∀ m : Nat, m < 256 → TO (fun x : Int32 × SS => x.2 = w ∧ ∃ m : Nat, m < 256 ∧ x.1 = nI m) (lt (nI i + (1 : Int32)) fun x4 => f_X6_joinedWith_L6 F (nI l) (nI b) b3 (nI m) x4 w) := by
    intro m hm
    rw [lt_e, nI_1]; exact hc2 (nI m, nI (i + 1), w) hi2 ⟨rfl, m, hm, rfl⟩
  rw [ceB, ob_s, cellB]
  refine to_c (fun _ => to_c (fun z => absurd z nz_1) (fun _ => ?_)) (fun _ => to_c (fun _ => st m hm) (fun z => absurd rfl z))
  refine to_i (by decide) ⟨i * 6 + l, by omega, rfl⟩ ?_
  refine to_c (fun _ => st m hm) (fun _ => ?_)
  rw [ceB, ob_s, cellB]
  refine to_b (ajT h (by omega) (by omega)) (fun a y hy => ?_)
  have e : y = w := hy.1
  subst e
  refine to_c (fun _ => st m hm) (fun _ => ?_)
  rw [lt_e, or_bit i hi2 m hm]
  exact st _ (or_lt hm hi2)
/-- the number of zeros behind the last one bit -/
def tz (a0 : Int32) : Int32 := match f_J6_numberOfTrailingZeros_0f7a4 a0 uB0 with
  | some p => p.1
  | none => 0
theorem tz62 (a b : Int32) (u v : SS) : ∃ r : Int32, f_J6_numberOfTrailingZeros_0f7a4_L62 a b u = some (r, u) ∧ f_J6_numberOfTrailingZeros_0f7a4_L62 a b v = some (r, v) := by
  unfold f_J6_numberOfTrailingZeros_0f7a4_L62
  by_cases c : a ≤ (4 : Int32)
  · rw [if_pos c, if_pos c]; exact ⟨_, rfl, rfl⟩
  · rw [if_neg c, if_neg c]; exact ⟨_, rfl, rfl⟩
theorem tz49 (a b : Int32) (u v : SS) : ∃ r : Int32, f_J6_numberOfTrailingZeros_0f7a4_L49 a b u = some (r, u) ∧ f_J6_numberOfTrailingZeros_0f7a4_L49 a b v = some (r, v) := by
  unfold f_J6_numberOfTrailingZeros_0f7a4_L49
  by_cases c : a ≤ (16 : Int32)
  · rw [if_pos c, if_pos c]; exact tz62 _ _ u v
  · rw [if_neg c, if_neg c]; exact tz62 _ _ u v
theorem tz34 (a b : Int32) (u v : SS) : ∃ r : Int32, f_J6_numberOfTrailingZeros_0f7a4_L34 a b u = some (r, u) ∧ f_J6_numberOfTrailingZeros_0f7a4_L34 a b v = some (r, v) := by
  unfold f_J6_numberOfTrailingZeros_0f7a4_L34
  by_cases c : a ≤ (256 : Int32)
  · rw [if_pos c, if_pos c]; exact tz49 _ _ u v
  · rw [if_neg c, if_neg c]; exact tz49 _ _ u v
theorem tz0 (a : Int32) (u v : SS) : ∃ r : Int32, f_J6_numberOfTrailingZeros_0f7a4 a u = some (r, u) ∧ f_J6_numberOfTrailingZeros_0f7a4 a v = some (r, v) := by
  unfold f_J6_numberOfTrailingZeros_0f7a4
  simp only [lt_e]
  by_cases c : 0 < (a ^^^ (-1 : Int32)) &&& (a - (1 : Int32))
  · rw [if_pos c, if_pos c]
    by_cases c2 : (a ^^^ (-1 : Int32)) &&& (a - (1 : Int32)) ≤ (65536 : Int32)
    · rw [if_pos c2, if_pos c2]; exact tz34 _ _ u v
    · rw [if_neg c2, if_neg c2]; exact tz34 _ _ u v
  · rw [if_neg c, if_neg c]; exact ⟨_, rfl, rfl⟩
theorem tzE (a : Int32) (u : SS) : f_J6_numberOfTrailingZeros_0f7a4 a u = some (tz a, u) := by
  obtain ⟨r, e1, e2⟩ := tz0 a u uB0
  unfold tz
  rw [e1, e2]
def tzN (d : Nat) : Nat := if d % 2 = 1 then 0 else if d / 2 % 2 = 1 then 1 else if d / 4 % 2 = 1 then 2 else if d / 8 % 2 = 1 then 3 else if d / 16 % 2 = 1 then 4 else if d / 32 % 2 = 1 then 5 else if d / 64 % 2 = 1 then 6 else 7
theorem tzV : ∀ d, d < 256 → d ≠ 0 → tz (nI d) = nI (tzN d) ∧ tzN d < 8 ∧ d.testBit (tzN d) = true := by decide +kernel
theorem nI_or (a b : Nat) : nI a ||| nI b = nI (a ||| b) := by
  refine Int32.toBitVec_inj.mp ?_
  exact (BitVec.ofNat_or (w := 32)).symm
theorem nI_andn (m n : Nat) : nI m &&& (nI n ^^^ (-1 : Int32)) = nI (m &&& (n ^^^ 4294967295)) := by
  refine Int32.toBitVec_inj.mp ?_
  show BitVec.ofNat 32 m &&& (BitVec.ofNat 32 n ^^^ BitVec.ofNat 32 4294967295) = BitVec.ofNat 32 (m &&& (n ^^^ 4294967295))
  rw [BitVec.ofNat_and, BitVec.ofNat_xor]
theorem ones_t : ∀ i, i < 32 → (4294967295 : Nat).testBit i = true := by decide +kernel
theorem andn_b {m n i : Nat} (hm : m < 256) : (m &&& (n ^^^ 4294967295)).testBit i = (m.testBit i && !n.testBit i) := by
  rw [Nat.testBit_and, Nat.testBit_xor]
  by_cases c : i < 32
  · rw [ones_t i c]; cases m.testBit i <;> cases n.testBit i <;> rfl
  · rw [Nat.testBit_lt_two_pow (x := m) (Nat.lt_of_lt_of_le hm (Nat.le_trans (by decide : 256 ≤ 2 ^ 32) (Nat.pow_le_pow_right (by decide) (by omega))))]
    rfl
/-- n within m, not all of it: a bit of m that isn't in n -/
theorem andn_ne {m n : Nat} (hm : m < 256) (hs : ∀ i, n.testBit i = true → m.testBit i = true) (hn : n ≠ m) : m &&& (n ^^^ 4294967295) ≠ 0 := by
  intro z
  refine hn (Nat.eq_of_testBit_eq (fun i => ?_))
  have e := andn_b (n := n) (i := i) hm
  rw [z, Nat.zero_testBit] at e
  have s := hs i
  cases a : n.testBit i <;> cases b : m.testBit i
  · rfl
  · rw [a, b] at e; exact absurd e (by decide)
  · rw [a, b] at s; exact absurd (s rfl) (by decide)
  · rfl
theorem shl1 : ∀ i, i < 8 → (1 : Int32) <<< (nI i &&& 31) = nI (2 ^ i) := by decide +kernel
theorem ljT (h : RT k u v) {l b : Nat} (hl : l < 6) (hb : b < 8) : TO (fun x : Int32 × SS => x.2 = u) (f_X6_leastJoined (nI l) (nI b) u) := by
  unfold f_X6_leastJoined
  rw [lt_e, shl1 b hb]
  have h2 : 2 ^ b < 256 := Nat.pow_lt_pow_right (n := 8) (by decide) hb
  refine loopR (fun F (x : Int32 × Int32 × Int32 × SS) => f_X6_leastJoined_L10 F (nI l) x.1 x.2.1 x.2.2.1 x.2.2.2) (fun i x => ∃ m n : Nat, m < 256 ∧ n < 256 ∧ (∀ j, n.testBit j = true → m.testBit j = true) ∧ x = (nI m, nI n, nI i, u)) _ 8 ?_ (F := FU) (x := (nI (2 ^ b), (0 : Int32), (0 : Int32), u)) (Nat.lt_trans (by decide) FU_ge) ⟨2 ^ b, 0, h2, by decide, fun j hj => by rw [Nat.zero_testBit] at hj; exact absurd hj (by decide), rfl⟩
  intro F x i hi hI hc2
  obtain ⟨m, n, hm, hn, hs, rfl⟩ := hI
  show TO _ (b_X6_leastJoined_L10 (f_X6_leastJoined_L10 F) (nI l) (nI m) (nI n) (nI i) u)
  unfold b_X6_leastJoined_L10 f_X6_leastJoined_L60
  refine to_c (fun _ => by rw [tzE, ob_s]; exact to_s rfl) (fun c1 => ?_)
  have hi2 : i < 8 := ltn (n := 8) (by omega) c1
  refine to_c (fun _ => by rw [tzE, ob_s]; exact to_s rfl) (fun c2 => ?_)
  have nm : n ≠ m := fun z => c2 (by rw [z])
  have d0 := andn_ne hm hs nm
  have dl : m &&& (n ^^^ 4294967295) < 256 := Nat.lt_of_le_of_lt Nat.and_le_left hm
  obtain ⟨t1, t2, t3⟩ := tzV _ dl d0
  rw [tzE, ob_s, nI_andn, t1, or_bit _ t2 n hn, lt_e]
  have tm : m.testBit (tzN (m &&& (n ^^^ 4294967295))) = true := by
    rw [andn_b hm] at t3
    revert t3
    cases m.testBit (tzN (m &&& (n ^^^ 4294967295)))
    · intro z; rw [Bool.false_and] at z; exact absurd z (by decide)
    · intro _; rfl
  refine to_b (jwT h hl t2 _) (fun a y hy => ?_)
  obtain ⟨e, r, hr, e2⟩ := hy
  have e : y = u := e
  have e2 : a = nI r := e2
  subst e
  subst e2
  rw [lt_e, nI_or, lt_e, nI_1]
  refine hc2 (nI (m ||| r), nI (n ||| 2 ^ tzN (m &&& (n ^^^ 4294967295))), nI (i + 1), y) hi2 ⟨m ||| r, n ||| 2 ^ tzN (m &&& (n ^^^ 4294967295)), Nat.or_lt_two_pow (n := 8) hm hr, or_lt hn t2, fun j hj => ?_, rfl⟩
  rw [Nat.testBit_or] at hj ⊢
  cases q : n.testBit j
  · rw [q, Nat.testBit_two_pow] at hj
    have e : tzN (m &&& (n ^^^ 4294967295)) = j := by
      by_cases z : tzN (m &&& (n ^^^ 4294967295)) = j
      · exact z
      · rw [decide_eq_false z] at hj; exact absurd hj (by decide)
    rw [← e, tm]; rfl
  · rw [hs j q]; rfl
/-! the calls of the class -/
theorem npB (h : RT k u v) {L : Nat} (e2 : gI u 2 = nI L) (hL : L ≤ 6) (l a b : Int32) : (f_X9_noPair l a b u = some (1, u) ∧ ¬ (rg L l ∧ rg 8 a ∧ rg 8 b ∧ a ≠ b)) ∨ (f_X9_noPair l a b u = some (0, u) ∧ rg L l ∧ rg 8 a ∧ rg 8 b ∧ a ≠ b) := by
  unfold f_X9_noPair
  by_cases c1 : rg L l
  · rw [noLot_t e2 hL c1, ob_s, if_pos rfl]
    by_cases c2 : rg 8 a
    · rw [noBidder_t c2, ob_s, if_pos rfl]
      by_cases c3 : rg 8 b
      · rw [noBidder_t c3, ob_s, if_pos rfl]
        by_cases c4 : a = b
        · rw [if_pos c4]; exact Or.inl ⟨rfl, fun z => z.2.2.2 c4⟩
        · rw [if_neg c4]; exact Or.inr ⟨rfl, c1, c2, c3, c4⟩
      · rw [noBidder_f c3, ob_s, if_neg nz_1]; exact Or.inl ⟨rfl, fun z => c3 z.2.2.1⟩
    · rw [noBidder_f c2, ob_s, if_neg nz_1]; exact Or.inl ⟨rfl, fun z => c2 z.2.1⟩
  · rw [noLot_f e2 hL c1, ob_s, if_neg nz_1]; exact Or.inl ⟨rfl, fun z => c1 z.1⟩
theorem likB_T (h : RT k u v) (l a b : Int32) : TO (fun p : Int64 × SS => FrB u p.2) (f_X9_likeness l a b u) := by
  obtain ⟨⟨t, L, ht, hL1, hL6, e0, e0m, e2, e2m, e1, e1c⟩, -⟩ := id h
  unfold f_X9_likeness f_X9_likeness_L48
  rcases npB h e2 hL6 l a b with ⟨e, -⟩ | ⟨e, ⟨j, hj, rfl⟩, ⟨i, hi, rfl⟩, ⟨m, hm, rfl⟩, -⟩
  · rw [e, ob_s, if_neg nz_1]; exact rlB3 rwd1 (FrB_r u)
  · rw [e, ob_s, if_pos rfl, ceB, ob_s, cellB]
    refine to_i (by decide) ⟨i * 6 + j, by omega, rfl⟩ (to_c (fun _ => rlB3 rwd5 (FrB_r u)) (fun _ => ?_))
    rw [ceB, ob_s, cellB]
    refine to_i (by decide) ⟨m * 6 + j, by omega, rfl⟩ (to_c (fun _ => rlB3 rwd5 (FrB_r u)) (fun _ => ?_))
    rw [ceB, ob_s, cellB, ceB, ob_s, cellB]
    exact to_w (seq (lkT h (by omega) (by omega))) (fun p q => by rw [q]; exact FrB_r u)
theorem chaB_T (h : RT k u v) (l a b : Int32) : TO (fun p : Int32 × SS => FrB u p.2) (f_X9_chance l a b u) := by
  obtain ⟨⟨t, L, ht, hL1, hL6, e0, e0m, e2, e2m, e1, e1c⟩, -⟩ := id h
  unfold f_X9_chance f_X9_chance_L48
  rcases npB h e2 hL6 l a b with ⟨e, -⟩ | ⟨e, ⟨j, hj, rfl⟩, ⟨i, hi, rfl⟩, ⟨m, hm, rfl⟩, -⟩
  · rw [e, ob_s, if_neg nz_1]; exact rfB3 rwd1 (FrB_r u)
  · rw [e, ob_s, if_pos rfl, ceB, ob_s, cellB]
    refine to_i (by decide) ⟨i * 6 + j, by omega, rfl⟩ (to_c (fun _ => rfB3 rwd5 (FrB_r u)) (fun _ => ?_))
    rw [ceB, ob_s, cellB]
    refine to_i (by decide) ⟨m * 6 + j, by omega, rfl⟩ (to_c (fun _ => rfB3 rwd5 (FrB_r u)) (fun _ => ?_))
    rw [ceB, ob_s, cellB, ceB, ob_s, cellB]
    exact to_w (seq (chT h (by omega) (by omega))) (fun p q => by rw [q]; exact FrB_r u)
theorem riB_T (h : RT k u v) (l b : Int32) : TO (fun p : Int32 × SS => FrB u p.2) (f_X9_ring l b u) := by
  obtain ⟨⟨t, L, ht, hL1, hL6, e0, e0m, e2, e2m, e1, e1c⟩, -⟩ := id h
  unfold f_X9_ring
  rcases bl_c b l L hL6 with ⟨i, j, hi, hj, hj6, rfl, rfl⟩ | hbl
  · rw [noBid_t e2 hL6 ⟨⟨i, hi, rfl⟩, ⟨j, hj, rfl⟩⟩, ob_s, if_pos rfl, ceB, ob_s, cellB]
    refine to_i (by decide) ⟨i * 6 + j, by omega, rfl⟩ (to_c (fun _ => rfB3 rwd5 (FrB_r u)) (fun _ => ?_))
    exact to_w (seq (ljT h hj6 hi)) (fun p q => by rw [q]; exact FrB_r u)
  · rw [noBid_f e2 hL6 hbl, ob_s, if_neg nz_1]; exact rfB3 rwd1 (FrB_r u)
end ST14
