section ST33
variable {k n : Nat} {u v v2 w x y : SS}
/-! the class's reader, step by step -/
def chr (f : Nat → Int32) (n p : Nat) : Int32 := if p < n then f p else -1
theorem chr_t {f : Nat → Int32} {n p : Nat} (h : p < n) : chr f n p = f p := if_pos h
theorem chr_f {f : Nat → Int32} {n p : Nat} (h : ¬ p < n) : chr f n p = -1 := if_neg h
/-- without a fault: at a, with the draft D and U units -/
def CLr (u : SS) (n a U : Nat) (D : List Int32) (w : SS) : Prop := FrB u w ∧ gI w 5 = nI n ∧ a ≤ n ∧ gI w 8 = nI a ∧ gI w 9 = -1 ∧ gI w 7 = nI U ∧ D.length ≤ 80 ∧ gI w 6 = nI D.length ∧ ∀ j : Nat, j < D.length → gA w 15 j = D.getD j 0
/-- with a fault at p -/
def CFr (u : SS) (n p : Nat) (w : SS) : Prop := PB n u w ∧ gI w 9 = nI p ∧ p ≤ n
theorem CLr_pb {a U : Nat} {D : List Int32} (h : CLr u n a U D w) : PB n u w := ⟨h.1, h.2.1, ⟨a, h.2.2.1, h.2.2.2.1⟩, D.length, h.2.2.2.2.2.2.1, h.2.2.2.2.2.2.2.1⟩
theorem CFr_ne {p : Nat} (hn : n ≤ 80) (h : CFr u n p w) : ¬ gI w 9 = -1 := by
  rw [h.2.1]
  intro z
  have := congrArg Int32.toInt z
  rw [nI_toInt (by have := h.2.2; omega), show (-1 : Int32).toInt = -1 by decide] at this
  omega
theorem pkE {a U : Nat} {D : List Int32} (hn : n ≤ 80) (h : CLr u n a U D w) : f_X2_peek w = some (chr (gA u 14) n a, w) := by
  obtain ⟨f, e5, ha, e8, -⟩ := h
  unfold f_X2_peek
  rw [e5, e8]
  by_cases c : a < n
  · rw [if_neg (nI_ge c (by omega)), oi_nI (by decide) (show a < 80 by omega), nI_clamp (by omega), f.2 14 (by unfold kBA; omega), chr_t c]
  · rw [if_pos (nI_le (by omega) (by omega)), chr_f c]
theorem adE {a U : Nat} {D : List Int32} (ha : a < n) (h : CLr u n a U D w) : CLr u n (a + 1) U D (sI w 8 (gI w 8 + 1)) := by
  obtain ⟨f, e5, -, e8, e9, e7, hD, e6, hd⟩ := h
  refine ⟨FrB_I (by unfold kBI; omega) f, ?_, ha, ?_, ?_, ?_, hD, ?_, hd⟩
  · rw [sIn (by decide)]; exact e5
  · rw [sIe, e8, nI_1]
  · rw [sIn (by decide)]; exact e9
  · rw [sIn (by decide)]; exact e7
  · rw [sIn (by decide)]; exact e6
theorem ffE {a U : Nat} {D : List Int32} (h : CLr u n a U D w) : ∃ y : SS, f_X2_findFault w = some y ∧ CFr u n a y := by
  unfold f_X2_findFault
  rw [if_pos h.2.2.2.2.1, lt_e]
  exact ⟨_, rfl, PB_I (by omega) (CLr_pb h), by rw [sIe]; exact h.2.2.2.1, h.2.2.1⟩
theorem ffF {p : Nat} (hn : n ≤ 80) (h : CFr u n p w) : f_X2_findFault w = some w := by
  unfold f_X2_findFault
  rw [if_neg (CFr_ne hn h)]
theorem emE {a U : Nat} {D : List Int32} (c : Int32) (hD : D.length < 80) (h : CLr u n a U D w) : ∃ y : SS, f_X2_emit c w = some y ∧ CLr u n a U (D ++ [c]) y := by
  obtain ⟨f, e5, ha, e8, e9, e7, -, e6, hd⟩ := h
  unfold f_X2_emit
  rw [e6, if_neg (show ¬ (80 : Int32) ≤ nI D.length from nI_ge (b := 80) hD (by decide)), oi_nI (by decide) hD, lt_e, gI_tA, e6, nI_1, lt_e]
  refine ⟨_, rfl, FrB_I (by unfold kBI; omega) (FrB_A (by unfold kBA; omega) f), ?_, ha, ?_, ?_, ?_, by rw [List.length_append]; exact hD, ?_, fun j hj => ?_⟩
  · rw [sIn (by decide)]; exact e5
  · rw [sIn (by decide)]; exact e8
  · rw [sIn (by decide)]; exact e9
  · rw [sIn (by decide)]; exact e7
  · rw [sIe, List.length_append]; rfl
  · rw [gA_sI, tAe, nI_clamp (by omega)]
    rw [List.length_append] at hj
    have hj : j < D.length + 1 := hj
    by_cases z : j = D.length
    · rw [z, upd_s]
      simp [List.getD]
    · rw [upd_n _ _ z, hd j (by omega)]
      simp [List.getD, List.getElem?_append_left (show j < D.length by omega)]
theorem emF {p : Nat} (c : Int32) (h : CFr u n p w) : ∃ y : SS, f_X2_emit c w = some y ∧ CFr u n p y := by
  obtain ⟨y, ey, hy⟩ := emT c h.1
  refine ⟨y, ey, hy, ?_, h.2.2⟩
  obtain ⟨-, -, -, ⟨d, hd, e6⟩⟩ := h.1
  unfold f_X2_emit at ey
  rw [e6] at ey
  by_cases c1 : (80 : Int32) ≤ nI d
  · rw [if_pos c1] at ey
    have e := Option.some.inj ey
    rw [← e]; exact h.2.1
  · rw [if_neg c1, oi_nI (by decide) (ltn (n := 80) (by omega) c1), lt_e, lt_e] at ey
    have e := Option.some.inj ey
    rw [← e, sIn (by decide)]; exact h.2.1
theorem exE {a U : Nat} {D : List Int32} (hn : n ≤ 80) {c : Int32} (hc : ¬ (-1 : Int32) = c) (h : CLr u n a U D w) : (chr (gA u 14) n a = c ∧ a < n ∧ ∃ y : SS, f_X2_expect c w = some y ∧ CLr u n (a + 1) U D y) ∨ (¬ chr (gA u 14) n a = c ∧ ∃ y : SS, f_X2_expect c w = some y ∧ CFr u n a y) := by
  unfold f_X2_expect
  rw [if_pos h.2.2.2.2.1, pkE hn h, ob_s]
  by_cases c1 : chr (gA u 14) n a = c
  · have ha : a < n := by
      rcases Nat.lt_or_ge a n with z | z
      · exact z
      · rw [chr_f (by omega)] at c1; exact absurd c1 hc
    refine Or.inl ⟨c1, ha, ?_⟩
    rw [if_pos c1, lt_e]
    exact ⟨_, rfl, adE ha h⟩
  · refine Or.inr ⟨c1, ?_⟩
    rw [if_neg c1]
    obtain ⟨y, ey, hy⟩ := ffE h
    rw [ey, ov_s]
    exact ⟨y, rfl, hy⟩
theorem exF {p : Nat} (hn : n ≤ 80) (c : Int32) (h : CFr u n p w) : f_X2_expect c w = some w := by
  unfold f_X2_expect
  rw [if_neg (CFr_ne hn h)]
/-- a digit; a number of at most m digits more, from a on, t read so far -/
def isD (c : Int32) : Prop := ¬ c < 48 ∧ ¬ (57 : Int32) < c
theorem isD_e {c : Int32} (h : isD c) : ∃ d : Nat, d ≤ 9 ∧ c = nI (48 + d) := dig48 h.1 h.2
def dgN (c : Int32) : Nat := nn c - 48
theorem dgN_e {d : Nat} (hd : d ≤ 9) : dgN (nI (48 + d)) = d := by
  unfold dgN
  rw [nn_nI (by omega)]; omega
noncomputable def nr (f : Nat → Int32) (n : Nat) : Nat → Nat → Nat → Nat × Nat
  | 0, a, t => (a, t)
  | m + 1, a, t => if chr f n a < 48 ∨ (57 : Int32) < chr f n a then (a, t) else nr f n m (a + 1) (10 * t + dgN (chr f n a))
theorem nr_n {f : Nat → Int32} {n m a t : Nat} (h : ¬ isD (chr f n a)) : nr f n (m + 1) a t = (a, t) := by
  show (if chr f n a < 48 ∨ (57 : Int32) < chr f n a then (a, t) else _) = _
  refine if_pos (Classical.byContradiction (fun z => h ⟨fun q => z (Or.inl q), fun q => z (Or.inr q)⟩))
theorem nr_d {f : Nat → Int32} {n m a t : Nat} (h : isD (chr f n a)) : nr f n (m + 1) a t = nr f n m (a + 1) (10 * t + dgN (chr f n a)) := by
  show (if chr f n a < 48 ∨ (57 : Int32) < chr f n a then (a, t) else _) = _
  exact if_neg (fun z => z.elim h.1 h.2)
theorem isD_lt {f : Nat → Int32} {n a : Nat} (h : isD (chr f n a)) : a < n := by
  rcases Nat.lt_or_ge a n with z | z
  · exact z
  · rw [chr_f (by omega)] at h; exact absurd (by decide) h.1
theorem nr_b {f : Nat → Int32} {n : Nat} : ∀ (m a t : Nat), a ≤ n → a ≤ (nr f n m a t).1 ∧ (nr f n m a t).1 ≤ n ∧ ((nr f n m a t).2 < (t + 1) * 10 ^ m) := by
  intro m
  induction m with
  | zero => intro a t h; exact ⟨Nat.le_refl _, h, by show t < (t + 1) * 1; omega⟩
  | succ m ih =>
    intro a t h
    by_cases c : isD (chr f n a)
    · rw [nr_d c]
      have ha := isD_lt c
      obtain ⟨d, hd, e⟩ := isD_e c
      rw [e, dgN_e hd]
      obtain ⟨q1, q2, q3⟩ := ih (a + 1) (10 * t + d) (by omega)
      refine ⟨by omega, q2, Nat.lt_of_lt_of_le q3 ?_⟩
      rw [Nat.pow_succ, ← Nat.mul_assoc, Nat.mul_right_comm]
      exact Nat.mul_le_mul_right _ (by omega)
    · rw [nr_n c]
      refine ⟨Nat.le_refl _, h, ?_⟩
      have : 1 ≤ 10 ^ (m + 1) := Nat.one_le_pow _ _ (by decide)
      have := Nat.mul_le_mul_left (t + 1) this
      show t < _
      omega
theorem dgE (c : Int32) (w : SS) : (isD c ∧ f_X2_isDigit c w = some (1, w)) ∨ (¬ isD c ∧ f_X2_isDigit c w = some (0, w)) := by
  unfold f_X2_isDigit
  by_cases c1 : c < 48
  · rw [if_pos c1]; exact Or.inr ⟨fun z => z.1 c1, rfl⟩
  · rw [if_neg c1]
    by_cases c2 : (57 : Int32) < c
    · rw [if_pos c2]; exact Or.inr ⟨fun z => z.2 c2, rfl⟩
    · rw [if_neg c2]; exact Or.inl ⟨⟨c1, c2⟩, rfl⟩
theorem dgM (c : Int32) (w : SS) : (isD c ∧ f_X10_isDigit c w = some (1, w)) ∨ (¬ isD c ∧ f_X10_isDigit c w = some (0, w)) := by
  rw [diM]
  by_cases c1 : c < 48
  · rw [if_pos c1]; exact Or.inr ⟨fun z => z.1 c1, rfl⟩
  · rw [if_neg c1]
    by_cases c2 : (57 : Int32) < c
    · rw [if_pos c2]; exact Or.inr ⟨fun z => z.2 c2, rfl⟩
    · rw [if_neg c2]; exact Or.inl ⟨⟨c1, c2⟩, rfl⟩
theorem dgi (t d : Nat) : nI t * (10 : Int32) + nI (48 + d) - (48 : Int32) = nI (10 * t + d) := by
  show nI t * nI 10 + nI (48 + d) - nI 48 = _
  rw [pk_mul, nI_add, pk_sub (by omega), show t * 10 + (48 + d) - 48 = 10 * t + d by omega]
theorem rnL {U : Nat} {D : List Int32} (hn : n ≤ 80) : ∀ (m F i a t : Nat) (w : SS), i + m = 6 → m < F → CLr u n a U D w → ∃ y : SS, f_X2_readNumber_L4 F (nI t) (nI i) w = f_X2_readNumber_L49 (nI (nr (gA u 14) n m a t).2) y ∧ CLr u n (nr (gA u 14) n m a t).1 U D y := by
  intro m
  induction m with
  | zero =>
    intro F i a t w h1 h2 h
    match F, h2 with
    | F + 1, _ =>
      show ∃ y, b_X2_readNumber_L4 (f_X2_readNumber_L4 F) (nI t) (nI i) w = _ ∧ _
      have e : i = 6 := by omega
      subst e
      unfold b_X2_readNumber_L4
      rw [if_pos (show (6 : Int32) ≤ nI 6 by decide)]
      exact ⟨w, rfl, h⟩
  | succ m ih =>
    intro F i a t w h1 h2 h
    match F, h2 with
    | F + 1, h2 =>
      show ∃ y, b_X2_readNumber_L4 (f_X2_readNumber_L4 F) (nI t) (nI i) w = _ ∧ _
      unfold b_X2_readNumber_L4
      rw [if_neg (show ¬ (6 : Int32) ≤ nI i from nI_ge (b := 6) (by omega) (by decide)), pkE hn h, ob_s]
      rcases dgE (chr (gA u 14) n a) w with ⟨q, e⟩ | ⟨q, e⟩
      · rw [e, ob_s, if_neg nz_1, pkE hn h, ob_s, nr_d q]
        obtain ⟨d, hd, ed⟩ := isD_e q
        rw [ed, dgi, lt_e, lt_e, lt_e, nI_1, dgN_e hd]
        exact ih F (i + 1) (a + 1) (10 * t + d) _ (by omega) (by omega) (adE (isD_lt q) h)
      · rw [e, ob_s, if_pos rfl, nr_n q]
        exact ⟨w, rfl, h⟩
/-- a number is read -/
theorem rnE {a U : Nat} {D : List Int32} (hn : n ≤ 80) (hd : isD (chr (gA u 14) n a)) (hD : D.length ≤ a) (h : CLr u n a U D w) : ∃ y : SS, f_X2_readNumber w = some y ∧ CLr u n (nr (gA u 14) n 6 a 0).1 (U + 1) (D ++ [nI (nr (gA u 14) n 6 a 0).2]) y := by
  have ha := isD_lt hd
  obtain ⟨y, ey, hy⟩ := rnL (D := D) hn 6 FU 0 a 0 w rfl (Nat.lt_trans (by decide) FU_ge) h
  have ey : f_X2_readNumber w = f_X2_readNumber_L49 (nI (nr (gA u 14) n 6 a 0).2) y := ey
  rw [ey]
  unfold f_X2_readNumber_L49
  rw [lt_e]
  have h7 : CLr u n (nr (gA u 14) n 6 a 0).1 (U + 1) D (sI y 7 (gI y 7 + 1)) := by
    obtain ⟨f, e5, ha, e8, e9, e7, hD, e6, hd⟩ := hy
    refine ⟨FrB_I (by unfold kBI; omega) f, ?_, ha, ?_, ?_, ?_, hD, ?_, hd⟩
    · rw [sIn (by decide)]; exact e5
    · rw [sIn (by decide)]; exact e8
    · rw [sIn (by decide)]; exact e9
    · rw [sIe, e7, nI_1]
    · rw [sIn (by decide)]; exact e6
  obtain ⟨z, ez, hz⟩ := emE (nI (nr (gA u 14) n 6 a 0).2) (by omega) h7
  rw [ez, ov_s]
  exact ⟨z, rfl, hz⟩
theorem nr_1 {f : Nat → Int32} {n a : Nat} (h : isD (chr f n a)) : a < (nr f n 6 a 0).1 ∧ (nr f n 6 a 0).1 ≤ n ∧ (nr f n 6 a 0).2 < 1000000 := by
  have ha := isD_lt h
  have b := nr_b (f := f) (n := n) 6 a 0 (by omega)
  refine ⟨?_, b.2.1, by have := b.2.2; omega⟩
  rw [nr_d h]
  have := (nr_b (f := f) (n := n) 5 (a + 1) (10 * 0 + dgN (chr f n a)) (by omega)).1
  omega
/-- a name: both know it, by the same byte -/
theorem nmE (c : Int32) (w y : SS) : (∃ r : Nat, r < 7 ∧ f_X10_nameOf c w = some (nI r, w) ∧ f_X2_isName c y = some (1, y) ∧ ¬ c = -1 ∧ ¬ isD c ∧ ¬ c = 40 ∧ ¬ c = 60 ∧ ¬ c = 62) ∨ (f_X10_nameOf c w = some (-1, w) ∧ f_X2_isName c y = some (0, y)) := by
  unfold f_X10_nameOf f_X2_isName
  by_cases hc : c.toInt < 97 ∨ 113 < c.toInt
  · rw [if_pos hc, if_pos hc]; exact Or.inr ⟨rfl, rfl⟩
  rw [if_neg hc, if_neg hc]
  have t57 : (57 : Int32).toInt = 57 := by decide
  have n1 : ¬ c = -1 ∧ ¬ isD c ∧ ¬ c = 40 ∧ ¬ c = 60 ∧ ¬ c = 62 := ⟨fun z => hc (by rw [z]; decide), fun z => by
    have := Int32.le_iff_toInt_le.mp (Int32.not_lt.mp z.2)
    rw [t57] at this
    omega, fun z => hc (by rw [z]; decide), fun z => hc (by rw [z]; decide), fun z => hc (by rw [z]; decide)⟩
  by_cases c97 : c = 97
  · rw [if_pos c97, if_pos c97]; exact Or.inl ⟨3, by decide, rfl, rfl, n1⟩
  rw [if_neg c97, if_neg c97]
  by_cases c98 : c = 98
  · rw [if_pos c98, if_pos c98]; exact Or.inl ⟨5, by decide, rfl, rfl, n1⟩
  rw [if_neg c98, if_neg c98]
  by_cases c99 : c = 99
  · rw [if_pos c99, if_pos c99]; exact Or.inr ⟨rfl, rfl⟩
  rw [if_neg c99, if_neg c99]
  by_cases c100 : c = 100
  · rw [if_pos c100, if_pos c100]; exact Or.inr ⟨rfl, rfl⟩
  rw [if_neg c100, if_neg c100]
  by_cases c101 : c = 101
  · rw [if_pos c101, if_pos c101]; exact Or.inr ⟨rfl, rfl⟩
  rw [if_neg c101, if_neg c101]
  by_cases c102 : c = 102
  · rw [if_pos c102, if_pos c102]; exact Or.inr ⟨rfl, rfl⟩
  rw [if_neg c102, if_neg c102]
  by_cases c103 : c = 103
  · rw [if_pos c103, if_pos c103]; exact Or.inr ⟨rfl, rfl⟩
  rw [if_neg c103, if_neg c103]
  by_cases c104 : c = 104
  · rw [if_pos c104, if_pos c104]; exact Or.inl ⟨2, by decide, rfl, rfl, n1⟩
  rw [if_neg c104, if_neg c104]
  by_cases c105 : c = 105
  · rw [if_pos c105, if_pos c105]; exact Or.inr ⟨rfl, rfl⟩
  rw [if_neg c105, if_neg c105]
  by_cases c106 : c = 106
  · rw [if_pos c106, if_pos c106]; exact Or.inr ⟨rfl, rfl⟩
  rw [if_neg c106, if_neg c106]
  by_cases c107 : c = 107
  · rw [if_pos c107, if_pos c107]; exact Or.inl ⟨6, by decide, rfl, rfl, n1⟩
  rw [if_neg c107, if_neg c107]
  by_cases c108 : c = 108
  · rw [if_pos c108, if_pos c108]; exact Or.inl ⟨1, by decide, rfl, rfl, n1⟩
  rw [if_neg c108, if_neg c108]
  by_cases c109 : c = 109
  · rw [if_pos c109, if_pos c109]; exact Or.inr ⟨rfl, rfl⟩
  rw [if_neg c109, if_neg c109]
  by_cases c110 : c = 110
  · rw [if_pos c110, if_pos c110]; exact Or.inr ⟨rfl, rfl⟩
  rw [if_neg c110, if_neg c110]
  by_cases c111 : c = 111
  · rw [if_pos c111, if_pos c111]; exact Or.inr ⟨rfl, rfl⟩
  rw [if_neg c111, if_neg c111]
  by_cases c112 : c = 112
  · rw [if_pos c112, if_pos c112]; exact Or.inl ⟨0, by decide, rfl, rfl, n1⟩
  rw [if_neg c112, if_neg c112]
  by_cases c113 : c = 113
  · rw [if_pos c113, if_pos c113]; exact Or.inl ⟨4, by decide, rfl, rfl, n1⟩
  rw [if_neg c113, if_neg c113]
  exact (sw97 hc c97 c98 c99 c100 c101 c102 c103 c104 c105 c106 c107 c108 c109 c110 c111 c112 c113).elim
end ST33
