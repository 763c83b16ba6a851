section ST30
variable {k n : Nat} {u v v2 w x y : SS}
/-! quality: equal answers -/
/-- a scorer is silent in the lot: barred for one who stands there and isn't a -/
def SL (u : SS) (l : Nat) (a : Int32) (s : Nat) : Prop := ∃ b : Nat, b < 8 ∧ ¬ nI b = a ∧ Std u (b * 6 + l) ∧ ¬ gA u 11 (s * 8 + b) = 0
theorem SL_c (u : SS) (l : Nat) (a : Int32) (s : Nat) : SL u l a s ∨ ¬ SL u l a s := Classical.em _
/-- counted notes: how many, their sum, the least, the greatest -/
noncomputable def qv (u : SS) (l : Nat) (a : Int32) (c : Nat) : Nat → Nat × Nat × Nat × Nat
  | 0 => (0, 0, 100, 0)
  | s + 1 => by
      classical
      exact if gA u 10 (s * 48 + c) = -9 ∨ SL u l a s then qv u l a c s else ((qv u l a c s).1 + 1, (qv u l a c s).2.1 + nn (gA u 10 (s * 48 + c)), (if nn (gA u 10 (s * 48 + c)) < (qv u l a c s).2.2.1 then nn (gA u 10 (s * 48 + c)) else (qv u l a c s).2.2.1), (if (qv u l a c s).2.2.2 < nn (gA u 10 (s * 48 + c)) then nn (gA u 10 (s * 48 + c)) else (qv u l a c s).2.2.2))
theorem qv_t {l c s : Nat} {a : Int32} (h : gA u 10 (s * 48 + c) = -9 ∨ SL u l a s) : qv u l a c (s + 1) = qv u l a c s := if_pos h
theorem qv_f {l c s : Nat} {a : Int32} (h : ¬ (gA u 10 (s * 48 + c) = -9 ∨ SL u l a s)) : qv u l a c (s + 1) = ((qv u l a c s).1 + 1, (qv u l a c s).2.1 + nn (gA u 10 (s * 48 + c)), (if nn (gA u 10 (s * 48 + c)) < (qv u l a c s).2.2.1 then nn (gA u 10 (s * 48 + c)) else (qv u l a c s).2.2.1), (if (qv u l a c s).2.2.2 < nn (gA u 10 (s * 48 + c)) then nn (gA u 10 (s * 48 + c)) else (qv u l a c s).2.2.2)) := if_neg h
theorem no_n (h : RT k u v) {s b l : Nat} (hs : s < 6) (hb : b < 8) (hl : l < 6) (hn : ¬ gA u 10 (s * 48 + (b * 6 + l)) = -9) : gA u 10 (s * 48 + (b * 6 + l)) = nI (nn (gA u 10 (s * 48 + (b * 6 + l)))) ∧ nn (gA u 10 (s * 48 + (b * 6 + l))) ≤ 100 ∧ gA v 9 (48 * s + (8 * l + b)) = nI (nn (gA u 10 (s * 48 + (b * 6 + l)))) := by
  rcases h.2.2.2.2.2.2.1 s b l hs hb hl with ⟨z, -⟩ | ⟨n, hn2, e1, e2⟩
  · exact absurd z hn
  · rw [e1, nn_nI (by omega)]; exact ⟨rfl, hn2, e2⟩
theorem qv_le (h : RT k u v) {b l : Nat} (hb : b < 8) (hl : l < 6) (a : Int32) : ∀ s : Nat, s ≤ 6 → (qv u l a (b * 6 + l) s).1 ≤ s ∧ (qv u l a (b * 6 + l) s).2.1 ≤ 100 * (qv u l a (b * 6 + l) s).1 ∧ (qv u l a (b * 6 + l) s).2.2.1 ≤ 100 ∧ (qv u l a (b * 6 + l) s).2.2.2 ≤ 100 ∧ ((qv u l a (b * 6 + l) s).1 = 0 → (qv u l a (b * 6 + l) s).2.2.1 = 100 ∧ (qv u l a (b * 6 + l) s).2.2.2 = 0) ∧ ((qv u l a (b * 6 + l) s).1 = 1 → (qv u l a (b * 6 + l) s).2.2.1 = (qv u l a (b * 6 + l) s).2.1 ∧ (qv u l a (b * 6 + l) s).2.2.2 = (qv u l a (b * 6 + l) s).2.1) ∧ (2 ≤ (qv u l a (b * 6 + l) s).1 → (qv u l a (b * 6 + l) s).2.2.1 + (qv u l a (b * 6 + l) s).2.2.2 ≤ (qv u l a (b * 6 + l) s).2.1 ∧ (qv u l a (b * 6 + l) s).2.2.1 ≤ (qv u l a (b * 6 + l) s).2.2.2) := by
  intro s
  induction s with
  | zero => intro _; exact ⟨Nat.le_refl _, Nat.le_refl _, Nat.le_refl _, Nat.zero_le _, fun _ => ⟨rfl, rfl⟩, fun z => absurd z (by show ¬ (0 : Nat) = 1; omega), fun z => absurd z (by show ¬ 2 ≤ (0 : Nat); omega)⟩
  | succ s ih =>
    intro hs
    obtain ⟨a1, a2, a3, a4, a5, a6, a7⟩ := ih (by omega)
    by_cases c : gA u 10 (s * 48 + (b * 6 + l)) = -9 ∨ SL u l a s
    · rw [qv_t c]; exact ⟨by omega, a2, a3, a4, a5, a6, a7⟩
    · have hn := (no_n h (show s < 6 by omega) hb hl (fun z => c (Or.inl z))).2.1
      rw [qv_f c]
      revert a1 a2 a3 a4 a5 a6 a7 hn
      generalize nn (gA u 10 (s * 48 + (b * 6 + l))) = t
      generalize qv u l a (b * 6 + l) s = q
      intro a1 a2 a3 a4 a5 a6 a7 hn
      show q.1 + 1 ≤ s + 1 ∧ q.2.1 + t ≤ 100 * (q.1 + 1) ∧ (if t < q.2.2.1 then t else q.2.2.1) ≤ 100 ∧ (if q.2.2.2 < t then t else q.2.2.2) ≤ 100 ∧ (q.1 + 1 = 0 → _) ∧ (q.1 + 1 = 1 → (if t < q.2.2.1 then t else q.2.2.1) = q.2.1 + t ∧ (if q.2.2.2 < t then t else q.2.2.2) = q.2.1 + t) ∧ (2 ≤ q.1 + 1 → (if t < q.2.2.1 then t else q.2.2.1) + (if q.2.2.2 < t then t else q.2.2.2) ≤ q.2.1 + t ∧ (if t < q.2.2.1 then t else q.2.2.1) ≤ (if q.2.2.2 < t then t else q.2.2.2))
      refine ⟨by omega, by omega, by split <;> omega, by split <;> omega, fun z => absurd z (by omega), fun z => ?_, fun z => ?_⟩
      · obtain ⟨b1, b2⟩ := a5 (by omega)
        have s0 : q.2.1 = 0 := by
          have : q.1 = 0 := by omega
          rw [this] at a2; omega
        rw [b1, b2, s0]
        refine ⟨?_, ?_⟩
        · split <;> omega
        · split <;> omega
      · rcases Nat.lt_or_ge q.1 2 with y | y
        · obtain ⟨b1, b2⟩ := a6 (by omega)
          rw [b1, b2]
          refine ⟨?_, ?_⟩
          · split <;> split <;> omega
          · split <;> split <;> omega
        · obtain ⟨b1, b2⟩ := a7 y
          refine ⟨?_, ?_⟩
          · split <;> split <;> omega
          · split <;> split <;> omega
/-- the sum and how many, the least and the greatest left out from four on -/
noncomputable def qS (u : SS) (l : Nat) (a : Int32) (c : Nat) : Nat := if (qv u l a c 6).1 < 4 then (qv u l a c 6).2.1 else (qv u l a c 6).2.1 - ((qv u l a c 6).2.2.1 + (qv u l a c 6).2.2.2)
noncomputable def qC (u : SS) (l : Nat) (a : Int32) (c : Nat) : Nat := if (qv u l a c 6).1 < 4 then (if (qv u l a c 6).1 = 0 then 1 else (qv u l a c 6).1) else (qv u l a c 6).1 - 2
theorem qSC (h : RT k u v) {b l : Nat} (hb : b < 8) (hl : l < 6) (a : Int32) : qS u l a (b * 6 + l) ≤ 600 ∧ 1 ≤ qC u l a (b * 6 + l) ∧ qC u l a (b * 6 + l) ≤ 6 := by
  have q := qv_le h hb hl a 6 (Nat.le_refl _)
  unfold qS qC
  refine ⟨?_, ?_, ?_⟩
  · split <;> omega
  · split
    · split <;> omega
    · omega
  · split
    · split <;> omega
    · omega
/-! the class -/
theorem cpN : ∀ (s a b F i : Nat), a < 2 ^ 63 → b < 2 ^ 63 → b < 2 ^ s → 2 * s < F → 2 * s + i < 200 → ∀ u : SS, f_X3_commonPart_L3 F (lN a) (lN b) (nI i) u = some (lN (Nat.gcd b a), u) := by
  intro s
  have z0 : ∀ (a F i : Nat) (u : SS), 0 < F → i < 200 → f_X3_commonPart_L3 F (lN a) (lN 0) (nI i) u = some (lN (Nat.gcd 0 a), u) := by
    intro a F i u hF hi
    match F, hF with
    | F + 1, _ =>
      show b_X3_commonPart_L3 (f_X3_commonPart_L3 F) (lN a) (lN 0) (nI i) u = _
      unfold b_X3_commonPart_L3
      rw [if_neg (show ¬ (200 : Int32) ≤ nI i from nI_ge (b := 200) hi (by decide)), if_pos ((lg_cmp_eq (lN 0) (0 : Int64)).mpr rfl), Nat.gcd_zero_left]
  have st : ∀ (a b F i : Nat) (u : SS), a < 2 ^ 63 → 0 < b → b < 2 ^ 63 → i < 200 → f_X3_commonPart_L3 (F + 1) (lN a) (lN b) (nI i) u = f_X3_commonPart_L3 F (lN b) (lN (a % b)) (nI (i + 1)) u := by
    intro a b F i u ha hb hb2 hi
    show b_X3_commonPart_L3 (f_X3_commonPart_L3 F) (lN a) (lN b) (nI i) u = _
    unfold b_X3_commonPart_L3
    have n0 : ¬ lN b = 0 := fun z => by
      have := (pk_lEQ (b := 0) hb2 (by decide)).mp z
      omega
    rw [if_neg (show ¬ (200 : Int32) ≤ nI i from nI_ge (b := 200) hi (by decide)), if_neg (fun z => n0 ((lg_cmp_eq _ _).mp z)), if_neg n0, pk_lRem ha hb hb2, lt_e, lt_e, nI_1]
  induction s with
  | zero =>
    intro a b F i ha hb hs hF hi u
    have e : b = 0 := by
      have : (2 : Nat) ^ 0 = 1 := rfl
      omega
    subst e
    exact z0 a F i u (by omega) (by omega)
  | succ s ih =>
    intro a b F i ha hb hs hF hi u
    rcases Nat.eq_zero_or_pos b with e | hb0
    · subst e; exact z0 a F i u (by omega) (by omega)
    · have hr := Nat.mod_lt a hb0
      match F, hF with
      | F + 2, hF =>
        rw [st a b (F + 1) i u ha hb0 hb (by omega)]
        rcases Nat.eq_zero_or_pos (a % b) with e | hr0
        · rw [e, z0 b (F + 1) (i + 1) u (by omega) (by omega), Nat.gcd_zero_left, Nat.gcd_rec, e, Nat.gcd_zero_left]
        · rw [st b (a % b) F (i + 1) u hb hr0 (by omega) (by omega)]
          have q1 := Nat.mod_lt b hr0
          have h2 : b % (a % b) < 2 ^ s := by
            have q2 : b % (a % b) + (a % b) ≤ b := by
              have := Nat.mod_add_div b (a % b)
              have q3 : 1 ≤ b / (a % b) := (Nat.le_div_iff_mul_le hr0).mpr (by omega)
              have q4 : (a % b) * 1 ≤ (a % b) * (b / (a % b)) := Nat.mul_le_mul (Nat.le_refl _) q3
              omega
            have q5 : (2 : Nat) ^ (s + 1) = 2 * 2 ^ s := by rw [Nat.pow_succ]; omega
            omega
          rw [ih (a % b) (b % (a % b)) F (i + 1 + 1) (by omega) (by omega) h2 (by omega) (by omega) u, Nat.gcd_rec b a, Nat.gcd_rec (a % b) b]
      | 0, hF => omega
      | 1, hF => omega
theorem abs_n {a : Nat} (ha : a < 2 ^ 63) : (if 0 < lN a then lN a else -lN a) = lN a := by
  by_cases c : 0 < a
  · rw [if_pos (show (0 : Int64) < lN a from (pk_lLT (a := 0) (by decide) ha).mpr c)]
  · have : a = 0 := by omega
    subst this
    rw [if_neg (show ¬ (0 : Int64) < lN 0 by decide)]; rfl
theorem ngt {x : Nat} (h : x ≤ 1000000000) : ¬ (0 : Int32) < lg_cmp (lN x) (1000000000 : Int64) := fun z => absurd ((pk_lLT (a := 1000000000) (by decide) (by omega)).mp ((lg_cmp_gt (lN x) (1000000000 : Int64)).mp z)) (by omega)
/-- a fraction put, neither below 0 -/
theorem puE {a b : Nat} (ha : a ≤ 1000000000) (h1 : 1 ≤ b) (hb : b ≤ 1000000000) (u : SS) : ∃ w : SS, f_X3_put (lN a) (lN b) u = some w ∧ PF u w ∧ gI w 25 = 0 ∧ gJ w 6 = lN (a / Nat.gcd b a) ∧ gJ w 7 = lN (b / Nat.gcd b a) ∧ (∀ i : Nat, i ≠ 6 → i ≠ 7 → gJ w i = gJ u i) ∧ ∀ i : Nat, gL w i = gL u i := by
  have g0 : 0 < Nat.gcd b a := Nat.gcd_pos_of_pos_left _ h1
  have g1 : Nat.gcd b a ≤ b := Nat.gcd_le_left _ h1
  have gn : ¬ lN (Nat.gcd b a) = 0 := fun z => by
    have := (pk_lEQ (b := 0) (by omega) (by decide)).mp z
    omega
  have bn : ¬ lN b = 0 := fun z => by
    have := (pk_lEQ (b := 0) (by omega) (by decide)).mp z
    omega
  have qa : a / Nat.gcd b a ≤ a := Nat.div_le_self _ _
  have qb : b / Nat.gcd b a ≤ b := Nat.div_le_self _ _
  unfold f_X3_put
  rw [lt_e, lt_e, lt_e, abs_n (by omega), abs_n (by omega)]
  have ec : ∀ z : SS, f_X3_commonPart (lN a) (lN b) z = some (lN (Nat.gcd b a), z) := fun z => cpN 31 a b FU 0 (by omega) (by omega) (by omega) (Nat.lt_trans (by decide) FU_ge) (by decide) z
  rw [ec, ob_s, if_neg (fun z => bn ((lg_cmp_eq _ _).mp z)), if_neg (fun z => gn ((lg_cmp_eq _ _).mp z)), if_pos (show (0 : Int32) ≤ lg_cmp (lN b) (0 : Int64) from (lg_cmp_ge (lN b) (0 : Int64)).mpr ((pk_lLE (a := 0) (by decide) (by omega)).mpr (by omega)))]
  unfold f_X3_put_L55
  rw [show (1 : Int64) = lN 1 from rfl, lN_mul, lN_mul, Nat.one_mul, Nat.one_mul, if_neg gn, pk_lDiv (by omega) g0 (by omega), lt_e, if_neg gn, pk_lDiv (by omega) g0 (by omega), lt_e, abs_n (by omega)]
  rw [if_neg (ngt (show a / Nat.gcd b a ≤ 1000000000 by omega)), if_neg (ngt (show b / Nat.gcd b a ≤ 1000000000 by omega)), lt_e, lt_e, lt_e]
  refine ⟨_, rfl, ⟨fun i hi => ?_, fun i => rfl⟩, ?_, ?_, ?_, fun i i6 i7 => ?_, fun i => rfl⟩
  · rw [gI_sJ, gI_sJ, sIn hi, gI_sJ, gI_sJ, sIn hi]
  · rw [gI_sJ, gI_sJ, sIe]
  · rw [sJn (by decide), sJe]
  · rw [sJe]
  · rw [sJn i7, sJn i6, gJ_sI, sJn i7, sJn i6, gJ_sI]
/-- the silent scorers are marked -/
def SLA (u : SS) (l : Nat) (a : Int32) (w : SS) : Prop := ∀ s : Nat, s < 6 → (SL u l a s → gA w 12 s = 1) ∧ (¬ SL u l a s → gA w 12 s = 0)
theorem weE (h : RT k u v) {b l : Nat} (hb : b < 8) (hl : l < 6) (a : Int32) (f : FW u w) (sl : SLA u l a w) : ∃ y : SS, f_X5_weigh (nI (b * 6 + l)) w = some y ∧ PF w y ∧ gJ y 6 = lN (qS u l a (b * 6 + l) / Nat.gcd (qC u l a (b * 6 + l)) (qS u l a (b * 6 + l))) ∧ gJ y 7 = lN (qC u l a (b * 6 + l) / Nat.gcd (qC u l a (b * 6 + l)) (qS u l a (b * 6 + l))) ∧ ∀ i : Nat, gL y i = gL w i := by
  have key : TO (fun y : SS => PF w y ∧ gJ y 6 = lN (qS u l a (b * 6 + l) / Nat.gcd (qC u l a (b * 6 + l)) (qS u l a (b * 6 + l))) ∧ gJ y 7 = lN (qC u l a (b * 6 + l) / Nat.gcd (qC u l a (b * 6 + l)) (qS u l a (b * 6 + l))) ∧ ∀ i : Nat, gL y i = gL w i) (f_X5_weigh (nI (b * 6 + l)) w) := by
    refine loopR (fun F (x : Int32 × Int32 × Int32 × Int32 × Int32 × SS) => f_X5_weigh_L15 F (nI (b * 6 + l)) x.1 x.2.1 x.2.2.1 x.2.2.2.1 x.2.2.2.2.1 x.2.2.2.2.2) (fun i x => x = (nI (qv u l a (b * 6 + l) i).1, nI (qv u l a (b * 6 + l) i).2.1, nI (qv u l a (b * 6 + l) i).2.2.1, nI (qv u l a (b * 6 + l) i).2.2.2, nI i, w)) _ 6 ?_ (F := FU) (x := ((0 : Int32), (0 : Int32), (100 : Int32), (0 : Int32), (0 : Int32), w)) (Nat.lt_trans (by decide) FU_ge) rfl
    intro F x i hi hI hc2
    subst hI
    obtain ⟨a1, a2, a3, a4, a5, a6, a7⟩ := qv_le h hb hl a i hi
    show TO _ (b_X5_weigh_L15 (f_X5_weigh_L15 F) (nI (b * 6 + l)) (nI (qv u l a (b * 6 + l) i).1) (nI (qv u l a (b * 6 + l) i).2.1) (nI (qv u l a (b * 6 + l) i).2.2.1) (nI (qv u l a (b * 6 + l) i).2.2.2) (nI i) w)
    unfold b_X5_weigh_L15 f_X5_weigh_L81
    by_cases c6 : i = 6
    · subst c6
      obtain ⟨s1, s2, s3⟩ := qSC h hb hl a
      have fin : ∀ (c s : Nat), (if c ≤ 1 then 1 else c) = qC u l a (b * 6 + l) → s = qS u l a (b * 6 + l) → c ≤ 6 → TO (fun y : SS => PF w y ∧ gJ y 6 = lN (qS u l a (b * 6 + l) / Nat.gcd (qC u l a (b * 6 + l)) (qS u l a (b * 6 + l))) ∧ gJ y 7 = lN (qC u l a (b * 6 + l) / Nat.gcd (qC u l a (b * 6 + l)) (qS u l a (b * 6 + l))) ∧ ∀ i : Nat, gL y i = gL w i) (f_X5_weigh_L105 (nI c) (nI s) w) := by
        intro c s hc hs c6
        unfold f_X5_weigh_L105
        have e : (if (1 : Int32) < nI c then nI c else (1 : Int32)) = nI (if c ≤ 1 then 1 else c) := by
          by_cases z : c ≤ 1
          · rw [if_pos z, if_neg (show ¬ (1 : Int32) < nI c from nI_nlt (a := 1) z (by decide))]; rfl
          · rw [if_neg z, if_pos (show (1 : Int32) < nI c from nI_lt (a := 1) (by omega) (by omega))]
        rw [e, hc, hs, nI_l (by omega), nI_l (by omega)]
        obtain ⟨y, ey, p1, p2, p3, p4, p5, p6⟩ := puE (a := qS u l a (b * 6 + l)) (b := qC u l a (b * 6 + l)) (by omega) s2 (by omega) w
        rw [ey, ov_s]
        exact to_s ⟨p1, p3, p4, p6⟩
      rw [if_pos (show (6 : Int32) ≤ nI 6 by decide)]
      by_cases c4 : (qv u l a (b * 6 + l) 6).1 < 4
      · rw [if_pos (show nI (qv u l a (b * 6 + l) 6).1 < (4 : Int32) from nI_lt (b := 4) c4 (by decide))]
        refine fin _ _ ?_ ?_ a1
        · unfold qC; rw [if_pos c4]
          by_cases z : (qv u l a (b * 6 + l) 6).1 = 0
          · rw [if_pos z, z]; rfl
          · rw [if_neg z]; split <;> omega
        · unfold qS; rw [if_pos c4]
      · rw [if_neg (show ¬ nI (qv u l a (b * 6 + l) 6).1 < (4 : Int32) from nI_nlt (b := 4) (by omega) (by omega)), lt_e, lt_e]
        have e1 : nI (qv u l a (b * 6 + l) 6).1 + (-2 : Int32) = nI ((qv u l a (b * 6 + l) 6).1 - 2) := by
          rw [show (qv u l a (b * 6 + l) 6).1 = ((qv u l a (b * 6 + l) 6).1 - 2) + 2 by omega, ← nI_add]
          have : (nI 2 : Int32) + (-2) = 0 := by decide
          rw [Int32.add_assoc, this, Int32.add_zero]; rfl
        rw [e1, nI_add, pk_sub (by omega)]
        refine fin _ _ ?_ ?_ (by omega)
        · unfold qC; rw [if_neg c4]; split <;> omega
        · unfold qS; rw [if_neg c4]
    have hi2 : i < 6 := by omega
    rw [if_neg (show ¬ (6 : Int32) ≤ nI i from nI_ge (b := 6) hi2 (by decide)), noB, oi_nI (by decide) (show i * 48 + (b * 6 + l) < 288 by omega), nI_clamp (show i * 48 + (b * 6 + l) < 2 ^ 31 by omega), f.2 10 (by decide) (by decide) (by decide) (by decide), lt_e]
    have go : ∀ q : Nat × Nat × Nat × Nat, q = qv u l a (b * 6 + l) (i + 1) → TO (fun y : SS => PF w y ∧ gJ y 6 = lN (qS u l a (b * 6 + l) / Nat.gcd (qC u l a (b * 6 + l)) (qS u l a (b * 6 + l))) ∧ gJ y 7 = lN (qC u l a (b * 6 + l) / Nat.gcd (qC u l a (b * 6 + l)) (qS u l a (b * 6 + l))) ∧ ∀ i : Nat, gL y i = gL w i) (lt (nI i + (1 : Int32)) fun x6 => f_X5_weigh_L15 F (nI (b * 6 + l)) (nI q.1) (nI q.2.1) (nI q.2.2.1) (nI q.2.2.2) x6 w) := by
      intro q hq
      rw [lt_e, nI_1]
      exact hc2 (nI q.1, nI q.2.1, nI q.2.2.1, nI q.2.2.2, nI (i + 1), w) hi2 (by rw [hq])
    by_cases c9 : gA u 10 (i * 48 + (b * 6 + l)) = -9
    · rw [if_pos c9]; exact go _ (qv_t (Or.inl c9)).symm
    rw [if_neg c9, oi_nI (by decide) hi2, nI_clamp (show i < 2 ^ 31 by omega)]
    rcases SL_c u l a i with hs | hs
    · rw [(sl i hi2).1 hs, if_neg nz_1]; exact go _ (qv_t (Or.inr hs)).symm
    · obtain ⟨e1, e2, -⟩ := no_n h hi2 hb hl c9
      rw [(sl i hi2).2 hs, if_pos rfl, lt_e, lt_e, lt_e, lt_e, e1, nI_1 (qv u l a (b * 6 + l) i).1, nI_add]
      have m1 : (if nI (nn (gA u 10 (i * 48 + (b * 6 + l)))) < nI (qv u l a (b * 6 + l) i).2.2.1 then nI (nn (gA u 10 (i * 48 + (b * 6 + l)))) else nI (qv u l a (b * 6 + l) i).2.2.1) = nI (if nn (gA u 10 (i * 48 + (b * 6 + l))) < (qv u l a (b * 6 + l) i).2.2.1 then nn (gA u 10 (i * 48 + (b * 6 + l))) else (qv u l a (b * 6 + l) i).2.2.1) := by
        by_cases z : nn (gA u 10 (i * 48 + (b * 6 + l))) < (qv u l a (b * 6 + l) i).2.2.1
        · rw [if_pos z, if_pos (nI_lt z (by omega))]
        · rw [if_neg z, if_neg (nI_nlt (by omega) (by omega))]
      have m2 : (if nI (qv u l a (b * 6 + l) i).2.2.2 < nI (nn (gA u 10 (i * 48 + (b * 6 + l)))) then nI (nn (gA u 10 (i * 48 + (b * 6 + l)))) else nI (qv u l a (b * 6 + l) i).2.2.2) = nI (if (qv u l a (b * 6 + l) i).2.2.2 < nn (gA u 10 (i * 48 + (b * 6 + l))) then nn (gA u 10 (i * 48 + (b * 6 + l))) else (qv u l a (b * 6 + l) i).2.2.2) := by
        by_cases z : (qv u l a (b * 6 + l) i).2.2.2 < nn (gA u 10 (i * 48 + (b * 6 + l)))
        · rw [if_pos z, if_pos (nI_lt z (by omega))]
        · rw [if_neg z, if_neg (nI_nlt (by omega) (by omega))]
      rw [m1, m2]
      exact go _ (qv_f (fun z => z.elim c9 hs)).symm
  obtain ⟨y, e, q⟩ := key
  exact ⟨y, e, q⟩
end ST30
