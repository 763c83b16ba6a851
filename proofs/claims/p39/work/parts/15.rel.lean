/-! ===== what holds between the class's state u and the reference's state v, after k calls ===== -/
def eN (m : Nat) (x : Int32) : Prop := ∃ n : Nat, n ≤ m ∧ x = nI n
def bo (x : Int32) : Prop := x = 0 ∨ x = 1
def Opn (u : SS) : Prop := gI u 1 = -1 ∨ ¬ gI u 1 < gI u 0
def Rtm (u v : SS) : Prop := ∃ t L : Nat, t ≤ 999999 ∧ 1 ≤ L ∧ L ≤ 6 ∧ gI u 0 = nI t ∧ gI v 0 = nI t ∧ gI u 2 = nI L ∧ gI v 2 = nI L ∧ gI v 1 = gI u 1 ∧ (gI u 1 = -1 ∨ ∃ c : Nat, c ≤ 999999 ∧ gI u 1 = nI c)
def Rst (u v : SS) : Prop := (∀ i : Nat, i < 4 → gA v 8 i = gA u 1 i ∧ eN 100 (gA u 1 i)) ∧ eN 2 (gA u 1 0)
def Rrt (u v : SS) : Prop := ∀ i : Nat, i < 4 → gA v 0 i = gA u 2 i ∧ eN 100000 (gA u 2 i)
def Rbd (u v : SS) : Prop := ∀ b l : Nat, b < 8 → l < 6 → (gA v 1 (8 * l + b) = gA u 3 (b * 6 + l) ∧ bo (gA u 3 (b * 6 + l))) ∧ (gA v 2 (8 * l + b) = gA u 7 (b * 6 + l) ∧ eN 3 (gA u 7 (b * 6 + l))) ∧ (gA v 4 (8 * l + b) = gA u 8 (b * 6 + l) ∧ eN 999999 (gA u 8 (b * 6 + l))) ∧ (gA v 5 (8 * l + b) = gA u 9 (b * 6 + l) ∧ eN 99999 (gA u 9 (b * 6 + l))) ∧ ∀ j : Nat, j < 4 → gA v 3 (4 * (8 * l + b) + j) = gA u 6 ((b * 6 + l) * 4 + j) ∧ eN 99999 (gA u 6 ((b * 6 + l) * 4 + j))
def Rou (u v : SS) : Prop := ∀ b l : Nat, b < 8 → l < 6 → bo (gA u 4 (b * 6 + l)) ∧ bo (gA v 6 (8 * l + b)) ∧ ((Opn u ∨ gA u 3 (b * 6 + l) = 1) → gA v 6 (8 * l + b) = gA u 4 (b * 6 + l))
def Ras (u v : SS) : Prop := ∀ b l : Nat, b < 8 → l < 6 → (gA u 5 (b * 6 + l) = 0 ∧ gA v 7 (8 * l + b) = -1) ∨ (∃ n : Nat, 1 ≤ n ∧ n ≤ 999999 ∧ gA u 5 (b * 6 + l) = nI n ∧ gA v 7 (8 * l + b) = nI n ∧ gA u 3 (b * 6 + l) = 1)
def Rno (u v : SS) : Prop := ∀ s b l : Nat, s < 6 → b < 8 → l < 6 → (gA u 10 (s * 48 + (b * 6 + l)) = -9 ∧ gA v 9 (48 * s + (8 * l + b)) = -1) ∨ (∃ n : Nat, n ≤ 100 ∧ gA u 10 (s * 48 + (b * 6 + l)) = nI n ∧ gA v 9 (48 * s + (8 * l + b)) = nI n)
def Rba (u v : SS) : Prop := ∀ s b : Nat, s < 6 → b < 8 → gA v 10 (8 * s + b) = gA u 11 (s * 8 + b) ∧ bo (gA u 11 (s * 8 + b))
def Rtp (u v : SS) : Prop := ∃ n : Nat, n ≤ 80 ∧ gI u 5 = nI n ∧ gI v 6 = nI n
def Rfo (FE : (Nat → Int32) → Nat → (Nat → Int32) → Nat → Prop) (u v : SS) : Prop := ∃ n m : Nat, n ≤ 80 ∧ m ≤ 80 ∧ gI u 4 = nI n ∧ gI v 7 = nI m ∧ FE (gA u 13) n (gA v 13) m
def Rmo (u v : SS) : Prop := (∀ b : Nat, b < 8 → gA v 16 b = gA u 20 b ∧ eN 6 (gA u 20 b)) ∧ ∀ b m : Nat, b < 8 → m < 7 → gA v 17 (7 * b + m) = gA u 22 (b * 7 + m) ∧ eN 50 (gA u 22 (b * 7 + m))
/-- challenges: c of them, of LOTS and STAGES; who holds -/
def Raw (k : Nat) (u v : SS) : Prop := ((gI u 1 = -1 ∨ ¬ gI u 1 < gI u 0) → gI u 15 = 0) ∧ gI v 22 = gI u 15 ∧ bo (gI u 15) ∧ gI v 23 = gI u 16 ∧ bo (gI u 16) ∧ gI v 24 = gI u 19 ∧ (∃ r : Nat, r ≤ k ∧ gI u 18 = nI r ∧ ∃ c : Nat, c ≤ 20 ∧ gI u 17 = nI c ∧ gI v 25 = nI c ∧ (∀ i : Nat, c ≤ i → i < 20 → gA u 28 i = 0) ∧ ∀ i : Nat, i < c → eN 5 (gA u 26 i) ∧ gA v 27 i = gA u 26 i ∧ eN 2 (gA u 27 i) ∧ gA v 28 i = gA u 27 i ∧ bo (gA u 28 i) ∧ (∃ q : Nat, q ≤ r ∧ gA u 29 i = nI q) ∧ gA v 29 i = (if gI u 15 = 1 ∧ gA u 28 i = 0 ∧ gA u 29 i = gI u 18 then 1 else 0))
def Rfw (u v : SS) : Prop := ∃ m : Nat, m ≤ 8 ∧ gI u 21 = nI m ∧ gI v 26 = nI m ∧ (∀ i : Nat, i < m → gA v 32 i = gA u 32 i ∧ eN 7 (gA u 32 i) ∧ gA v 33 i = gA u 31 i) ∧ (∀ i j : Nat, i < m → j < m → gA u 32 i = gA u 32 j → i = j) ∧ gI v 27 = gI u 22 ∧ gI v 28 = gI u 20 ∧ gI v 30 = gI u 24 ∧ (gI u 22 = -1 ∨ ∃ i : Nat, i < m ∧ gI u 22 = nI i) ∧ (gI u 20 = -1 ∨ ((∃ i : Nat, i < m ∧ gI u 20 = nI i) ∧ gI v 29 = gI u 23 ∧ ∃ i : Nat, i < m ∧ gI u 23 = nI i))
def nob (x : Int32) : Prop := x = -9 ∨ eN 7 x
def Rgv (AW : (Nat → Int32) → (Nat → Int32) → (Nat → Int64) → (Nat → Int32) → (Nat → Int32) → (Nat → Int32) → Prop) (FD : SS → SS → Prop) (u v : SS) : Prop := (∀ l : Nat, l < 6 → nob (gA v 18 l)) ∧ (∀ l : Nat, l < 6 → nob (gA v 24 l)) ∧ bo (gI v 16) ∧ (Opn u → gI v 16 = 0) ∧ AW (gA u 25) (gA u 30) (gL u 8) (gA v 24) (gA v 25) (gA v 26) ∧ (gI v 16 = 1 → FD u v)
def RR (FE : (Nat → Int32) → Nat → (Nat → Int32) → Nat → Prop) (AW : (Nat → Int32) → (Nat → Int32) → (Nat → Int64) → (Nat → Int32) → (Nat → Int32) → (Nat → Int32) → Prop) (FD : SS → SS → Prop) (k : Nat) (u v : SS) : Prop := Rtm u v ∧ Rst u v ∧ Rrt u v ∧ Rbd u v ∧ Rou u v ∧ Ras u v ∧ Rno u v ∧ Rba u v ∧ Rtp u v ∧ Rfo FE u v ∧ Rmo u v ∧ Raw k u v ∧ Rfw u v ∧ Rgv AW FD u v
def QQ {α : Type} (P : SS → SS → Prop) (x y : Option (α × SS)) : Prop := ∃ (r : α) (u' : SS) (r2 : α) (v' : SS), x = some (r, u') ∧ y = some (r2, v') ∧ P u' v' ∧ r = r2
/-- what FD may not look at: refusals, the tape, the framework, challenges, a request that was answered -/
def FDok (FD : SS → SS → Prop) : Prop := (∀ u v i j x y, FD u v → FD (tA u 0 i x) (tA v 11 j y))
theorem Raw_k {k : Nat} {u v : SS} (h : Raw k u v) : Raw (k + 1) u v := by
  obtain ⟨h0, h1, h2, h3, h4, h5, r, hr, h6⟩ := h
  exact ⟨h0, h1, h2, h3, h4, h5, r, Nat.le_succ_of_le hr, h6⟩
theorem nz_1 : ¬ (1 : Int32) = 0 := by decide
theorem nz_m1 : ¬ (-1 : Int32) = 0 := by decide
theorem nz_m2 : ¬ (-2 : Int32) = 0 := by decide
theorem nz_m3 : ¬ (-3 : Int32) = 0 := by decide
theorem nz_m4 : ¬ (-4 : Int32) = 0 := by decide
theorem nz_m5 : ¬ (-5 : Int32) = 0 := by decide
theorem nz_m6 : ¬ (-6 : Int32) = 0 := by decide
theorem nz_m7 : ¬ (-7 : Int32) = 0 := by decide
theorem nz_m8 : ¬ (-8 : Int32) = 0 := by decide
theorem nz_m9 : ¬ (-9 : Int32) = 0 := by decide
theorem nl_m1 : ¬ (0 : Int32) ≤ (-1 : Int32) := by decide
theorem nl_m2 : ¬ (0 : Int32) ≤ (-2 : Int32) := by decide
theorem nl_m3 : ¬ (0 : Int32) ≤ (-3 : Int32) := by decide
theorem nl_m4 : ¬ (0 : Int32) ≤ (-4 : Int32) := by decide
theorem nl_m5 : ¬ (0 : Int32) ≤ (-5 : Int32) := by decide
theorem nl_m6 : ¬ (0 : Int32) ≤ (-6 : Int32) := by decide
theorem nl_m7 : ¬ (0 : Int32) ≤ (-7 : Int32) := by decide
theorem nl_m8 : ¬ (0 : Int32) ≤ (-8 : Int32) := by decide
theorem nl_m9 : ¬ (0 : Int32) ≤ (-9 : Int32) := by decide
theorem le_00 : (0 : Int32) ≤ 0 := by decide
theorem lt_m1 : (-1 : Int32) < 0 := by decide
theorem ceB (b l : Int32) (u : SS) : f_X9_cell b l u = some (((b * (6 : Int32)) + l), u) := rfl
theorem opB_t {u : SS} (h : Opn u) : f_X1_isOpen u = some (1, u) := by
  unfold f_X1_isOpen
  rcases h with h | h
  · rw [if_pos h]
  · by_cases h2 : gI u 1 = -1
    · rw [if_pos h2]
    · rw [if_neg h2, if_neg h]
theorem opB_f {u : SS} (h : ¬ Opn u) : f_X1_isOpen u = some (0, u) := by
  unfold f_X1_isOpen
  rw [if_neg (fun z => h (Or.inl z)), if_pos (Classical.byContradiction (fun z => h (Or.inr z)))]
theorem opM_t {u v : SS} (hR : Rtm u v) (h : Opn u) : f_X10_isOpen v = some (1, v) := by
  obtain ⟨t, L, h1, h2, h3, h4, h5, h6, h7, h8, h9⟩ := hR
  unfold f_X10_isOpen
  rw [h8, h5, ← h4]
  by_cases h0 : gI u 1 < 0
  · rw [if_pos h0]
  · rcases h with h | h
    · rw [h] at h0; exact absurd lt_m1 h0
    · rw [if_neg h0, if_neg h]
theorem opM_f {u v : SS} (hR : Rtm u v) (h : ¬ Opn u) : f_X10_isOpen v = some (0, v) := by
  obtain ⟨t, L, h1, h2, h3, h4, h5, h6, h7, h8, h9⟩ := hR
  unfold f_X10_isOpen
  rw [h8, h5, ← h4]
  have h0 : ¬ gI u 1 < 0 := by
    rcases h9 with h9 | ⟨c, hc, h9⟩
    · exact absurd (Or.inl h9) h
    · rw [h9]; exact nI_pos (by omega)
  rw [if_neg h0, if_pos (Classical.byContradiction (fun z => h (Or.inr z)))]
theorem Opn_dec (u : SS) : Opn u ∨ ¬ Opn u := Classical.em _
section STEPS
variable {FE : (Nat → Int32) → Nat → (Nat → Int32) → Nat → Prop} {AW : (Nat → Int32) → (Nat → Int32) → (Nat → Int64) → (Nat → Int32) → (Nat → Int32) → (Nat → Int32) → Prop} {FD : SS → SS → Prop} {k : Nat} {u v : SS}
/-- a refusal on both sides -/
theorem RR_rf (hA : FDok FD) (h : RR FE AW FD k u v) (w : Int32) : RR FE AW FD (k + 1) (rsB u w) (rsM v w) := by
  obtain ⟨h1, h2, h3, h4, h5, h6, h7, h8, h9, h10, h11, h12, h13, h14, h15, h16, h17, h18, h19⟩ := h
  exact ⟨h1, h2, h3, h4, h5, h6, h7, h8, h9, h10, h11, Raw_k h12, h13, h14, h15, h16, h17, h18, fun z => hA u v _ _ _ _ (h19 z)⟩
theorem qq_rf (hA : FDok FD) (h : RR FE AW FD k u v) (w : Int32) : QQ (RR FE AW FD (k + 1)) (some (w, rsB u w)) (some (w, rsM v w)) := ⟨_, _, _, _, rfl, rfl, RR_rf hA h w, rfl⟩
theorem qq_rl (hA : FDok FD) (h : RR FE AW FD k u v) (w : Int32) (x : Int64) : QQ (RR FE AW FD (k + 1)) (some (x, rsB u w)) (some (x, rsM v w)) := ⟨_, _, _, _, rfl, rfl, RR_rf hA h w, rfl⟩
theorem RR_k (h : RR FE AW FD k u v) : RR FE AW FD (k + 1) u v := by
  obtain ⟨h1, h2, h3, h4, h5, h6, h7, h8, h9, h10, h11, h12, h13⟩ := h
  exact ⟨h1, h2, h3, h4, h5, h6, h7, h8, h9, h10, h11, Raw_k h12, h13⟩
end STEPS
theorem rg_cl {n : Nat} {x : Int32} (hn : n < 2 ^ 31) (h : rg n x) : x.toNatClampNeg < n := by
  obtain ⟨i, hi, rfl⟩ := h
  rw [nI_clamp (by omega)]; exact hi
