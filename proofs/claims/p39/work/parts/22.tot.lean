/-! ===== a function answers, and its answer has a property; loops ===== -/
def TO {ρ : Type} (P : ρ → Prop) (o : Option ρ) : Prop := ∃ r, o = some r ∧ P r
theorem to_s {ρ : Type} {P : ρ → Prop} {r : ρ} (h : P r) : TO P (some r) := ⟨r, rfl, h⟩
theorem to_w {ρ : Type} {P Q : ρ → Prop} {o : Option ρ} (h : TO Q o) (hi : ∀ r, Q r → P r) : TO P o := by
  obtain ⟨r, e, q⟩ := h
  exact ⟨r, e, hi r q⟩
theorem to_e {ρ : Type} {P : ρ → Prop} {o o2 : Option ρ} (e : o = o2) (h : TO P o2) : TO P o := e ▸ h
theorem to_b {α ρ : Type} {Q : α × SS → Prop} {P : ρ → Prop} {o : Option (α × SS)} {k : α → SS → Option ρ} (h : TO Q o) (hk : ∀ a u, Q (a, u) → TO P (k a u)) : TO P (ob o k) := by
  obtain ⟨⟨a, u⟩, rfl, q⟩ := h
  exact hk a u q
theorem to_v {ρ : Type} {Q : SS → Prop} {P : ρ → Prop} {o : Option SS} {k : SS → Option ρ} (h : TO Q o) (hk : ∀ u, Q u → TO P (k u)) : TO P (ov o k) := by
  obtain ⟨u, rfl, q⟩ := h
  exact hk u q
theorem to_l {α ρ : Type} {P : ρ → Prop} {e : α} {k : α → Option ρ} (h : TO P (k e)) : TO P (lt e k) := h
theorem to_i {ρ : Type} {P : ρ → Prop} {i : Int32} {n : Nat} {k : Option ρ} (hn : n < 2 ^ 31) (h : rg n i) (hk : TO P k) : TO P (oi i n k) := by
  rw [oi_in hn h]; exact hk
theorem to_c {ρ : Type} {P : ρ → Prop} {c : Prop} [d : Decidable c] {a b : Option ρ} (h1 : c → TO P a) (h2 : ¬ c → TO P b) : TO P (if c then a else b) := by
  by_cases h : c
  · rw [if_pos h]; exact h1 h
  · rw [if_neg h]; exact h2 h
theorem to_n {ρ : Type} {P : ρ → Prop} {c : Prop} [d : Decidable c] {b : Option ρ} (h : ¬ c) (h2 : TO P b) : TO P (if c then none else b) := by
  rw [if_neg h]; exact h2
theorem loopG {τ ρ : Type} (g : Nat → τ → Option ρ) (I : Nat → τ → Prop) (P : ρ → Prop) (n : Nat) (hs : ∀ F x i, i ≤ n → I i x → (∀ y, i < n → I (i + 1) y → TO P (g F y)) → TO P (g (F + 1) x)) : ∀ k i F x, i + k = n → k < F → I i x → TO P (g F x) := by
  intro k
  induction k with
  | zero =>
    intro i F x h1 h2 h3
    match F, h2 with
    | F + 1, _ => exact hs F x i (by omega) h3 (fun y h => absurd h (by omega))
  | succ k ih =>
    intro i F x h1 h2 h3
    match F, h2 with
    | F + 1, h2 => exact hs F x i (by omega) h3 (fun y _ hy => ih (i + 1) F y (by omega) (by omega) hy)
theorem loopR {τ ρ : Type} (g : Nat → τ → Option ρ) (I : Nat → τ → Prop) (P : ρ → Prop) (n : Nat) (hs : ∀ F x i, i ≤ n → I i x → (∀ y, i < n → I (i + 1) y → TO P (g F y)) → TO P (g (F + 1) x)) {F : Nat} {x : τ} (hF : n < F) (h : I 0 x) : TO P (g F x) := loopG g I P n hs n 0 F x (by omega) hF h
/-! reading a changed state -/
theorem sIe {u : SS} {k : Nat} {x : Int32} : gI (sI u k x) k = x := if_pos rfl
theorem sIn {u : SS} {k j : Nat} {x : Int32} (h : j ≠ k) : gI (sI u k x) j = gI u j := if_neg h
theorem sJe {u : SS} {k : Nat} {x : Int64} : gJ (sJ u k x) k = x := if_pos rfl
theorem sJn {u : SS} {k j : Nat} {x : Int64} (h : j ≠ k) : gJ (sJ u k x) j = gJ u j := if_neg h
theorem tAe {u : SS} {a : Nat} {i x : Int32} : gA (tA u a i x) a = upd (gA u a) i.toNatClampNeg x := if_pos rfl
theorem tAn {u : SS} {a b : Nat} {i x : Int32} (h : b ≠ a) : gA (tA u a i x) b = gA u b := if_neg h
theorem tZe {u : SS} {a : Nat} {i x : Int32} : gA (tZ u a i x) a = upd (gA u a) i.toNatClampNeg (vp_nar .boolean x) := if_pos rfl
theorem tZn {u : SS} {a b : Nat} {i x : Int32} (h : b ≠ a) : gA (tZ u a i x) b = gA u b := if_neg h
theorem tLe {u : SS} {a : Nat} {i : Int32} {x : Int64} : gL (tL u a i x) a = vp_updL (gL u a) i.toNatClampNeg x := if_pos rfl
theorem tLn {u : SS} {a b : Nat} {i : Int32} {x : Int64} (h : b ≠ a) : gL (tL u a i x) b = gL u b := if_neg h
theorem gJ_sI (u : SS) (k j : Nat) (x : Int32) : gJ (sI u k x) j = gJ u j := rfl
theorem gJ_tA (u : SS) (a j : Nat) (i x : Int32) : gJ (tA u a i x) j = gJ u j := rfl
theorem gJ_tZ (u : SS) (a j : Nat) (i x : Int32) : gJ (tZ u a i x) j = gJ u j := rfl
theorem gJ_tL (u : SS) (a j : Nat) (i : Int32) (x : Int64) : gJ (tL u a i x) j = gJ u j := rfl
theorem gL_sI (u : SS) (k a : Nat) (x : Int32) : gL (sI u k x) a = gL u a := rfl
theorem gL_sJ (u : SS) (k a : Nat) (x : Int64) : gL (sJ u k x) a = gL u a := rfl
theorem sI_same {u : SS} {k : Nat} {x : Int32} (h : gI u k = x) : sI u k x = u := by
  obtain ⟨a, b⟩ := u
  have e : va_up a k x = a := by
    funext j
    show (if j = k then x else a j) = a j
    by_cases c : j = k
    · rw [if_pos c, c]; exact h.symm
    · rw [if_neg c]
  show (va_up a k x, b) = (a, b)
  rw [e]
theorem nar_0 : vp_nar .boolean (0 : Int32) = 0 := by decide +kernel
theorem nar_1 : vp_nar .boolean (1 : Int32) = 1 := by decide +kernel
theorem nar_bo {x : Int32} (h : bo x) : vp_nar .boolean x = x := by
  rcases h with h | h <;> subst h <;> decide +kernel
