def fG (i N : Nat) (v : Int32) (g : Nat → Int32) : Nat → Int32 := fun j => if i ≤ j ∧ j < N then v else g j
theorem fillLoop {β : Type} (N M a : Nat) (v : Int32) (E : SS → Option β) (L : Nat → Int32 → SS → Option β) (c : Int32) (hc : c = nI N) (hL : ∀ (n : Nat) (i : Int32) (u : SS), L (n + 1) i u = if c ≤ i then E u else oi i M (lt (tA u a i v) fun u1 => lt (i + 1) fun x => L n x u1)) (hN : N ≤ M) (hM : M < 2 ^ 31) : ∀ (k i n : Nat) (u : SS), N ≤ i + k → i ≤ N → k < n → L n (nI i) u = E (sA u a (fG i N v (gA u a))) := by
  subst hc
  intro k
  induction k with
  | zero =>
    intro i n u h1 h2 h3
    match n, h3 with
    | n + 1, _ =>
      have hi : i = N := by omega
      subst hi
      have e1 : fG i i v (gA u a) = gA u a := by
        funext j
        have : ¬ (i ≤ j ∧ j < i) := by omega
        simp [fG, this]
      rw [hL, if_pos (nI_le (Nat.le_refl i) (by omega)), e1, sA_self]
  | succ k ih =>
    intro i n u h1 h2 h3
    match n, h3 with
    | n + 1, h3 =>
      by_cases hi : i = N
      · subst hi
        have e1 : fG i i v (gA u a) = gA u a := by
          funext j
          have : ¬ (i ≤ j ∧ j < i) := by omega
          simp [fG, this]
        rw [hL, if_pos (nI_le (Nat.le_refl i) (by omega)), e1, sA_self]
      · rw [hL, if_neg (nI_ge (by omega) (by omega))]
        unfold oi
        rw [if_neg (nI_in (by omega) (by omega))]
        unfold lt
        show L n (nI i + 1) (tA u a (nI i) v) = _
        rw [nI_1, ih (i + 1) n (tA u a (nI i) v) (by omega) (by omega) (by omega)]
        have e2 : fG (i + 1) N v (gA (tA u a (nI i) v) a) = fG i N v (gA u a) := by
          funext j
          rw [tA_get, nI_clamp (by omega)]
          simp only [fG, upd]
          by_cases h4 : j = i
          · subst h4
            have : ¬ (j + 1 ≤ j ∧ j < N) := by omega
            have h5 : j ≤ j ∧ j < N := by omega
            simp [this, h5]
          · by_cases h5 : i ≤ j ∧ j < N
            · have h6 : i + 1 ≤ j ∧ j < N := by omega
              simp [h5, h6]
            · have h6 : ¬ (i + 1 ≤ j ∧ j < N) := by omega
              simp [h5, h6, h4]
        rw [e2, tA, sA_sA]
theorem FU_ge : 1000 < FU := by decide
def tu3 (u : SS) : SS := sA u 16 (fG 0 8 6 (gA u 16))
def tu2 (u : SS) : SS := tu3 (sI (tA (sA u 9 (fG 0 288 (-1) (gA u 9))) 13 0 113) 7 1)
def tu1 (u : SS) : SS := tu2 (sA u 7 (fG 0 48 (-1) (gA u 7)))
theorem tl3 (n : Nat) (h : 1000 < n) (u : SS) : f_X10_init_tail_L426 n (0 : Int32) u = some (tu3 u) := fillLoop 8 8 16 6 (fun u => (some u : Option SS)) f_X10_init_tail_L426 (8 : Int32) (by decide) (fun _ _ _ => rfl) (by decide) (by decide) 8 0 n u (by decide) (by decide) (by omega)
def tE (u : SS) : Option SS := oi (0 : Int32) 80 (lt (tA u 13 (0 : Int32) (113 : Int32)) fun u1 => lt (sI u1 7 (1 : Int32)) fun u2 => f_X10_init_tail_L426 FU (0 : Int32) u2)
theorem tl2s (n : Nat) (i : Int32) (u : SS) : f_X10_init_tail_L391 (n + 1) i u = if (288 : Int32) ≤ i then tE u else oi i 288 (lt (tA u 9 i (-1 : Int32)) fun u1 => lt (i + 1) fun x => f_X10_init_tail_L391 n x u1) := by
  show b_X10_init_tail_L391 (f_X10_init_tail_L391 n) i u = _
  unfold b_X10_init_tail_L391 tE
  rfl
theorem c288 : (288 : Int32) = nI 288 := by decide
theorem tl2c : ¬ ((0 : Int32) < 0 ∨ 80 ≤ (0 : Int32).toNatClampNeg) := by decide
theorem tl2d (u w : SS) (F : Nat) (hF : 1000 < F) (e : f_X10_init_tail_L426 F (0 : Int32) (sI (tA u 13 (0 : Int32) (113 : Int32)) 7 (1 : Int32)) = some w) : oi (0 : Int32) 80 (lt (tA u 13 (0 : Int32) (113 : Int32)) fun u1 => lt (sI u1 7 (1 : Int32)) fun u2 => f_X10_init_tail_L426 F (0 : Int32) u2) = some w := by
  unfold oi
  rw [if_neg tl2c]
  exact e
theorem tl2b (u : SS) : tE u = some (tu3 (sI (tA u 13 0 113) 7 1)) := tl2d u _ FU FU_ge (tl3 FU FU_ge _)
theorem tl2a (n : Nat) (h : 1000 < n) (u : SS) : f_X10_init_tail_L391 n (nI 0) u = tE (sA u 9 (fG 0 288 (-1) (gA u 9))) := fillLoop 288 288 9 (-1) tE f_X10_init_tail_L391 (288 : Int32) c288 tl2s (by decide) (by decide) 288 0 n u (by decide) (by decide) (by omega)
theorem tl2 (n : Nat) (h : 1000 < n) (u : SS) : f_X10_init_tail_L391 n (0 : Int32) u = some (tu2 u) := (tl2a n h u).trans (tl2b _)
theorem tl1 (n : Nat) (h : 1000 < n) (u : SS) : f_X10_init_tail_L370 n (0 : Int32) u = some (tu1 u) := by
  refine (fillLoop 48 48 7 (-1) (fun u => f_X10_init_tail_L391 FU (0 : Int32) u) f_X10_init_tail_L370 (48 : Int32) (by decide) (fun _ _ _ => rfl) (by decide) (by decide) 48 0 n u (by decide) (by decide) (by omega)).trans ?_
  have hF := FU_ge
  generalize FU = F at hF ⊢
  exact tl2 F hF _
def uM0 : SS := tu1 uM00
theorem tail_ok : f_X10_init_tail uM00 = some uM0 := tl1 FU FU_ge uM00

