section ST28
theorem qq_n {α : Type} {P : SS → SS → Prop} {x y : Option (α × SS)} (h : QQ P x y) : QN P x y := by
  obtain ⟨r, u, r2, v, a, b, c, -⟩ := h
  exact ⟨r, u, r2, v, a, b, c, trivial⟩
theorem tA1 : FDok (fun _ _ : SS => True) := fun _ _ _ _ _ _ _ => trivial
theorem tA2 : FDlate (fun _ _ : SS => True) := fun _ _ _ _ _ => trivial
theorem tA3 : FDans (fun _ _ : SS => True) := fun _ _ _ _ _ _ _ => trivial
theorem tA4 : FDtp (fun _ _ : SS => True) := fun _ _ _ _ _ _ _ _ _ => trivial
theorem tA5 : FDfw (fun _ _ : SS => True) := fun _ _ _ _ _ _ _ _ _ => trivial
theorem tA6 : FDaw (fun _ _ : SS => True) := fun _ _ _ _ _ _ _ _ _ => trivial
theorem eN_0 (m : Nat) : eN m (0 : Int32) := ⟨0, Nat.zero_le _, rfl⟩
end ST28
