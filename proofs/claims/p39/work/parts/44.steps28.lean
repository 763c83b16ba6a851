section ST28
theorem qq_n {α : Type} {P : SS → SS → Prop} {x y : Option (α × SS)} (h : QQ P x y) : QN P x y := by
  obtain ⟨r, u, r2, v, a, b, c, -⟩ := h
  exact ⟨r, u, r2, v, a, b, c, trivial⟩
theorem tA1 : FDok (fun _ _ : SS => True) := fun _ _ _ _ _ _ _ => trivial
theorem tA2 : FDlate (fun _ _ : SS => True) := fun _ _ _ _ _ => trivial
theorem tA3 : FDans (fun _ _ : SS => True) := fun _ _ _ _ _ _ => trivial
theorem tA4 : FDtp (fun _ _ : SS => True) := fun _ _ _ _ _ _ _ _ _ => trivial
theorem tA5 : FDfw (fun _ _ : SS => True) := fun _ _ _ _ _ _ _ _ _ => trivial
theorem tA6 : FDaw (fun _ _ : SS => True) := fun _ _ _ _ _ _ _ _ _ => trivial
theorem eN_0 (m : Nat) : eN m (0 : Int32) := ⟨0, Nat.zero_le _, rfl⟩
theorem RT_0 : RT 0 uB0 uM0 := by
  refine ⟨⟨0, 1, by decide, by decide, by decide, rfl, rfl, rfl, rfl, rfl, Or.inl rfl⟩, ⟨fun i hi => ?_, eN_0 2⟩, fun i hi => ?_, fun b l hb hl => ⟨⟨rfl, Or.inl rfl⟩, ⟨rfl, eN_0 3⟩, ⟨rfl, eN_0 _⟩, ⟨rfl, eN_0 _⟩, fun j hj => ⟨rfl, eN_0 _⟩⟩, fun b l hb hl => ⟨Or.inl rfl, Or.inl rfl, fun _ => rfl⟩, fun b l hb hl => Or.inl ⟨rfl, ?_⟩, fun s b l hs hb hl => Or.inl ⟨?_, ?_⟩, fun s b hs hb => ⟨rfl, Or.inl rfl⟩, ⟨0, by decide, rfl, rfl⟩, ⟨1, 1, by decide, by decide, rfl, rfl, GDT_q _⟩, ⟨fun b hb => ?_, fun b m hb hm => ⟨rfl, eN_0 _⟩⟩, ⟨fun _ => rfl, rfl, Or.inl rfl, rfl, Or.inl rfl, rfl, 0, Nat.le_refl _, rfl, 0, by decide, rfl, rfl, fun _ _ _ => rfl, fun i hi => absurd hi (by omega)⟩, ⟨0, by decide, rfl, rfl, fun i hi => absurd hi (by omega), fun i j hi => absurd hi (by omega), rfl, rfl, rfl, Or.inl rfl, Or.inl rfl⟩, fun l hl => Or.inr (eN_0 _), fun l hl => Or.inr (eN_0 _), Or.inl rfl, fun _ => rfl, trivial, fun _ => trivial⟩
  · match i, hi with
    | 0, _ => exact ⟨rfl, eN_0 _⟩
    | 1, _ => exact ⟨rfl, eN_0 _⟩
    | 2, _ => exact ⟨rfl, eN_0 _⟩
    | 3, _ => exact ⟨rfl, 50, by decide, rfl⟩
  · match i, hi with
    | 0, _ => exact ⟨rfl, 1000, by decide, rfl⟩
    | 1, _ => exact ⟨rfl, 1000, by decide, rfl⟩
    | 2, _ => exact ⟨rfl, 1000, by decide, rfl⟩
    | 3, _ => exact ⟨rfl, 1000, by decide, rfl⟩
  · show fG 0 48 (-1) (fun _ => 0) (8 * l + b) = -1
    exact if_pos (by omega)
  · show flF 288 (-9) (s * 48 + (b * 6 + l)) = -9
    exact if_pos (by omega)
  · show fG 0 288 (-1) (fun _ => 0) (48 * s + (8 * l + b)) = -1
    exact if_pos (by omega)
  · have e1 : gA uM0 16 b = 6 := by
      show fG 0 8 6 (fun _ => 0) b = 6
      exact if_pos (by omega)
    have e2 : gA uB0 20 b = 6 := by
      show flF 8 6 b = 6
      exact if_pos hb
    rw [e1, e2]; exact ⟨rfl, 6, by decide, rfl⟩
end ST28
