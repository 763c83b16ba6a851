section ST37
variable {k n : Nat} {u v w x y : SS}
/-! nothing is asked of what is worked -/
theorem EOK_T : EOK (fun _ _ => True) := ⟨fun _ _ _ _ _ _ _ => trivial, fun _ _ _ _ _ _ _ => trivial, fun _ _ _ _ _ _ _ _ _ _ => trivial, fun _ _ _ _ _ _ _ _ _ _ _ _ => trivial⟩
end ST37
