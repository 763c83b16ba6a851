/-! ===== the first call on a fresh object (N = 10): the answers, class beside reference ===== -/
def AB (o : Option (Int32 × SS)) (r : Int32) : Prop := ∃ u', o = some (r, u')
theorem AB_of {o : Option (Int32 × SS)} {r : Int32} (h : o.map Prod.fst = some r) : AB o r := by
  match o, h with
  | some (a, u), h => exact ⟨u, by rw [← Option.some.inj h]⟩
theorem dl_lots : ∀ i : Fin 6, (f_X9_lots (nI (i.val + 1)) uB0).map Prod.fst = some 1 := by decide +kernel
theorem dm_lots : ∀ i : Fin 6, (f_X10_lots (nI (i.val + 1)) uM0).map Prod.fst = some 1 := by decide +kernel
theorem db_formula : (f_X9_formula uB0).map Prod.fst = some (-20) := by decide +kernel
theorem dm_formula : (f_X10_formula uM0).map Prod.fst = some (-20) := by decide +kernel
theorem db_order : ((f_X7_lay (0 : Int32) (-1 : Int32) uB0).bind f_X7_rank).map (fun u => gI u 10) = some 0 := by decide +kernel
theorem dm_order : (f_X10_findOrder (0 : Int32) uM0).map (fun u => gI u 15) = some 0 := by decide +kernel
theorem db_count : ∀ i : Fin 18, (f_X9_count (nI i.val) uB0).map Prod.fst = some (if i.val = 1 ∨ i.val = 5 then 1 else if i.val = 10 then -9 else 0) := by decide +kernel
theorem dm_count : ∀ i : Fin 18, (f_X10_count (nI i.val) uM0).map Prod.fst = some (if i.val = 1 ∨ i.val = 5 then 1 else if i.val = 10 then -9 else 0) := by decide +kernel
