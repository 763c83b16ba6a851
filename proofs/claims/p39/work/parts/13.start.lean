theorem inst_X9 : Cond.instantiable RX9 8 ∈ lw_g := gm T_1_10.2.2.2.2.2.2.2.2.1 rfl
theorem ini_X9 : Cond.initialized RX9 ∈ lw_g := gm T_1_0.2.1 rfl
theorem inst_X10 : Cond.instantiable RX10 71 ∈ lw_g := gm T_4_230.2.1 rfl
theorem ini_X10 : Cond.initialized RX10 ∈ lw_g := gm T_1_10.2.1 rfl
theorem im_X9_init : Cond.instanceMethod yX9_init ∈ lw_g := gm T_1_20.1 rfl
theorem cd_X9_init : Cond.code yX9_init cX9_init 1 none ∈ lw_g := gm T_1_20.2.1 rfl
theorem im_X10_init : Cond.instanceMethod yX10_init ∈ lw_g := gm T_4_230.2.2.2.1 rfl
theorem cd_X10_init : Cond.code yX10_init cX10_init 2 none ∈ lw_g := gm T_4_230.2.2.2.2.1 rfl
theorem cl_L_7 : Cond.classLink RL 7 RX9 ∈ lw_g := gm T_1_10.2.2.2.2.2.2.2.1 rfl
theorem cl_L_10 : Cond.classLink RL 10 RX10 ∈ lw_g := gm T_4_230.1 rfl
theorem ml_L_9 : Cond.methodLink RL 9 yX9_init ∈ lw_g := gm T_1_10.2.2.2.2.2.2.2.2.2.1 rfl
theorem ml_L_12 : Cond.methodLink RL 12 yX10_init ∈ lw_g := gm T_4_230.2.2.1 rfl
theorem lays_D : Cond.laysStatic "BidsJudged$Whole" "DIGITS" "[I" ∈ lw_tbl := (List.mem_append_right _ T_4_40.2.2.2.2.2.1)
theorem nestI_in : ∀ q ∈ nestI, Cond.methodLinkNest q.1 q.2.1 q.2.2 "BidsJudged" ∈ lw_tbl := List.forall_mem_cons.mpr ⟨(List.mem_append_right _ T_1_20.2.2.2.2.2.2.2.1), List.forall_mem_cons.mpr ⟨(List.mem_append_right _ T_1_140.2.2.1), List.forall_mem_cons.mpr ⟨(List.mem_append_right _ T_1_140.2.2.2.2.2.2.2.2.1), List.forall_mem_cons.mpr ⟨(List.mem_append_right _ T_2_30.2.2.2.2.2.2.2.2.2.1), List.forall_mem_cons.mpr ⟨(List.mem_append_right _ T_2_80.2.2.2.2.2.2.2.2.1), fun _ h => absurd h List.not_mem_nil⟩⟩⟩⟩⟩
theorem nestL_in : ∀ q ∈ nestL, Cond.methodLinkNest q.1 q.2 yX9_cell "BidsJudged" ∈ lw_tbl := List.forall_mem_cons.mpr ⟨(List.mem_append_right _ T_3_40.2.2.2.1), List.forall_mem_cons.mpr ⟨(List.mem_append_right _ T_3_210.2.2.2.2.2.2.1), List.forall_mem_cons.mpr ⟨(List.mem_append_right _ T_4_20.2.2.2.2.2.1), List.forall_mem_cons.mpr ⟨(List.mem_append_right _ T_4_170.2.2.1), fun _ h => absurd h List.not_mem_nil⟩⟩⟩⟩
theorem df_X10 : ∀ j, j < 71 → defaultValue (tyX10 j) = vp_V [.int 0, .int 0, .null, .int 0, .null, .null, .null, .null, .null, .null, .null, .null, .null, .null, .int 0, .null, .int 0, .int 0, .null, .int 0, .null, .int 0, .null, .null, .null, .null, .int 0, .null, .int 0, .int 0, .int 0, .int 0, .int 0, .int 0, .long 0, .long 0, .null, .int 0, .null, .null, .int 0, .null, .int 0, .int 0, .null, .null, .null, .null, .null, .int 0, .int 0, .int 0, .int 0, .int 0, .int 0, .null, .null, .null, .int 0, .null, .null, .null, .null, .null, .int 0, .null, .null, .int 0, .int 0, .int 0, .int 0] j := by decide +kernel
theorem va_D_adr {A : Nat → Prop} {ws ws' : va_W} (h : ws.map (fun q => q.1) = ws'.map (fun q => q.1)) (hD : va_D A ws) : va_D A ws' := by
  have g : ∀ (k : Nat) (q : Nat × va_E), ws'[k]? = some q → ∃ p : Nat × va_E, ws[k]? = some p ∧ p.1 = q.1 := by
    intro k q hk
    have h1 : (ws'.map (fun q => q.1))[k]? = some q.1 := by rw [List.getElem?_map, hk]; rfl
    rw [← h, List.getElem?_map] at h1
    cases hr : ws[k]? with
    | none => rw [hr] at h1; cases h1
    | some p => rw [hr] at h1; exact ⟨p, rfl, Option.some.inj h1⟩
  refine ⟨fun i j p q hi hj e => ?_, fun k q hk => ?_⟩
  · obtain ⟨p1, a1, b1⟩ := g i p hi
    obtain ⟨q1, a2, b2⟩ := g j q hj
    exact hD.1 i j p1 q1 a1 a2 (by rw [b1, b2, e])
  · obtain ⟨p1, a1, b1⟩ := g k q hk
    rw [← b1]
    exact hD.2 k p1 a1
theorem va_in_l {a b : va_W} {k : Nat} {q : Nat × va_E} (h : a[k]? = some q) : (a ++ b)[k]? = some q := by
  rw [List.getElem?_append_left (List.getElem?_eq_some_iff.mp h).1]; exact h
theorem va_in_r {a b : va_W} {k : Nat} {q : Nat × va_E} (h : b[k]? = some q) : (a ++ b)[a.length + k]? = some q := by
  rw [List.getElem?_append_right (Nat.le_add_right _ _), Nat.add_sub_cancel_left]; exact h
theorem va_P_l {D : va_G} {cl : List vw_C} {a b : va_W} {H : Heap} (h : va_P D cl (a ++ b) H) : va_P D cl a H := fun k q hk => h k q (va_in_l hk)
theorem va_P_r {D : va_G} {cl : List vw_C} {a b : va_W} {H : Heap} (h : va_P D cl (a ++ b) H) : va_P D cl b H := fun k q hk => h (a.length + k) q (va_in_r hk)
theorem va_D_l {A : Nat → Prop} {a b : va_W} (h : va_D A (a ++ b)) : va_D A a := ⟨fun i j p q hi hj e => h.1 i j p q (va_in_l hi) (va_in_l hj) e, fun k q hk => h.2 k q (va_in_l hk)⟩
theorem va_D_r {A : Nat → Prop} {a b : va_W} (h : va_D A (a ++ b)) : va_D A b := ⟨fun i j p q hi hj e => by have := h.1 (a.length + i) (a.length + j) p q (va_in_r hi) (va_in_r hj) e; omega, fun k q hk => h.2 (a.length + k) q (va_in_r hk)⟩
theorem va_free1 {A0 : Nat → Prop} {a : va_W} {c : Nat × va_E} {H0 H : Heap} {locs : List Loc} (hD : va_D A0 (a ++ [c])) (hS : va_S A0 H0 H locs) (hA : ∀ q, H0.size ≤ q → A0 q) : ∀ q, va_A [c] H.size q → A0 q := by
  intro q h
  rcases h with ⟨k, e, h⟩ | h
  · exact hD.2 _ (q, e) (va_in_r h)
  · exact hA q (Nat.le_trans hS.1 h)
theorem va_join1 {A0 : Nat → Prop} {D : va_G} {cl : List vw_C} {c : Nat × va_E} {wr w1 : va_W} {H H1 : Heap} (hP : va_P D cl (wr ++ [c]) H) (hD : va_D A0 (wr ++ [c])) (hk : ∀ q : Nat, q < H.size → ¬ va_A [c] H.size q → H1[q]? = H[q]?) (hF : ∀ q, va_A [c] H.size q → A0 q) (hP1 : va_P D cl w1 H1) (hD1 : va_D (va_A [c] H.size) w1) : va_P D cl (wr ++ w1) H1 ∧ va_D A0 (wr ++ w1) := by
  have ap : ∀ (k : Nat) (q : Nat × va_E), wr[k]? = some q → q.1 < H.size ∧ ¬ va_A [c] H.size q.1 := by
    intro k q hq
    have hlt := (hP k q (va_in_l hq)).lt
    refine ⟨hlt, fun h => ?_⟩
    rcases h with ⟨k2, e, h⟩ | h
    · have hij := hD.1 k (wr.length + k2) q (q.1, e) (va_in_l hq) (va_in_r h) rfl
      have := (List.getElem?_eq_some_iff.mp hq).1
      omega
    · omega
  refine ⟨va_P.app (fun k q hq => ?_) hP1, va_D.app (va_D_l hD) (hD1.weaken (fun k q _ h => hF q.1 h)) (fun i j x y hx hy hxy => ?_)⟩
  · exact (hP k q (va_in_l hq)).kept (hk q.1 (ap k q hq).1 (ap k q hq).2)
  · exact (ap i x hx).2 (by rw [hxy]; exact hD1.2 j y hy)
theorem q9B {dC : Nat → ClassId} {dI : Nat → Nat → Nat} {h0 sz : Nat} {t : State} {A : Nat → Prop} (hB : ∃ (q1 : Nat) (q2 : Nat) (c3 : ClassId) (q4 : Nat) (c5 : ClassId) (q6 : Nat) (c7 : ClassId) (q8 : Nat) (c9 : ClassId) (q10 : Nat) (c11 : ClassId) (q12 : Nat) (c13 : ClassId) (q14 : Nat) (c15 : ClassId) (q16 : Nat) (c17 : ClassId) (q18 : Nat) (c19 : ClassId) (q20 : Nat) (q21 : Nat) (c22 : ClassId) (q23 : Nat) (c24 : ClassId) (q25 : Nat) (c26 : ClassId) (q27 : Nat) (q28 : Nat) (c29 : ClassId) (q30 : Nat) (c31 : ClassId) (q32 : Nat) (c33 : ClassId) (q34 : Nat) (q35 : Nat) (q36 : Nat) (c37 : ClassId) (q38 : Nat) (c39 : ClassId) (q40 : Nat) (c41 : ClassId) (q42 : Nat) (c43 : ClassId) (q44 : Nat) (c45 : ClassId) (q46 : Nat) (c47 : ClassId) (q48 : Nat) (c49 : ClassId) (q50 : Nat) (c51 : ClassId) (q52 : Nat) (c53 : ClassId) (q54 : Nat) (c55 : ClassId) (q56 : Nat) (q57 : Nat) (c58 : ClassId) (q59 : Nat) (c60 : ClassId) (q61 : Nat) (c62 : ClassId) (q63 : Nat) (c64 : ClassId) (q65 : Nat) (c66 : ClassId) (q67 : Nat) (c68 : ClassId) (q69 : Nat) (c70 : ClassId) (q71 : Nat) (q72 : Nat) (c73 : ClassId) (q74 : Nat) (c75 : ClassId) (q76 : Nat) (c77 : ClassId) (q78 : Nat) (c79 : ClassId) (q80 : Nat) (c81 : ClassId) (q82 : Nat) (c83 : ClassId) (q84 : Nat) (c85 : ClassId) (q86 : Nat) (q87 : Nat) (c88 : ClassId) (q89 : Nat) (c90 : ClassId) (q91 : Nat) (c91 : ClassId), va_P (dC, dI) vwCl [(h0, .inr (8, [.ref q1, .ref q20, .ref q27, .ref q34, .ref q56, .ref q71, .ref q86, .ref q91])), (q1, .inr (1, [.ref q2, .ref q4, .ref q6, .ref q8, .ref q10, .ref q12, .ref q14, .ref q16, .ref q18, .int 0, .int (-1 : Int32), .int (1 : Int32), .int 0])), (q2, .inl (c3, 4, .inl (upd (upd (upd (upd (fun _ => 0) 0 (0 : Int32)) 1 (0 : Int32)) 2 (0 : Int32)) 3 (50 : Int32)))), (q4, .inl (c5, 4, .inl (upd (upd (upd (upd (fun _ => 0) 0 (1000 : Int32)) 1 (1000 : Int32)) 2 (1000 : Int32)) 3 (1000 : Int32)))), (q6, .inl (c7, 48, .inl (fun _ => 0))), (q8, .inl (c9, 48, .inl (fun _ => 0))), (q10, .inl (c11, 48, .inl (fun _ => 0))), (q12, .inl (c13, 192, .inl (fun _ => 0))), (q14, .inl (c15, 48, .inl (fun _ => 0))), (q16, .inl (c17, 48, .inl (fun _ => 0))), (q18, .inl (c19, 48, .inl (fun _ => 0))), (q20, .inr (5, [.ref q21, .ref q23, .ref q25])), (q23, .inl (c24, 48, .inl (fun _ => 0))), (q25, .inl (c26, 6, .inl (fun _ => 0))), (q21, .inl (c22, 288, .inl (flF 288 (-9 : Int32)))), (q27, .inr (2, [.ref q28, .int (1 : Int32), .int 0, .ref q30, .ref q32, .int 0, .int 0, .int 0, .int 0])), (q28, .inl (c29, 80, .inl (upd (fun _ => 0) 0 (-113 : Int32)))), (q30, .inl (c31, 80, .inl (fun _ => 0))), (q32, .inl (c33, 80, .inl (fun _ => 0))), (q34, .inr (6, [.ref q35, .ref q36, .ref q38, .ref q40, .ref q42, .ref q44, .ref q46, .ref q48, .ref q50, .int 0, .ref q52, .ref q54, .int 0, .long 0, .long 0, .long 0, .long 0, .int 0, .long 0, .long 0])), (q35, .inr (3, [.long 0, .long (1 : Int64), .int 0])), (q36, .inl (c37, 8, .inl (fun _ => 0))), (q38, .inl (c39, 8, .inl (fun _ => 0))), (q40, .inl (c41, 8, .inr (.inl (fun _ => 0)))), (q42, .inl (c43, 8, .inr (.inl (fun _ => 0)))), (q44, .inl (c45, 8, .inr (.inl (fun _ => 0)))), (q46, .inl (c47, 8, .inr (.inl (fun _ => 0)))), (q48, .inl (c49, 8, .inl (fun _ => 0))), (q50, .inl (c51, 8, .inl (fun _ => 0))), (q52, .inl (c53, 80, .inr (.inl (fun _ => 0)))), (q54, .inl (c55, 80, .inr (.inl (fun _ => 0)))), (q56, .inr (7, [.ref q57, .ref q59, .int 0, .int 0, .ref q61, .ref q63, .ref q65, .ref q67, .ref q69])), (q59, .inl (c60, 6, .inl (fun _ => 0))), (q61, .inl (c62, 56, .inl (fun _ => 0))), (q63, .inl (c64, 48, .inl (fun _ => 0))), (q65, .inl (c66, 48, .inl (fun _ => 0))), (q67, .inl (c68, 64, .inr (.inl (fun _ => 0)))), (q69, .inl (c70, 64, .inr (.inl (fun _ => 0)))), (q57, .inl (c58, 8, .inl (flF 8 (6 : Int32)))), (q71, .inr (0, [.int 0, .int 0, .int 0, .ref q72, .ref q74, .ref q76, .ref q78, .ref q80, .ref q82, .ref q84, .int 0, .int 0])), (q72, .inl (c73, 6, .inl (fun _ => 0))), (q74, .inl (c75, 20, .inl (fun _ => 0))), (q76, .inl (c77, 20, .inl (fun _ => 0))), (q78, .inl (c79, 20, .inl (fun _ => 0))), (q80, .inl (c81, 20, .inl (fun _ => 0))), (q82, .inl (c83, 6, .inl (fun _ => 0))), (q84, .inl (c85, 6, .inr (.inl (fun _ => 0)))), (q86, .inr (4, [.ref q87, .int (-1 : Int32), .ref q89, .int 0, .int (-1 : Int32), .int (-1 : Int32), .int 0])), (q87, .inl (c88, 8, .inl (fun _ => 0))), (q89, .inl (c90, 8, .inl (fun _ => 0))), (q91, .inl (c91, 8, .inl (fun _ => 0)))] t.heap ∧ va_K (dC, dI) vwCl [(c3, .int), (c5, .int), (c7, .boolean), (c9, .boolean), (c11, .int), (c13, .int), (c15, .int), (c17, .int), (c19, .int), (c22, .int), (c24, .boolean), (c26, .boolean), (c29, .int), (c31, .int), (c33, .int), (c37, .boolean), (c39, .int), (c41, .long), (c43, .long), (c45, .long), (c47, .long), (c49, .boolean), (c51, .int), (c53, .long), (c55, .long), (c58, .int), (c60, .int), (c62, .int), (c64, .int), (c66, .int), (c68, .long), (c70, .long), (c73, .int), (c75, .int), (c77, .int), (c79, .boolean), (c81, .int), (c83, .int), (c85, .long), (c88, .int), (c90, .int), (c91, .int)] t ∧ va_D (va_A [(h0, .inr (8, [.null, .null, .null, .null, .null, .null, .null, .null]))] sz) [(h0, .inr (8, [.ref q1, .ref q20, .ref q27, .ref q34, .ref q56, .ref q71, .ref q86, .ref q91])), (q1, .inr (1, [.ref q2, .ref q4, .ref q6, .ref q8, .ref q10, .ref q12, .ref q14, .ref q16, .ref q18, .int 0, .int (-1 : Int32), .int (1 : Int32), .int 0])), (q2, .inl (c3, 4, .inl (upd (upd (upd (upd (fun _ => 0) 0 (0 : Int32)) 1 (0 : Int32)) 2 (0 : Int32)) 3 (50 : Int32)))), (q4, .inl (c5, 4, .inl (upd (upd (upd (upd (fun _ => 0) 0 (1000 : Int32)) 1 (1000 : Int32)) 2 (1000 : Int32)) 3 (1000 : Int32)))), (q6, .inl (c7, 48, .inl (fun _ => 0))), (q8, .inl (c9, 48, .inl (fun _ => 0))), (q10, .inl (c11, 48, .inl (fun _ => 0))), (q12, .inl (c13, 192, .inl (fun _ => 0))), (q14, .inl (c15, 48, .inl (fun _ => 0))), (q16, .inl (c17, 48, .inl (fun _ => 0))), (q18, .inl (c19, 48, .inl (fun _ => 0))), (q20, .inr (5, [.ref q21, .ref q23, .ref q25])), (q23, .inl (c24, 48, .inl (fun _ => 0))), (q25, .inl (c26, 6, .inl (fun _ => 0))), (q21, .inl (c22, 288, .inl (flF 288 (-9 : Int32)))), (q27, .inr (2, [.ref q28, .int (1 : Int32), .int 0, .ref q30, .ref q32, .int 0, .int 0, .int 0, .int 0])), (q28, .inl (c29, 80, .inl (upd (fun _ => 0) 0 (-113 : Int32)))), (q30, .inl (c31, 80, .inl (fun _ => 0))), (q32, .inl (c33, 80, .inl (fun _ => 0))), (q34, .inr (6, [.ref q35, .ref q36, .ref q38, .ref q40, .ref q42, .ref q44, .ref q46, .ref q48, .ref q50, .int 0, .ref q52, .ref q54, .int 0, .long 0, .long 0, .long 0, .long 0, .int 0, .long 0, .long 0])), (q35, .inr (3, [.long 0, .long (1 : Int64), .int 0])), (q36, .inl (c37, 8, .inl (fun _ => 0))), (q38, .inl (c39, 8, .inl (fun _ => 0))), (q40, .inl (c41, 8, .inr (.inl (fun _ => 0)))), (q42, .inl (c43, 8, .inr (.inl (fun _ => 0)))), (q44, .inl (c45, 8, .inr (.inl (fun _ => 0)))), (q46, .inl (c47, 8, .inr (.inl (fun _ => 0)))), (q48, .inl (c49, 8, .inl (fun _ => 0))), (q50, .inl (c51, 8, .inl (fun _ => 0))), (q52, .inl (c53, 80, .inr (.inl (fun _ => 0)))), (q54, .inl (c55, 80, .inr (.inl (fun _ => 0)))), (q56, .inr (7, [.ref q57, .ref q59, .int 0, .int 0, .ref q61, .ref q63, .ref q65, .ref q67, .ref q69])), (q59, .inl (c60, 6, .inl (fun _ => 0))), (q61, .inl (c62, 56, .inl (fun _ => 0))), (q63, .inl (c64, 48, .inl (fun _ => 0))), (q65, .inl (c66, 48, .inl (fun _ => 0))), (q67, .inl (c68, 64, .inr (.inl (fun _ => 0)))), (q69, .inl (c70, 64, .inr (.inl (fun _ => 0)))), (q57, .inl (c58, 8, .inl (flF 8 (6 : Int32)))), (q71, .inr (0, [.int 0, .int 0, .int 0, .ref q72, .ref q74, .ref q76, .ref q78, .ref q80, .ref q82, .ref q84, .int 0, .int 0])), (q72, .inl (c73, 6, .inl (fun _ => 0))), (q74, .inl (c75, 20, .inl (fun _ => 0))), (q76, .inl (c77, 20, .inl (fun _ => 0))), (q78, .inl (c79, 20, .inl (fun _ => 0))), (q80, .inl (c81, 20, .inl (fun _ => 0))), (q82, .inl (c83, 6, .inl (fun _ => 0))), (q84, .inl (c85, 6, .inr (.inl (fun _ => 0)))), (q86, .inr (4, [.ref q87, .int (-1 : Int32), .ref q89, .int 0, .int (-1 : Int32), .int (-1 : Int32), .int 0])), (q87, .inl (c88, 8, .inl (fun _ => 0))), (q89, .inl (c90, 8, .inl (fun _ => 0))), (q91, .inl (c91, 8, .inl (fun _ => 0)))]) (hF : ∀ q, va_A [(h0, .inr (8, [.null, .null, .null, .null, .null, .null, .null, .null]))] sz q → A q) (dz : Nat) : ∃ ev : EV, ev.1 = (dC, dI) ∧ ev.2.1 0 = h0 ∧ ev.2.2.2 = dz ∧ va_P ev.1 vwCl (wB ev uB0) t.heap ∧ va_D A (wB ev uB0) ∧ va_K ev.1 vwCl (tylB ev) t :=
  Exists.elim hB fun _ h => Exists.elim h fun _ h => Exists.elim h fun _ h => Exists.elim h fun _ h => Exists.elim h fun _ h => Exists.elim h fun _ h => Exists.elim h fun _ h => Exists.elim h fun _ h => Exists.elim h fun _ h => Exists.elim h fun _ h => Exists.elim h fun _ h => Exists.elim h fun _ h => Exists.elim h fun _ h => Exists.elim h fun _ h => Exists.elim h fun _ h => Exists.elim h fun _ h => Exists.elim h fun _ h => Exists.elim h fun _ h => Exists.elim h fun _ h => Exists.elim h fun _ h => Exists.elim h fun _ h => Exists.elim h fun _ h => Exists.elim h fun _ h => Exists.elim h fun _ h => Exists.elim h fun _ h => Exists.elim h fun _ h => Exists.elim h fun _ h => Exists.elim h fun _ h => Exists.elim h fun _ h => Exists.elim h fun _ h => Exists.elim h fun _ h => Exists.elim h fun _ h => Exists.elim h fun _ h => Exists.elim h fun _ h => Exists.elim h fun _ h => Exists.elim h fun _ h => Exists.elim h fun _ h => Exists.elim h fun _ h => Exists.elim h fun _ h => Exists.elim h fun _ h => Exists.elim h fun _ h => Exists.elim h fun _ h => Exists.elim h fun _ h => Exists.elim h fun _ h => Exists.elim h fun _ h => Exists.elim h fun _ h => Exists.elim h fun _ h => Exists.elim h fun _ h => Exists.elim h fun _ h => Exists.elim h fun _ h => Exists.elim h fun _ h => Exists.elim h fun _ h => Exists.elim h fun _ h => Exists.elim h fun _ h => Exists.elim h fun _ h => Exists.elim h fun _ h => Exists.elim h fun _ h => Exists.elim h fun _ h => Exists.elim h fun _ h => Exists.elim h fun _ h => Exists.elim h fun _ h => Exists.elim h fun _ h => Exists.elim h fun _ h => Exists.elim h fun _ h => Exists.elim h fun _ h => Exists.elim h fun _ h => Exists.elim h fun _ h => Exists.elim h fun _ h => Exists.elim h fun _ h => Exists.elim h fun _ h => Exists.elim h fun _ h => Exists.elim h fun _ h => Exists.elim h fun _ h => Exists.elim h fun _ h => Exists.elim h fun _ h => Exists.elim h fun _ h => Exists.elim h fun _ h => Exists.elim h fun _ h => Exists.elim h fun _ h => Exists.elim h fun _ h => Exists.elim h fun _ h => Exists.elim h fun _ h => Exists.elim h fun _ h => Exists.elim h fun _ h => Exists.elim h fun _ h => Exists.elim h fun _ h => Exists.elim h fun _ h => Exists.elim h fun _ h => Exists.elim h fun _ h => Exists.elim h fun _ h => Exists.elim h fun _ h => Exists.elim h fun _ h => toB h.1 (h.2.2.weaken (fun _ q _ z => hF q.1 z)) h.2.1 dz
set_option maxHeartbeats 4000000 in
set_option maxRecDepth 100000 in
theorem law_start {Rel : Nat → SS → SS → Prop} (hst : LawSteps 5120 Rel) (hR0 : Rel 0 uB0 uM0) {p : Program} {e : Env} {s : State} {m : MethodId} {below : List Frame} {meth : Method} {c : Code} (l : Launch) {b L : Nat} {xs : Nat → Int32} (hL : L ≤ 5120) (C0 : lw_At p s m meth c b L xs) : W p l e room_1 s m #[Value.ref b] below meth c s.heap [] 0 0 (lw_Z below #[Value.ref b] s) (entryFrame m ([Value.ref b] : List Value).toArray 4) := by
  obtain ⟨hx, hb, hr, hml, hown, hts0, hX, hbl, hlocks, hgv⟩ := id C0
  have hts : ∀ w ∈ lw_g, w.before #[Value.ref b] s = true := fun w h => hts0 w (List.mem_filter.mp h).1
  have hA : ∀ q : Nat, s.heap.size ≤ q → Al s q := fun _ h => h
  obtain ⟨c0, iS0, hKn0⟩ := u_known (C := RX0) (T := TX0) (N := 12) (n := 12) hts inX0 (hts _ inst_X0)
  obtain ⟨c1, iS1, hKn1⟩ := u_known (C := RX1) (T := TX1) (N := 13) (n := 13) hts inX1 (hts _ inst_X1)
  obtain ⟨c2, iS2, hKn2⟩ := u_known (C := RX2) (T := TX2) (N := 9) (n := 9) hts inX2 (hts _ inst_X2)
  obtain ⟨c3, iS3, hKn3⟩ := u_known (C := RX3) (T := TX3) (N := 3) (n := 3) hts inX3 (hts _ inst_X3)
  obtain ⟨c4, iS4, hKn4⟩ := u_known (C := RX4) (T := TX4) (N := 7) (n := 7) hts inX4 (hts _ inst_X4)
  obtain ⟨c5, iS5, hKn5⟩ := u_known (C := RX5) (T := TX5) (N := 3) (n := 3) hts inX5 (hts _ inst_X5)
  obtain ⟨c6, iS6, hKn6⟩ := u_known (C := RX7) (T := TX7) (N := 20) (n := 20) hts inX7 (hts _ inst_X7)
  obtain ⟨c7, iS7, hKn7⟩ := u_known (C := RX8) (T := TX8) (N := 9) (n := 9) hts inX8 (hts _ inst_X8)
  obtain ⟨c8, iS8, hKn8⟩ := u_known (C := RX9) (T := TX9) (N := 8) (n := 8) hts inX9 (hts _ inst_X9)
  obtain ⟨c9, iS9, hKn9⟩ := u_known (C := RX10) (T := TX10) (N := 71) (n := 71) hts inX10 (hts _ inst_X10)
  obtain ⟨dC, dI, hKc⟩ : ∃ (dC : Nat → ClassId) (dI : Nat → Nat → Nat), ∀ (k : Nat) (q : vw_C), vwCl[k]? = some q → u_Kn s q.1 q.2.1 q.2.2 (dC k) (dI k) := by
    refine ⟨fun k => match k with | 0 => c0 | 1 => c1 | 2 => c2 | 3 => c3 | 4 => c4 | 5 => c5 | 6 => c6 | 7 => c7 | 8 => c8 | 9 => c9 | _ => c0, fun k => match k with | 0 => iS0 | 1 => iS1 | 2 => iS2 | 3 => iS3 | 4 => iS4 | 5 => iS5 | 6 => iS6 | 7 => iS7 | 8 => iS8 | 9 => iS9 | _ => iS0, ?_⟩
    intro k q hq
    match k, hq with
    | 0, hq => cases hq; exact hKn0
    | 1, hq => cases hq; exact hKn1
    | 2, hq => cases hq; exact hKn2
    | 3, hq => cases hq; exact hKn3
    | 4, hq => cases hq; exact hKn4
    | 5, hq => cases hq; exact hKn5
    | 6, hq => cases hq; exact hKn6
    | 7, hq => cases hq; exact hKn7
    | 8, hq => cases hq; exact hKn8
    | 9, hq => cases hq; exact hKn9
    | k + 10, hq => simp [vwCl] at hq
  have hK : va_K (dC, dI) vwCl [] s := ⟨hKc, fun k q h => by simp at h⟩
  have hP : va_P (dC, dI) vwCl [] s.heap := fun k q h => by simp at h
  have hD : va_D (Al s) [] := ⟨fun i j p q h => by simp at h, fun k q h => by simp at h⟩
  have hS : va_S (Al s) s.heap s.heap [] := va_S.rf
  have hN : nst s := fun q hq => va_Nw.of rfl (hts0 _ (nestI_in q hq))
  have hNL : ∀ q ∈ nestL, va_Nw (.methodLinkNest q.1 q.2 yX9_cell "BidsJudged") s := fun q hq => va_Nw.of rfl (hts0 _ (nestL_in q hq))
  have hg := flat_of_before _ hgv
  obtain ⟨dz, hdz, hT⟩ := va_Tof (args := #[Value.ref b]) (s := s) (A := Al s) (tm := .static "BidsJudged$Whole" "DIGITS" "[I") (ty := .int) (N := 6) (f := dig) (by decide) (hg (Cond.arrayOf (.static "BidsJudged$Whole" "DIGITS" "[I") .int) (by decide +kernel)) (va_eqt (z := 6) (hg (Cond.eq (.length (.static "BidsJudged$Whole" "DIGITS" "[I")) (.int 6)) (by decide +kernel))) (fun j hj => match j, hj with
    | 0, _ => va_eqt (z := 59049) (hg (Cond.eq (.elem (.static "BidsJudged$Whole" "DIGITS" "[I") (.int 0)) (.int 59049)) (by decide +kernel))
    | 1, _ => va_eqt (z := 6561) (hg (Cond.eq (.elem (.static "BidsJudged$Whole" "DIGITS" "[I") (.int 1)) (.int 6561)) (by decide +kernel))
    | 2, _ => va_eqt (z := 729) (hg (Cond.eq (.elem (.static "BidsJudged$Whole" "DIGITS" "[I") (.int 2)) (.int 729)) (by decide +kernel))
    | 3, _ => va_eqt (z := 81) (hg (Cond.eq (.elem (.static "BidsJudged$Whole" "DIGITS" "[I") (.int 3)) (.int 81)) (by decide +kernel))
    | 4, _ => va_eqt (z := 9) (hg (Cond.eq (.elem (.static "BidsJudged$Whole" "DIGITS" "[I") (.int 4)) (.int 9)) (by decide +kernel))
    | 5, _ => va_eqt (z := 1) (hg (Cond.eq (.elem (.static "BidsJudged$Whole" "DIGITS" "[I") (.int 5)) (.int 1)) (by decide +kernel))) (fun a h => Nat.not_le.mpr h)
  have hZs : va_Z "BidsJudged$Whole" "DIGITS" "[I" (.ref dz) (Al s) s s.heap := va_Zref (args := #[Value.ref b]) (hts0 _ lays_D) (hts _ ini_X8) hdz (fun a h => Nat.not_le.mpr h)
  have hl := lv_entry ([.ref b]) (n := 4) (Nat.le_of_ble_eq_true rfl)
  rw [lg_entry_eq]
  generalize (lg_sl ([.ref b]) ++ List.replicate (4 - (lg_sl ([.ref b])).length) Slot.unset).toArray = ls at hl ⊢
  have hl : lv_has ls 4 [(0, .ref b)] := hl
  refine va_new (D := (dC, dI)) (cl := vwCl) (tys := []) (ws := []) (ci := 8) (fs := [.null, .null, .null, .null, .null, .null, .null, .null]) (C := RX9) (T := TX9) (N := 8) hx hb hts inX9 tyX9 tyX9_ok hown (hts _ cl_L_7) (hts _ inst_X9) (hts _ ini_X9) hK hP hD hS hA rfl df_X9 (Nat.le_of_ble_eq_true rfl) (Nat.le_of_ble_eq_true rfl) dL_law_0 (fun q0 H hP hD hS => ?_)
  have hP : va_P (dC, dI) vwCl [(q0, .inr (8, [.null, .null, .null, .null, .null, .null, .null, .null]))] H := hP
  have hD : va_D (Al s) [(q0, .inr (8, [.null, .null, .null, .null, .null, .null, .null, .null]))] := hD
  refine lv_dup hx hb dL_law_3 rfl ?_
  have hPc := hP.sub (ws' := [(q0, .inr (8, [.null, .null, .null, .null, .null, .null, .null, .null]))]) [0] rfl
  have hDc := hD.sub (ws' := [(q0, .inr (8, [.null, .null, .null, .null, .null, .null, .null, .null]))]) [0] (by decide) rfl
  have hFc := va_free (wc := [(q0, .inr (8, [.null, .null, .null, .null, .null, .null, .null, .null]))]) hD hS hA [0] rfl
  refine va_callv (va_runI (As := []) (rest := [.ref q0]) ⟨hx, hb, hml, hown, hts⟩ (k_X9_init l dC dI q0 H.size) (cwI 0 hts (good_1 cd_X9_init good_g) rfl rfl rfl (hts _ ini_X9) (hts _ ml_L_9) (hts _ im_X9_init) rfl (by decide +kernel) ⟨Nat.le_of_ble_eq_true rfl, Nat.le_of_ble_eq_true rfl⟩) ⟨fun a U g mk q => by obtain ⟨g0, g1, gP, gK, gD, gN⟩ := q; exact ⟨g0, g1, gP, va_K.moved (u := U) (U := U.calling g mk a) (Vm.Alike.refl U.vm) gK, gD, nst.same rfl gN⟩, fun U hU hW => ⟨rfl, by rw [hU], by rw [hU]; exact hPc, va_K.moved hW.alike hK, hDc.weaken (fun _ _ _ _ => trivial), nst.warm hW hN⟩⟩ rfl rfl hl.1 rfl (lv_room (Nat.le_of_ble_eq_true rfl)) dL_law_4 ⟨Nat.le_of_ble_eq_true rfl, Nat.le_of_ble_eq_true rfl⟩) hS (fun q _ h => hFc q h) hFc (fun u t H1 locs ht hvm hw hB hz1 hk1 hS => ?_)
  obtain ⟨evB, eB1, eB2, eB3, hPB, hDB, hKB⟩ := q9B hB hFc dz
  rw [ht] at hPB
  have hKB := va_K.moved hvm.symm hKB
  rw [eB1] at hPB hKB
  clear hB hPc hDc hFc hP hD hk1
  generalize H1 = H at hPB hS ⊢
  refine lv_astore_n (lv' := [(1, .ref q0), (0, .ref b)]) hx hb dL_law_7 rfl hl (by decide) rfl (fun ls hl => ?_)
  refine va_new (D := (dC, dI)) (cl := vwCl) (tys := []) (ws := wB evB uB0) (ci := 9) (fs := [.int 0, .int 0, .null, .int 0, .null, .null, .null, .null, .null, .null, .null, .null, .null, .null, .int 0, .null, .int 0, .int 0, .null, .int 0, .null, .int 0, .null, .null, .null, .null, .int 0, .null, .int 0, .int 0, .int 0, .int 0, .int 0, .int 0, .long 0, .long 0, .null, .int 0, .null, .null, .int 0, .null, .int 0, .int 0, .null, .null, .null, .null, .null, .int 0, .int 0, .int 0, .int 0, .int 0, .int 0, .null, .null, .null, .int 0, .null, .null, .null, .null, .null, .int 0, .null, .null, .int 0, .int 0, .int 0, .int 0]) (C := RX10) (T := TX10) (N := 71) hx hb hts inX10 tyX10 tyX10_ok hown (hts _ cl_L_10) (hts _ inst_X10) (hts _ ini_X10) hK hPB hDB hS hA rfl df_X10 (Nat.le_of_ble_eq_true rfl) (Nat.le_of_ble_eq_true rfl) dL_law_8 (fun q1 H hP hD hS => ?_)
  refine lv_dup hx hb dL_law_11 rfl ?_
  have hPc := va_P_r hP
  have hDc := va_D_r hD
  have hFc := va_free1 hD hS hA
  refine va_callv (va_runI (As := []) (rest := [.ref q1]) ⟨hx, hb, hml, hown, hts⟩ (k_X10_init l dC dI q1 H.size) (cwI 0 hts (good_1 cd_X10_init good_g) rfl rfl rfl (hts _ ini_X10) (hts _ ml_L_12) (hts _ im_X10_init) rfl (by decide +kernel) ⟨Nat.le_of_ble_eq_true rfl, Nat.le_of_ble_eq_true rfl⟩) ⟨fun a U g mk q => by obtain ⟨g0, g1, gP, gK, gD, gN⟩ := q; exact ⟨g0, g1, gP, va_K.moved (u := U) (U := U.calling g mk a) (Vm.Alike.refl U.vm) gK, gD, nst.same rfl gN⟩, fun U hU hW => ⟨rfl, by rw [hU], by rw [hU]; exact hPc, va_K.moved hW.alike hK, hDc.weaken (fun _ _ _ _ => trivial), nst.warm hW hN⟩⟩ rfl rfl hl.1 rfl (lv_room (Nat.le_of_ble_eq_true rfl)) dL_law_12 ⟨Nat.le_of_ble_eq_true rfl, Nat.le_of_ble_eq_true rfl⟩) hS (fun q _ h => hFc q h) hFc (fun u t H1 locs ht hvm hw hB hz1 hk1 hS => ?_)
  obtain ⟨evM, eM1, eM2, hP1, hK1, hD1⟩ := hB
  rw [ht, eM1] at hP1
  have hKM := va_K.moved hvm.symm hK1
  rw [eM1] at hKM
  obtain ⟨hP, hD⟩ := va_join1 (wr := wB evB uB0) (w1 := wM evM uM0) hP hD hk1 hFc hP1 hD1
  clear hP1 hK1 hD1 hPc hDc hFc hk1 hPB
  generalize H1 = H at hP hS ⊢
  have hPB : va_P (dC, dI) vwCl (wB evB uB0) H := va_P_l hP
  have hPM : va_P (dC, dI) vwCl (wM evM uM0) H := va_P_r hP
  have hDM : va_D (Al s) (wM evM uM0) := va_D_r hD
  have hap : ∀ i j, i < 51 → j < 39 → evB.2.1 i ≠ evM.2.1 j := by
    intro i j hi hj e
    obtain ⟨a, x, ha, hxa⟩ := adB2 evB uB0 i hi
    obtain ⟨a2, y, ha2, hya⟩ := adM2 evM uM0 j hj
    have hlt : a < 51 := (List.getElem?_eq_some_iff.mp ha).1
    have h1 : (wB evB uB0 ++ wM evM uM0)[a]? = some x := by rw [List.getElem?_append_left (show a < (wB evB uB0).length from hlt)]; exact ha
    have h2 : (wB evB uB0 ++ wM evM uM0)[51 + a2]? = some y := by
      rw [List.getElem?_append_right (show (wB evB uB0).length ≤ 51 + a2 from Nat.le_add_right 51 a2)]
      show (wM evM uM0)[51 + a2 - 51]? = some y
      rw [Nat.add_sub_cancel_left]; exact ha2
    have h3 := hD.1 a (51 + a2) x y h1 h2 (by rw [hxa, hya, e])
    omega
  refine lv_astore_n (lv' := [(2, .ref q1), (1, .ref q0), (0, .ref b)]) hx hb dL_law_15 rfl hl (by decide) rfl (fun ls hl => ?_)
  refine lv_iconst (v := 0) hx hb dL_law_16 (by decide) ?_
  refine lv_istore_n (lv' := [(3, .int 0), (2, .ref q1), (1, .ref q0), (0, .ref b)]) hx hb dL_law_17 rfl hl (by decide) rfl (fun ls hl => ?_)
  have hCB : LC wdB evB (dC, dI) s := ⟨eB1, hKB, ⟨by rw [eB3]; exact hZs, by rw [eB3]; exact hT, hNL⟩, fun u => va_D_adr (ws := wB evB uB0) rfl hDB, fun j hj => by
    obtain ⟨i, x, hi, e⟩ := adB2 evB uB0 j hj
    rw [← e]; exact hDB.2 i x hi⟩
  have hCM : LC wdM evM (dC, dI) s := ⟨eM1, hKM, trivial, fun u => va_D_adr (ws := wM evM uM0) rfl hDM, fun j hj => by
    obtain ⟨i, x, hi, e⟩ := adM2 evM uM0 j hj
    rw [← e]; exact hDM.2 i x hi⟩
  have hl : lv_has ls 4 [(0, .ref b), (1, .ref (evB.2.1 0)), (2, .ref (evM.2.1 0)), (3, .int 0)] := by
    rw [eB2, eM2]
    exact lv_sub hl [3, 2, 1, 0] rfl
  exact law_loop hL C0 hst hCB hCM hap (Nat.le_of_ble_eq_true rfl) (Nat.le_of_ble_eq_true rfl) (L / 10 + 1) 0 0 uB0 uM0 H locs ls (by omega) (by omega) rfl hPB hPM hS hR0 hl
