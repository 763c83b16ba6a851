section ST11
variable {k : Nat} {u v w x : SS}
/-- fractions of the reference; a text that it reads to its end -/
def QE (t d : Int64) : Prop := (-1000000000 ≤ t.toInt ∧ t.toInt ≤ 1000000000) ∧ 1 ≤ d.toInt ∧ d.toInt ≤ 1000000000
def NMI (w : SS) : Prop := ∀ j : Nat, j < 7 → QE (gL w 0 j) (gL w 1 j)
def GDT (b : Nat → Int32) (m : Nat) : Prop := ∀ w : SS, NMI w → (∀ j : Nat, j < m → gA w 13 j = b j) → ∃ y : SS, f_X10_workText_14 (nI m) w = some y ∧ gI y 12 = 0 ∧ QE (gL y 2 0) (gL y 3 0)
/-- the relation when formula, award and found whole aren't held against each other -/
def RT (k : Nat) (u v : SS) : Prop := RR (fun _ _ b m => GDT b m) (fun _ _ _ _ _ _ => True) (fun _ _ => True) k u v
def kBI (i : Nat) : Prop := i < 3 ∨ i = 4 ∨ i = 5 ∨ (15 ≤ i ∧ i ≤ 24)
def kBA (a : Nat) : Prop := (1 ≤ a ∧ a ≤ 11) ∨ a = 13 ∨ a = 14 ∨ a = 20 ∨ a = 22 ∨ (26 ≤ a ∧ a ≤ 29) ∨ a = 31 ∨ a = 32
def kMI (i : Nat) : Prop := i < 3 ∨ i = 6 ∨ i = 7 ∨ (22 ≤ i ∧ i ≤ 30)
def kMA (a : Nat) : Prop := a < 11 ∨ a = 12 ∨ a = 13 ∨ a = 16 ∨ a = 17 ∨ (27 ≤ a ∧ a ≤ 29) ∨ a = 32 ∨ a = 33
/-- the class's state but for what it works in -/
def FrB (u w : SS) : Prop := (∀ i : Nat, kBI i → gI w i = gI u i) ∧ ∀ a : Nat, kBA a → gA w a = gA u a
def FrM (u w : SS) : Prop := (∀ i : Nat, kMI i → gI w i = gI u i) ∧ ∀ a : Nat, kMA a → gA w a = gA u a
theorem FrB_r (u : SS) : FrB u u := ⟨fun _ _ => rfl, fun _ _ => rfl⟩
theorem FrM_r (u : SS) : FrM u u := ⟨fun _ _ => rfl, fun _ _ => rfl⟩
theorem FrB_t (h : FrB u w) (h2 : FrB w x) : FrB u x := ⟨fun i hi => (h2.1 i hi).trans (h.1 i hi), fun i hi => (h2.2 i hi).trans (h.2 i hi)⟩
theorem FrM_t (h : FrM u w) (h2 : FrM w x) : FrM u x := ⟨fun i hi => (h2.1 i hi).trans (h.1 i hi), fun i hi => (h2.2 i hi).trans (h.2 i hi)⟩
theorem FrB_I {i : Nat} {y : Int32} (hi : ¬ kBI i) (h : FrB u w) : FrB u (sI w i y) := ⟨fun j hj => by rw [sIn (fun z => hi (by rw [← z]; exact hj))]; exact h.1 j hj, h.2⟩
theorem FrB_A {a : Nat} {i y : Int32} (ha : ¬ kBA a) (h : FrB u w) : FrB u (tA w a i y) := ⟨h.1, fun b hb => by rw [tAn (fun z => ha (by rw [← z]; exact hb))]; exact h.2 b hb⟩
theorem FrB_Z {a : Nat} {i y : Int32} (ha : ¬ kBA a) (h : FrB u w) : FrB u (tZ w a i y) := ⟨h.1, fun b hb => by rw [tZn (fun z => ha (by rw [← z]; exact hb))]; exact h.2 b hb⟩
theorem FrB_J {i : Nat} {y : Int64} (h : FrB u w) : FrB u (sJ w i y) := ⟨h.1, h.2⟩
theorem FrB_L {a : Nat} {i : Int32} {y : Int64} (h : FrB u w) : FrB u (tL w a i y) := ⟨h.1, h.2⟩
theorem FrM_I {i : Nat} {y : Int32} (hi : ¬ kMI i) (h : FrM u w) : FrM u (sI w i y) := ⟨fun j hj => by rw [sIn (fun z => hi (by rw [← z]; exact hj))]; exact h.1 j hj, h.2⟩
theorem FrM_A {a : Nat} {i y : Int32} (ha : ¬ kMA a) (h : FrM u w) : FrM u (tA w a i y) := ⟨h.1, fun b hb => by rw [tAn (fun z => ha (by rw [← z]; exact hb))]; exact h.2 b hb⟩
theorem FrM_Z {a : Nat} {i y : Int32} (ha : ¬ kMA a) (h : FrM u w) : FrM u (tZ w a i y) := ⟨h.1, fun b hb => by rw [tZn (fun z => ha (by rw [← z]; exact hb))]; exact h.2 b hb⟩
theorem FrM_J {i : Nat} {y : Int64} (h : FrM u w) : FrM u (sJ w i y) := ⟨h.1, h.2⟩
theorem FrM_L {a : Nat} {i : Int32} {y : Int64} (h : FrM u w) : FrM u (tL w a i y) := ⟨h.1, h.2⟩
theorem RT_f {k2 : Nat} {u2 v2 : SS} (hk : k ≤ k2) (h : RT k u v) (fb : FrB u u2) (fm : FrM v v2) (r14 : ∀ l : Nat, l < 6 → nob (gA v2 18 l)) (r15 : ∀ l : Nat, l < 6 → nob (gA v2 24 l)) (r16 : bo (gI v2 16)) (r17 : Opn u → gI v2 16 = 0) : RT k2 u2 v2 := by
  obtain ⟨h1, h2, h3, h4, h5, h6, h7, h8, h9, h10, h11, h12, h13, h14⟩ := h
  have I0 := fb.1 0 (by unfold kBI; omega)
  have I1 := fb.1 1 (by unfold kBI; omega)
  have I2 := fb.1 2 (by unfold kBI; omega)
  have I4 := fb.1 4 (by unfold kBI; omega)
  have I5 := fb.1 5 (by unfold kBI; omega)
  have I15 := fb.1 15 (by unfold kBI; omega)
  have I16 := fb.1 16 (by unfold kBI; omega)
  have I17 := fb.1 17 (by unfold kBI; omega)
  have I18 := fb.1 18 (by unfold kBI; omega)
  have I19 := fb.1 19 (by unfold kBI; omega)
  have I20 := fb.1 20 (by unfold kBI; omega)
  have I21 := fb.1 21 (by unfold kBI; omega)
  have I22 := fb.1 22 (by unfold kBI; omega)
  have I23 := fb.1 23 (by unfold kBI; omega)
  have I24 := fb.1 24 (by unfold kBI; omega)
  have A1 := fb.2 1 (by unfold kBA; omega)
  have A2 := fb.2 2 (by unfold kBA; omega)
  have A3 := fb.2 3 (by unfold kBA; omega)
  have A4 := fb.2 4 (by unfold kBA; omega)
  have A5 := fb.2 5 (by unfold kBA; omega)
  have A6 := fb.2 6 (by unfold kBA; omega)
  have A7 := fb.2 7 (by unfold kBA; omega)
  have A8 := fb.2 8 (by unfold kBA; omega)
  have A9 := fb.2 9 (by unfold kBA; omega)
  have A10 := fb.2 10 (by unfold kBA; omega)
  have A11 := fb.2 11 (by unfold kBA; omega)
  have A13 := fb.2 13 (by unfold kBA; omega)
  have A14 := fb.2 14 (by unfold kBA; omega)
  have A20 := fb.2 20 (by unfold kBA; omega)
  have A22 := fb.2 22 (by unfold kBA; omega)
  have A26 := fb.2 26 (by unfold kBA; omega)
  have A27 := fb.2 27 (by unfold kBA; omega)
  have A28 := fb.2 28 (by unfold kBA; omega)
  have A29 := fb.2 29 (by unfold kBA; omega)
  have A31 := fb.2 31 (by unfold kBA; omega)
  have A32 := fb.2 32 (by unfold kBA; omega)
  have J0 := fm.1 0 (by unfold kMI; omega)
  have J1 := fm.1 1 (by unfold kMI; omega)
  have J2 := fm.1 2 (by unfold kMI; omega)
  have J6 := fm.1 6 (by unfold kMI; omega)
  have J7 := fm.1 7 (by unfold kMI; omega)
  have J22 := fm.1 22 (by unfold kMI; omega)
  have J23 := fm.1 23 (by unfold kMI; omega)
  have J24 := fm.1 24 (by unfold kMI; omega)
  have J25 := fm.1 25 (by unfold kMI; omega)
  have J26 := fm.1 26 (by unfold kMI; omega)
  have J27 := fm.1 27 (by unfold kMI; omega)
  have J28 := fm.1 28 (by unfold kMI; omega)
  have J29 := fm.1 29 (by unfold kMI; omega)
  have J30 := fm.1 30 (by unfold kMI; omega)
  have B0 := fm.2 0 (by unfold kMA; omega)
  have B1 := fm.2 1 (by unfold kMA; omega)
  have B2 := fm.2 2 (by unfold kMA; omega)
  have B3 := fm.2 3 (by unfold kMA; omega)
  have B4 := fm.2 4 (by unfold kMA; omega)
  have B5 := fm.2 5 (by unfold kMA; omega)
  have B6 := fm.2 6 (by unfold kMA; omega)
  have B7 := fm.2 7 (by unfold kMA; omega)
  have B8 := fm.2 8 (by unfold kMA; omega)
  have B9 := fm.2 9 (by unfold kMA; omega)
  have B10 := fm.2 10 (by unfold kMA; omega)
  have B12 := fm.2 12 (by unfold kMA; omega)
  have B13 := fm.2 13 (by unfold kMA; omega)
  have B16 := fm.2 16 (by unfold kMA; omega)
  have B17 := fm.2 17 (by unfold kMA; omega)
  have B27 := fm.2 27 (by unfold kMA; omega)
  have B28 := fm.2 28 (by unfold kMA; omega)
  have B29 := fm.2 29 (by unfold kMA; omega)
  have B32 := fm.2 32 (by unfold kMA; omega)
  have B33 := fm.2 33 (by unfold kMA; omega)
  have hop : Opn u2 ↔ Opn u := by unfold Opn; rw [I0, I1]
  refine ⟨?_, ?_, ?_, ?_, ?_, ?_, ?_, ?_, ?_, ?_, ?_, ?_, ?_, r14, r15, r16, fun z => r17 (hop.mp z), trivial, fun _ => trivial⟩
  · unfold Rtm; rw [I0, I1, I2, J0, J1, J2]; exact h1
  · unfold Rst; rw [A1, B8]; exact h2
  · unfold Rrt; rw [A2, B0]; exact h3
  · unfold Rbd; rw [A3, A6, A7, A8, A9, B1, B2, B3, B4, B5]; exact h4
  · unfold Rou; rw [A3, A4, B6]; exact fun b l hb hl => ⟨(h5 b l hb hl).1, (h5 b l hb hl).2.1, fun z => (h5 b l hb hl).2.2 (z.elim (fun z => Or.inl (hop.mp z)) Or.inr)⟩
  · unfold Ras; rw [A3, A5, B7]; exact h6
  · unfold Rno; rw [A10, B9]; exact h7
  · unfold Rba; rw [A11, B10]; exact h8
  · unfold Rtp; rw [I5, J6]; exact h9
  · unfold Rfo; rw [I4, A13, J7, B13]; exact h10
  · unfold Rmo; rw [A20, A22, B16, B17]; exact h11
  · obtain ⟨g0, g1, g2, g3, g4, g5, r, hr, g6⟩ := h12
    unfold Raw; rw [I0, I1, I15, I16, I17, I18, I19, A26, A27, A28, A29, J22, J23, J24, J25, B27, B28, B29]; exact ⟨g0, g1, g2, g3, g4, g5, r, Nat.le_trans hr hk, g6⟩
  · unfold Rfw; rw [I20, I21, I22, I23, I24, A31, A32, J26, J27, J28, J29, J30, B32, B33]; exact h13
theorem RT_b (h : RT k u v) (fb : FrB u w) : RT k w v := RT_f (Nat.le_refl _) h fb (FrM_r v) h.2.2.2.2.2.2.2.2.2.2.2.2.2.1 h.2.2.2.2.2.2.2.2.2.2.2.2.2.2.1 h.2.2.2.2.2.2.2.2.2.2.2.2.2.2.2.1 h.2.2.2.2.2.2.2.2.2.2.2.2.2.2.2.2.1
theorem RT_m (h : RT k u v) (fm : FrM v w) (r18 : gA w 18 = gA v 18) (r24 : gA w 24 = gA v 24) (r16 : gI w 16 = gI v 16) : RT k u w := RT_f (Nat.le_refl _) h (FrB_r u) fm (by rw [r18]; exact h.2.2.2.2.2.2.2.2.2.2.2.2.2.1) (by rw [r24]; exact h.2.2.2.2.2.2.2.2.2.2.2.2.2.2.1) (by rw [r16]; exact h.2.2.2.2.2.2.2.2.2.2.2.2.2.2.2.1) (by rw [r16]; exact h.2.2.2.2.2.2.2.2.2.2.2.2.2.2.2.2.1)
/-- both answer, each within its frame: that is a step -/
def MK (v w : SS) : Prop := FrM v w ∧ gA w 18 = gA v 18 ∧ gA w 24 = gA v 24 ∧ gI w 16 = gI v 16
theorem MK_r (v : SS) : MK v v := ⟨FrM_r v, rfl, rfl, rfl⟩
theorem MK_t (h : MK u w) (h2 : MK w x) : MK u x := ⟨FrM_t h.1 h2.1, h2.2.1.trans h.2.1, h2.2.2.1.trans h.2.2.1, h2.2.2.2.trans h.2.2.2⟩
theorem RT_mk (h : RT k u v) (m : MK v w) : RT k u w := RT_m h m.1 m.2.1 m.2.2.1 m.2.2.2
theorem RT_s (h : RT k u v) : RT (k + 1) u v := RR_k h
theorem qn_fr {α : Type} {x y : Option (α × SS)} (h : RT k u v) (hb : TO (fun p => FrB u p.2) x) (hm : TO (fun p => MK v p.2) y) : QN (RT (k + 1)) x y := by
  obtain ⟨⟨r, u2⟩, e, f⟩ := hb
  obtain ⟨⟨r2, v2⟩, e2, f2⟩ := hm
  exact ⟨r, u2, r2, v2, e, e2, RT_s (RT_mk (RT_b h f) f2), trivial⟩
theorem MK_I {i : Nat} {y : Int32} (hi : ¬ kMI i ∧ i ≠ 16) (h : MK u w) : MK u (sI w i y) := ⟨FrM_I hi.1 h.1, h.2.1, h.2.2.1, by rw [sIn (Ne.symm hi.2)]; exact h.2.2.2⟩
theorem MK_A {a : Nat} {i y : Int32} (ha : ¬ kMA a ∧ a ≠ 18 ∧ a ≠ 24) (h : MK u w) : MK u (tA w a i y) := ⟨FrM_A ha.1 h.1, by rw [tAn (Ne.symm ha.2.1)]; exact h.2.1, by rw [tAn (Ne.symm ha.2.2)]; exact h.2.2.1, h.2.2.2⟩
theorem MK_Z {a : Nat} {i y : Int32} (ha : ¬ kMA a ∧ a ≠ 18 ∧ a ≠ 24) (h : MK u w) : MK u (tZ w a i y) := ⟨FrM_Z ha.1 h.1, by rw [tZn (Ne.symm ha.2.1)]; exact h.2.1, by rw [tZn (Ne.symm ha.2.2)]; exact h.2.2.1, h.2.2.2⟩
theorem MK_J {i : Nat} {y : Int64} (h : MK u w) : MK u (sJ w i y) := ⟨FrM_J h.1, h.2.1, h.2.2.1, h.2.2.2⟩
theorem MK_L {a : Nat} {i : Int32} {y : Int64} (h : MK u w) : MK u (tL w a i y) := ⟨FrM_L h.1, h.2.1, h.2.2.1, h.2.2.2⟩
/-- refusals stay within the frames -/
theorem rfB_f {q : Int32} (hw : rwd q) (h : FrB u w) : TO (fun p : Int32 × SS => FrB u p.2) (f_X9_refuse q w) := by
  rw [rfB hw]; exact to_s (FrB_A (by unfold kBA; omega) h)
theorem rlB_f {q : Int32} (hw : rwd q) (h : FrB u w) : TO (fun p : Int64 × SS => FrB u p.2) (f_X9_refuseLong q w) := by
  rw [rlB hw]; exact to_s (FrB_A (by unfold kBA; omega) h)
theorem rfM_f {q : Int32} (hw : rwd q) (h : MK u w) : TO (fun p : Int32 × SS => MK u p.2) (f_X10_refuse q w) := by
  rw [rfM hw]; exact to_s (MK_A (by unfold kMA; omega) h)
theorem rlM_f {q : Int32} (hw : rwd q) (h : MK u w) : TO (fun p : Int64 × SS => MK u p.2) (f_X10_refuseFar q w) := by
  rw [rlM hw]; exact to_s (MK_A (by unfold kMA; omega) h)
end ST11
