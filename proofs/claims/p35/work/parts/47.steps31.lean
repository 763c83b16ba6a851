section ST31
variable {k n : Nat} {u v v2 w x y : SS}
theorem puL (a b : Int64) (u : SS) : TO (fun w => PF u w ∧ ∀ i : Nat, gL w i = gL u i) (f_X3_put a b u) := by
  unfold f_X3_put
  have h0 : PF u (sJ (sJ (sI u 25 1) 6 0) 7 1) ∧ ∀ i : Nat, gL (sJ (sJ (sI u 25 1) 6 0) 7 1) i = gL u i := ⟨⟨fun i hi => by rw [gI_sJ, gI_sJ, sIn hi], fun a => rfl⟩, fun _ => rfl⟩
  refine to_l (to_l (to_l (to_b (cpT _ _ _) (fun r w hw => ?_))))
  have hw : w = sJ (sJ (sI u 25 1) 6 0) 7 1 := hw
  subst hw
  refine to_c (fun _ => to_s h0) (fun _ => to_c (fun _ => to_s h0) (fun c => ?_))
  have c5 : ¬ r = 0 := fun z => c ((lg_cmp_eq _ _).mpr z)
  have L : ∀ q : Int64, TO (fun w => PF u w ∧ ∀ i : Nat, gL w i = gL u i) (f_X3_put_L55 a b r q (sJ (sJ (sI u 25 1) 6 0) 7 1)) := by
    intro q
    unfold f_X3_put_L55
    refine to_n c5 (to_l (to_n c5 (to_l (to_c (fun _ => to_s h0) (fun _ => to_c (fun _ => to_s h0) (fun _ => to_l (to_l (to_l (to_s ?_)))))))))
    exact ⟨⟨fun i hi => by rw [gI_sJ, gI_sJ, sIn hi]; exact h0.1.1 i hi, fun a => rfl⟩, fun _ => rfl⟩
  exact to_c (fun _ => L _) (fun _ => L _)
/-- what summing up writes -/
def SU (u w : SS) : Prop := (∀ i : Nat, i ≠ 12 → i ≠ 25 → gI w i = gI u i) ∧ (∀ a : Nat, gA w a = gA u a) ∧ ∀ a : Nat, gL w a = gL u a
theorem SU_J {i : Nat} {z : Int64} (h : SU u w) : SU u (sJ w i z) := ⟨h.1, h.2.1, h.2.2⟩
theorem SU_I {z : Int32} (h : SU u w) : SU u (sI w 12 z) := ⟨fun j a b => by rw [sIn a]; exact h.1 j a b, h.2.1, h.2.2⟩
theorem SU_P (h : SU u w) (p : PF w x) (q : ∀ i : Nat, gL x i = gL w i) : SU u x := ⟨fun i a b => (p.1 i b).trans (h.1 i a b), fun i => (p.2 i).trans (h.2.1 i), fun i => (q i).trans (h.2.2 i)⟩
theorem suL (u : SS) : TO (SU u) (f_X7_sumUp u) := by
  unfold f_X7_sumUp
  refine to_l (to_l (to_l (to_l (to_l ?_))))
  refine loopR (fun F (x : Int64 × Int32 × SS) => f_X7_sumUp_L31 F x.1 x.2.1 x.2.2) (fun i x => x.2.1 = nI i ∧ SU u x.2.2) _ 8 ?_ (F := FU) (x := ((0 : Int64), (0 : Int32), sJ (sJ (sI (sJ (sJ u 0 9223372036854775807) 1 0) 12 0) 4 0) 5 1)) (Nat.lt_trans (by decide) FU_ge) ⟨rfl, SU_J (SU_J (SU_I (SU_J (SU_J ⟨fun _ _ _ => rfl, fun _ => rfl, fun _ => rfl⟩))))⟩
  intro F x i hi hI hc
  obtain ⟨b1, b3, w⟩ := x
  obtain ⟨e, f⟩ := hI
  have e : b3 = nI i := e
  subst e
  have f : SU u w := f
  show TO _ (b_X7_sumUp_L31 (f_X7_sumUp_L31 F) b1 (nI i) w)
  unfold b_X7_sumUp_L31 f_X7_sumUp_L148
  refine to_c (fun _ => ?_) (fun c1 => ?_)
  · exact to_v (puL _ _ w) (fun y hy => to_l (to_l (to_s (SU_J (SU_J (SU_P f hy.1 hy.2))))))
  have hi2 : i < 8 := ltn (n := 8) (by omega) c1
  have r8 : rg 8 (nI i) := ⟨i, hi2, rfl⟩
  have st : ∀ (b : Int64) (y : SS), SU u y → TO (SU u) (lt (nI i + (1 : Int32)) fun x10 => f_X7_sumUp_L31 F b x10 y) := by
    intro b y hy
    rw [lt_e, nI_1]; exact hc (b, nI (i + 1), y) hi2 ⟨rfl, hy⟩
  refine to_i (by decide) r8 (to_c (fun _ => st _ _ f) (fun _ => ?_))
  refine to_i (by decide) r8 (to_l (to_i (by decide) r8 (to_l (to_i (by decide) r8 (to_l (to_l (to_i (by decide) r8 (to_i (by decide) r8 ?_))))))))
  refine to_c (fun _ => st _ _ (SU_I (SU_J (SU_J f)))) (fun _ => to_i (by decide) r8 (to_l (to_i (by decide) r8 (to_l (st _ _ (SU_J (SU_J (SU_I (SU_J (SU_J f))))))))))
/-- who is in: stands in the lot, and isn't a -/
def INC (u : SS) (l : Nat) (a : Int32) (b : Nat) : Prop := ¬ nI b = a ∧ Std u (b * 6 + l)
def INA (u : SS) (l : Nat) (a : Int32) (m : Nat) (w : SS) : Prop := ∀ b : Nat, b < m → (INC u l a b → gA w 16 b = 1) ∧ (¬ INC u l a b → gA w 16 b = 0)
/-- silent, so far as the bidders below m are seen -/
def SLm (u : SS) (l : Nat) (a : Int32) (s m : Nat) : Prop := ∃ b : Nat, b < m ∧ INC u l a b ∧ ¬ gA u 11 (s * 8 + b) = 0
theorem SLm_8 {l s : Nat} {a : Int32} : SLm u l a s 8 ↔ SL u l a s := ⟨fun ⟨b, h1, h2, h3⟩ => ⟨b, h1, h2.1, h2.2, h3⟩, fun ⟨b, h1, h2, h3, h4⟩ => ⟨b, h1, ⟨h2, h3⟩, h4⟩⟩
/-- only the silent are written -/
def ZF (u w : SS) : Prop := (∀ i : Nat, gI w i = gI u i) ∧ (∀ a : Nat, a ≠ 12 → gA w a = gA u a) ∧ ∀ a : Nat, gL w a = gL u a
theorem ZF_t (h : ZF u w) (h2 : ZF w x) : ZF u x := ⟨fun i => (h2.1 i).trans (h.1 i), fun i a => (h2.2.1 i a).trans (h.2.1 i a), fun i => (h2.2.2 i).trans (h.2.2 i)⟩
theorem ZF_Z {i z : Int32} (h : ZF u w) : ZF u (tZ w 12 i z) := ⟨h.1, fun b hb => by rw [tZn hb]; exact h.2.1 b hb, h.2.2⟩
theorem fs17E {P : SS → Prop} {l s : Nat} {a : Int32} (hs : s < 6) (k2 : Int32 → SS → Option SS) (e11 : gA w 11 = gA u 11) (hin : INA u l a 8 w) (hz : gA w 12 s = 0) (hk : ∀ y, ZF w y → (∀ t : Nat, t ≠ s → gA y 12 t = gA w 12 t) → (SL u l a s → gA y 12 s = 1) → (¬ SL u l a s → gA y 12 s = 0) → TO P (k2 (nI (s + 1)) y)) : TO P (f_X5_findSilent_25_L17 k2 FU (nI s) (0 : Int32) w) := by
  refine loopR (fun F (x : Int32 × SS) => f_X5_findSilent_25_L17 k2 F (nI s) x.1 x.2) (fun i x => x.1 = nI i ∧ ZF w x.2 ∧ (∀ t : Nat, t ≠ s → gA x.2 12 t = gA w 12 t) ∧ (SLm u l a s i → gA x.2 12 s = 1) ∧ (¬ SLm u l a s i → gA x.2 12 s = 0)) _ 8 ?_ (F := FU) (x := ((0 : Int32), w)) (Nat.lt_trans (by decide) FU_ge) ⟨rfl, ⟨fun _ => rfl, fun _ _ => rfl, fun _ => rfl⟩, fun _ _ => rfl, fun ⟨b, h1, _⟩ => absurd h1 (by omega), fun _ => hz⟩
  intro F x i hi hI hc2
  obtain ⟨b3, y⟩ := x
  obtain ⟨e, f, g1, g2, g3⟩ := hI
  have e : b3 = nI i := e
  subst e
  have f : ZF w y := f
  have g1 : ∀ t : Nat, t ≠ s → gA y 12 t = gA w 12 t := g1
  have g2 : SLm u l a s i → gA y 12 s = 1 := g2
  have g3 : ¬ SLm u l a s i → gA y 12 s = 0 := g3
  show TO _ (b_X5_findSilent_25_L17 k2 (f_X5_findSilent_25_L17 k2 F) (nI s) (nI i) y)
  unfold b_X5_findSilent_25_L17 f_X5_findSilent_25_L62 f_X5_findSilent_25_L56
  by_cases c8 : i = 8
  · subst c8
    rw [if_pos (show (8 : Int32) ≤ nI 8 by decide), lt_e, nI_1]
    exact hk y f g1 (fun z => g2 (SLm_8.mpr z)) (fun z => g3 (fun q => z (SLm_8.mp q)))
  have hi2 : i < 8 := by omega
  rw [if_neg (show ¬ (8 : Int32) ≤ nI i from nI_ge (b := 8) hi2 (by decide)), if_neg (show ¬ (8 : Int32) ≤ nI i from nI_ge (b := 8) hi2 (by decide)), oi_nI (by decide) hi2, nI_clamp (show i < 2 ^ 31 by omega), f.2.1 16 (by decide)]
  have sm : ¬ (INC u l a i ∧ ¬ gA u 11 (s * 8 + i) = 0) → (SLm u l a s (i + 1) ↔ SLm u l a s i) := by
    intro nc
    refine ⟨fun ⟨b, h1, h2, h3⟩ => ?_, fun ⟨b, h1, h2⟩ => ⟨b, by omega, h2⟩⟩
    by_cases z : b = i
    · subst z; exact absurd ⟨h2, h3⟩ nc
    · exact ⟨b, by omega, h2, h3⟩
  have skip : ¬ (INC u l a i ∧ ¬ gA u 11 (s * 8 + i) = 0) → TO P (lt (nI i + (1 : Int32)) fun x3 => f_X5_findSilent_25_L17 k2 F (nI s) x3 y) := by
    intro nc
    rw [lt_e, nI_1]
    exact hc2 (nI (i + 1), y) hi2 ⟨rfl, f, g1, fun z => g2 ((sm nc).mp z), fun z => g3 (fun q => z ((sm nc).mpr q))⟩
  by_cases ci : INC u l a i
  · rw [((hin i hi2).1 ci), if_neg nz_1, show nI s * (8 : Int32) + nI i = nI (s * 8 + i) by rw [show (8 : Int32) = nI 8 by decide, pk_mul, nI_add], oi_nI (by decide) (show s * 8 + i < 48 by omega), nI_clamp (show s * 8 + i < 2 ^ 31 by omega), f.2.1 11 (by decide), e11]
    by_cases cb : gA u 11 (s * 8 + i) = 0
    · rw [if_pos cb]; exact skip (fun z => z.2 cb)
    · rw [if_neg cb, oi_nI (by decide) hs, lt_e, lt_e, nI_1]
      refine hc2 (nI (i + 1), _) hi2 ⟨rfl, ZF_Z f, fun t ht => ?_, fun _ => ?_, fun z => absurd ⟨i, by omega, ci, cb⟩ z⟩
      · show gA (tZ y 12 (nI s) 1) 12 t = _
        rw [tZe, nI_clamp (by omega), upd_n _ _ ht]; exact g1 t ht
      · show gA (tZ y 12 (nI s) 1) 12 s = 1
        rw [tZe, nI_clamp (by omega), upd_s, nar_1]
  · rw [((hin i hi2).2 ci), if_pos rfl]; exact skip (fun z => ci z.1)
theorem fsE {l : Nat} {a : Int32} (e11 : gA w 11 = gA u 11) (hin : INA u l a 8 w) : TO (fun y => ZF w y ∧ SLA u l a y) (f_X5_findSilent_25 w) := by
  refine loopR (fun F (x : Int32 × SS) => f_X5_findSilent_25_L2 F x.1 x.2) (fun i x => x.1 = nI i ∧ ZF w x.2 ∧ ∀ s : Nat, s < i → (SL u l a s → gA x.2 12 s = 1) ∧ (¬ SL u l a s → gA x.2 12 s = 0)) _ 6 ?_ (F := FU) (x := ((0 : Int32), w)) (Nat.lt_trans (by decide) FU_ge) ⟨rfl, ⟨fun _ => rfl, fun _ _ => rfl, fun _ => rfl⟩, fun s hs => absurd hs (by omega)⟩
  intro F x i hi hI hc2
  obtain ⟨b3, y⟩ := x
  obtain ⟨e, f, g⟩ := hI
  have e : b3 = nI i := e
  subst e
  have f : ZF w y := f
  have g : ∀ s : Nat, s < i → (SL u l a s → gA y 12 s = 1) ∧ (¬ SL u l a s → gA y 12 s = 0) := g
  show TO _ (b_X5_findSilent_25_L2 (f_X5_findSilent_25_L2 F) (nI i) y)
  unfold b_X5_findSilent_25_L2
  by_cases c6 : i = 6
  · subst c6
    rw [if_pos (show (6 : Int32) ≤ nI 6 by decide)]; exact to_s ⟨f, g⟩
  have hi2 : i < 6 := by omega
  rw [if_neg (show ¬ (6 : Int32) ≤ nI i from nI_ge (b := 6) hi2 (by decide)), oi_nI (by decide) hi2, lt_e]
  have fz : ZF w (tZ y 12 (nI i) 0) := ZF_Z f
  refine fs17E (u := u) (l := l) (a := a) hi2 _ (by rw [fz.2.1 11 (by decide)]; exact e11) (fun b hb => by rw [fz.2.1 16 (by decide)]; exact hin b hb) (by rw [tZe, nI_clamp (by omega), upd_s, nar_0]) (fun z hz h1 h2 h3 => ?_)
  refine hc2 (nI (i + 1), z) hi2 ⟨rfl, ZF_t fz hz, fun s hs => ?_⟩
  by_cases q : s = i
  · subst q; exact ⟨h2, h3⟩
  · show (SL u l a s → gA z 12 s = 1) ∧ (¬ SL u l a s → gA z 12 s = 0)
    rw [h1 s q, tZe, nI_clamp (by omega), upd_n _ _ q]; exact g s (by omega)
/-- the qualities of the lot's bidders below m -/
def QLT (u : SS) (l : Nat) (a : Int32) (m : Nat) (w : SS) : Prop := ∀ b : Nat, b < m → gL w 0 b = lN (qS u l a (b * 6 + l) / Nat.gcd (qC u l a (b * 6 + l)) (qS u l a (b * 6 + l))) ∧ gL w 1 b = lN (qC u l a (b * 6 + l) / Nat.gcd (qC u l a (b * 6 + l)) (qS u l a (b * 6 + l)))
theorem FW_z (h : FW u w) (z : ZF w x) : FW u x := ⟨fun i a b c => (z.1 i).trans (h.1 i a b c), fun i a b c d => (z.2.1 i a).trans (h.2 i a b c d)⟩
theorem FW_s (h : FW u w) (z : SU w x) : FW u x := ⟨fun i a b c => (z.1 i b c).trans (h.1 i a b c), fun i a b c d => (z.2.1 i).trans (h.2 i a b c d)⟩
theorem la90E (h : RT k u v) {l : Nat} (hl : l < 6) (a : Int32) (f : FW u w) (sl : SLA u l a w) : TO (fun y => FW u y ∧ QLT u l a 8 y) (f_X7_lay_L90 FU (nI l) (0 : Int32) w) := by
  refine loopR (fun F (x : Int32 × SS) => f_X7_lay_L90 F (nI l) x.1 x.2) (fun i x => x.1 = nI i ∧ FW u x.2 ∧ gA x.2 12 = gA w 12 ∧ QLT u l a i x.2) _ 8 ?_ (F := FU) (x := ((0 : Int32), w)) (Nat.lt_trans (by decide) FU_ge) ⟨rfl, f, rfl, fun b hb => absurd hb (by omega)⟩
  intro F x i hi hI hc2
  obtain ⟨b3, y⟩ := x
  obtain ⟨e, f, e12, q⟩ := hI
  have e : b3 = nI i := e
  subst e
  have f : FW u y := f
  have e12 : gA y 12 = gA w 12 := e12
  have q : QLT u l a i y := q
  show TO _ (b_X7_lay_L90 (f_X7_lay_L90 F) (nI l) (nI i) y)
  unfold b_X7_lay_L90
  by_cases c8 : i = 8
  · subst c8
    rw [if_pos (show (8 : Int32) ≤ nI 8 by decide)]
    refine to_v (suL y) (fun z hz => to_s ⟨FW_s f hz, fun b hb => ?_⟩)
    rw [hz.2.2 0, hz.2.2 1]; exact q b hb
  have hi2 : i < 8 := by omega
  rw [if_neg (show ¬ (8 : Int32) ≤ nI i from nI_ge (b := 8) hi2 (by decide)), ceB, ob_s, cellB]
  obtain ⟨z, ez, p, j6, j7, gl⟩ := weE h hi2 hl a f (fun s hs => by rw [e12]; exact sl s hs)
  rw [ez, ov_s, oi_nI (by decide) hi2, lt_e, oi_nI (by decide) hi2, lt_e, lt_e, nI_1, j6]
  have j7b : gJ (tL z 0 (nI i) (lN (qS u l a (i * 6 + l) / Nat.gcd (qC u l a (i * 6 + l)) (qS u l a (i * 6 + l))))) 7 = lN (qC u l a (i * 6 + l) / Nat.gcd (qC u l a (i * 6 + l)) (qS u l a (i * 6 + l))) := j7
  rw [j7b]
  refine hc2 (nI (i + 1), _) hi2 ⟨rfl, FW_L (FW_L (FW_t f (PF_w p))), ?_, fun b hb => ?_⟩
  · show gA z 12 = _
    rw [p.2 12]; exact e12
  · show gL (tL (tL z 0 (nI i) _) 1 (nI i) _) 0 b = _ ∧ gL (tL (tL z 0 (nI i) _) 1 (nI i) _) 1 b = _
    rw [tLn (show (0 : Nat) ≠ 1 by decide), tLe, tLe, tLn (show (1 : Nat) ≠ 0 by decide), nI_clamp (by omega), gl 0, gl 1]
    by_cases c : b = i
    · subst c; rw [updL_s, updL_s]; exact ⟨rfl, rfl⟩
    · rw [updL_n _ _ c, updL_n _ _ c]; exact q b (by omega)
theorem Std_f {c : Nat} (f : FW u w) : Std w c ↔ Std u c := by
  unfold Std Lps
  rw [f.2 3 (by decide) (by decide) (by decide) (by decide), f.2 4 (by decide) (by decide) (by decide) (by decide), f.2 5 (by decide) (by decide) (by decide) (by decide), f.1 0 (by decide) (by decide) (by decide)]
theorem laE (h : RT k u v) {l : Nat} (hl : l < 6) (a : Int32) : TO (fun y => FW u y ∧ QLT u l a 8 y) (f_X7_lay (nI l) a u) := by
  refine loopR (fun F (x : Int32 × SS) => f_X7_lay_L3 F (nI l) a x.1 x.2) (fun i x => x.1 = nI i ∧ FW u x.2 ∧ INA u l a i x.2) _ 8 ?_ (F := FU) (x := ((0 : Int32), u)) (Nat.lt_trans (by decide) FU_ge) ⟨rfl, FW_r u, fun b hb => absurd hb (by omega)⟩
  intro F x i hi hI hc2
  obtain ⟨b3, y⟩ := x
  obtain ⟨e, f, q⟩ := hI
  have e : b3 = nI i := e
  subst e
  have f : FW u y := f
  have q : INA u l a i y := q
  show TO _ (b_X7_lay_L3 (f_X7_lay_L3 F) (nI l) a (nI i) y)
  unfold b_X7_lay_L3 f_X7_lay_L44 f_X7_lay_L45 f_X7_lay_L72
  by_cases c8 : i = 8
  · subst c8
    rw [if_pos (show (8 : Int32) ≤ nI 8 by decide)]
    exact to_v (fsE (u := u) (l := l) (a := a) (f.2 11 (by decide) (by decide) (by decide) (by decide)) q) (fun z hz => la90E h hl a (FW_z f hz.1) hz.2)
  have hi2 : i < 8 := by omega
  have r8 : rg 8 (nI i) := ⟨i, hi2, rfl⟩
  have c48 : i * 6 + l < 48 := by omega
  rw [if_neg (show ¬ (8 : Int32) ≤ nI i from nI_ge (b := 8) hi2 (by decide)), ceB, ob_s, cellB]
  have L72 : ∀ (p : Int32) (z : SS), FW u z → INA u l a (i + 1) z → TO (fun y => FW u y ∧ QLT u l a 8 y) (oi (nI i) 8 (lt (tA z 17 (nI i) p) fun u17 => lt (nI i + (1 : Int32)) fun x18 => f_X7_lay_L3 F (nI l) a x18 u17)) := by
    intro p z hz iz
    refine to_i (by decide) r8 (to_l ?_)
    rw [lt_e, nI_1]
    refine hc2 (nI (i + 1), _) hi2 ⟨rfl, FW_A (by omega) hz, fun b hb => ?_⟩
    show (INC u l a b → gA (tA z 17 (nI i) p) 16 b = 1) ∧ (¬ INC u l a b → gA (tA z 17 (nI i) p) 16 b = 0)
    rw [tAn (by decide)]; exact iz b hb
  have L45 : ∀ p : Int32, bo p → (INC u l a i → p = 1) → (¬ INC u l a i → p = 0) → TO (fun y => FW u y ∧ QLT u l a 8 y) (oi (nI i) 8 (lt (tZ y 16 (nI i) p) fun u16 => oi (nI (i * 6 + l)) 48 (if (gA u16 3 (nI (i * 6 + l)).toNatClampNeg) = 0 then (oi (nI i) 8 (lt (tA u16 17 (nI i) (0 : Int32)) fun u17 => lt (nI i + (1 : Int32)) fun x18 => f_X7_lay_L3 F (nI l) a x18 u17)) else (ob (f_X1_priceAt (nI (i * 6 + l)) u16) fun r21 u20 => (oi (nI i) 8 (lt (tA u20 17 (nI i) r21) fun u17 => lt (nI i + (1 : Int32)) fun x18 => f_X7_lay_L3 F (nI l) a x18 u17)))))) := by
    intro p hp p1 p0
    have hz2 : FW u (tZ y 16 (nI i) p) := FW_Z (by omega) f
    have iz : INA u l a (i + 1) (tZ y 16 (nI i) p) := by
      intro b hb
      rw [tZe, nI_clamp (by omega), nar_bo hp]
      by_cases z : b = i
      · subst z; rw [upd_s]; exact ⟨p1, p0⟩
      · rw [upd_n _ _ z]; exact q b (by omega)
    refine to_i (by decide) r8 (to_l (to_i (by decide) ⟨_, c48, rfl⟩ (to_c (fun _ => L72 _ _ hz2 iz) (fun _ => ?_))))
    rw [prB c48 (BD_c (RT_b h (FW_b hz2)) c48), ob_s]
    exact L72 _ _ hz2 iz
  by_cases ca : nI i = a
  · rw [if_pos ca]; exact L45 _ (Or.inl rfl) (fun z => absurd ca z.1) (fun _ => rfl)
  rw [if_neg ca]
  have hy := RT_b h (FW_b f)
  rcases Std_c y (i * 6 + l) with s | s
  · rw [stdB_t c48 s, ob_s, if_neg nz_1]; exact L45 _ (Or.inr rfl) (fun _ => rfl) (fun z => absurd ⟨ca, (Std_f f).mp s⟩ z)
  · have a1 := hy.2.2.2.1 i l hi2 hl
    have b1 := hy.2.2.2.2.1 i l hi2 hl
    rw [stdB_f c48 a1.1.2 b1.1 s, ob_s, if_pos rfl]; exact L45 _ (Or.inl rfl) (fun z => absurd ((Std_f f).mpr z.2) s) (fun _ => rfl)
/-! the reference -/
theorem asE (h : RT k u v) {s l : Nat} (hs : s < 6) (hl : l < 6) (a : Int32) : (SL u l a s → f_X10_isAside (nI s) (nI l) a v = some (1, v)) ∧ (¬ SL u l a s → f_X10_isAside (nI s) (nI l) a v = some (0, v)) := by
  have key : TO (fun p : Int32 × SS => p.2 = v ∧ (SL u l a s → p.1 = 1) ∧ (¬ SL u l a s → p.1 = 0)) (f_X10_isAside (nI s) (nI l) a v) := by
    refine loopR (fun F (x : Int32 × Int32 × SS) => f_X10_isAside_L6 F (nI s) (nI l) a x.1 x.2.1 x.2.2) (fun i x => x.2 = (nI i, v) ∧ bo x.1 ∧ (SLm u l a s i → x.1 = 1) ∧ (¬ SLm u l a s i → x.1 = 0)) _ 8 ?_ (F := FU) (x := ((0 : Int32), (0 : Int32), v)) (Nat.lt_trans (by decide) FU_ge) ⟨rfl, Or.inl rfl, fun ⟨b, h1, _⟩ => absurd h1 (by omega), fun _ => rfl⟩
    intro F x i hi hI hc2
    obtain ⟨b4, b5, w⟩ := x
    obtain ⟨hI, hb, g2, g3⟩ := hI
    have hb : bo b4 := hb
    have g2 : SLm u l a s i → b4 = 1 := g2
    have g3 : ¬ SLm u l a s i → b4 = 0 := g3
    obtain ⟨rfl, rfl⟩ := Prod.mk.inj hI
    show TO _ (b_X10_isAside_L6 (f_X10_isAside_L6 F) (nI s) (nI l) a b4 (nI i) w)
    unfold b_X10_isAside_L6 f_X10_isAside_L57 f_X10_isAside_L53 f_X10_isAside_L58
    by_cases c8 : i = 8
    · subst c8
      rw [if_pos (show (8 : Int32) ≤ nI 8 by decide)]
      exact to_n (fun z => z hb) (to_s ⟨rfl, fun z => g2 (SLm_8.mpr z), fun z => g3 (fun q => z (SLm_8.mp q))⟩)
    have hi2 : i < 8 := by omega
    rw [if_neg (show ¬ (8 : Int32) ≤ nI i from nI_ge (b := 8) hi2 (by decide))]
    have st : ∀ q : Int32, bo q → (SLm u l a s (i + 1) → q = 1) → (¬ SLm u l a s (i + 1) → q = 0) → TO (fun p : Int32 × SS => p.2 = w ∧ (SL u l a s → p.1 = 1) ∧ (¬ SL u l a s → p.1 = 0)) (lt (nI i + (1 : Int32)) fun x1 => f_X10_isAside_L6 F (nI s) (nI l) a q x1 w) := by
      intro q hq h1 h0
      rw [lt_e, nI_1]; exact hc2 (q, nI (i + 1), w) hi2 ⟨rfl, hq, h1, h0⟩
    by_cases c0 : b4 = 0
    rotate_left
    · rw [if_neg c0]
      have sm : SLm u l a s i := Classical.byContradiction (fun z => c0 (g3 z))
      obtain ⟨b, h1, h2⟩ := sm
      exact st _ (Or.inr rfl) (fun _ => rfl) (fun z => absurd ⟨b, by omega, h2⟩ z)
    rw [if_pos c0]
    have nsm : ¬ SLm u l a s i := fun z => n01 (c0.symm.trans (g2 z))
    have zero : ¬ (INC u l a i ∧ ¬ gA u 11 (s * 8 + i) = 0) → TO (fun p : Int32 × SS => p.2 = w ∧ (SL u l a s → p.1 = 1) ∧ (¬ SL u l a s → p.1 = 0)) (lt (nI i + (1 : Int32)) fun x1 => f_X10_isAside_L6 F (nI s) (nI l) a (0 : Int32) x1 w) := by
      intro nc
      refine st _ (Or.inl rfl) (fun ⟨b, h1, h2, h3⟩ => ?_) (fun _ => rfl)
      by_cases z : b = i
      · subst z; exact absurd ⟨h2, h3⟩ nc
      · exact absurd ⟨b, by omega, h2, h3⟩ nsm
    have eb := (h.2.2.2.2.2.2.2.1 s i hs hi2).1
    rw [show (8 : Int32) * nI s + nI i = nI (8 * s + i) from cellM i s, oi_nI (by decide) (show 8 * s + i < 48 by omega), nI_clamp (by omega), eb]
    by_cases cb : gA u 11 (s * 8 + i) = 0
    · rw [if_pos cb]; exact zero (fun z => z.2 cb)
    rw [if_neg cb, cellM]
    rcases Std_c u (i * 6 + l) with sd | sd
    · rw [dsM_t h hi2 hl sd, ob_s, if_neg nz_1]
      by_cases ca : nI i = a
      · rw [if_pos ca]; exact zero (fun z => z.1.1 ca)
      · rw [if_neg ca]; exact st _ (Or.inr rfl) (fun _ => rfl) (fun z => absurd ⟨i, by omega, ⟨ca, sd⟩, cb⟩ z)
    · rw [dsM_f h hi2 hl sd, ob_s, if_pos rfl]; exact zero (fun z => sd z.1.2)
  obtain ⟨⟨r, w⟩, e, e2, h1, h0⟩ := key
  have e2 : w = v := e2
  subst e2
  refine ⟨fun z => ?_, fun z => ?_⟩
  · rw [e, show r = 1 from h1 z]
  · rw [e, show r = 0 from h0 z]
theorem SL_f {l s : Nat} {a : Int32} : True := trivial
theorem fqE (h : RT k u v) {b l : Nat} (hb : b < 8) (hl : l < 6) (a : Int32) : ∃ y : SS, f_X10_findQuality (nI (8 * l + b)) a v = some y ∧ QK v y ∧ gI y 4 = nI (qS u l a (b * 6 + l)) ∧ gI y 5 = nI (qC u l a (b * 6 + l)) := by
  have key : TO (fun y : SS => QK v y ∧ gI y 4 = nI (qS u l a (b * 6 + l)) ∧ gI y 5 = nI (qC u l a (b * 6 + l))) (f_X10_findQuality (nI (8 * l + b)) a v) := by
    unfold f_X10_findQuality
    refine to_l (to_l ?_)
    refine loopR (fun F (x : Int32 × Int32 × Int32 × SS) => f_X10_findQuality_L19 F (nI (8 * l + b)) a x.1 x.2.1 x.2.2.1 x.2.2.2) (fun i x => x.2.2.1 = nI i ∧ QK v x.2.2.2 ∧ gI x.2.2.2 4 = nI (qv u l a (b * 6 + l) i).2.1 ∧ gI x.2.2.2 5 = nI (qv u l a (b * 6 + l) i).1 ∧ ((qv u l a (b * 6 + l) i).1 = 0 ∧ x.1 = 101 ∧ x.2.1 = -1 ∨ 1 ≤ (qv u l a (b * 6 + l) i).1 ∧ x.1 = nI (qv u l a (b * 6 + l) i).2.2.1 ∧ x.2.1 = nI (qv u l a (b * 6 + l) i).2.2.2)) _ 6 ?_ (F := FU) (x := ((101 : Int32), (-1 : Int32), (0 : Int32), sI (sI v 4 0) 5 0)) (Nat.lt_trans (by decide) FU_ge) ⟨rfl, QK_I (by omega) (QK_I (by omega) ⟨fun _ _ _ => rfl, fun _ => rfl, fun _ => rfl, fun _ => rfl⟩), rfl, rfl, Or.inl ⟨rfl, rfl, rfl⟩⟩
    intro F x i hi hI hc2
    obtain ⟨b3, b4, b5, y⟩ := x
    obtain ⟨e, q, e4, e5, hm⟩ := hI
    have e : b5 = nI i := e
    subst e
    have q : QK v y := q
    have e4 : gI y 4 = nI (qv u l a (b * 6 + l) i).2.1 := e4
    have e5 : gI y 5 = nI (qv u l a (b * 6 + l) i).1 := e5
    have hm : (qv u l a (b * 6 + l) i).1 = 0 ∧ b3 = 101 ∧ b4 = -1 ∨ 1 ≤ (qv u l a (b * 6 + l) i).1 ∧ b3 = nI (qv u l a (b * 6 + l) i).2.2.1 ∧ b4 = nI (qv u l a (b * 6 + l) i).2.2.2 := hm
    obtain ⟨a1, a2, a3, a4, a5, a6, a7⟩ := qv_le h hb hl a i hi
    show TO _ (b_X10_findQuality_L19 (f_X10_findQuality_L19 F) (nI (8 * l + b)) a b3 b4 (nI i) y)
    unfold b_X10_findQuality_L19 f_X10_findQuality_L92 f_X10_findQuality_L107 f_X10_findQuality_L109
    by_cases c6 : i = 6
    · subst c6
      rw [if_pos (show (6 : Int32) ≤ nI 6 by decide)]
      have fin : ∀ (z : SS) (s c : Nat), QK v z → gI z 4 = nI s → gI z 5 = nI c → c ≤ 6 → s = qS u l a (b * 6 + l) → (if c = 0 then 1 else c) = qC u l a (b * 6 + l) → TO (fun y : SS => QK v y ∧ gI y 4 = nI (qS u l a (b * 6 + l)) ∧ gI y 5 = nI (qC u l a (b * 6 + l))) (f_X10_findQuality_L146 z) := by
        intro z s c qz z4 z5 c6 hs hc
        unfold f_X10_findQuality_L146
        rw [z5]
        by_cases c0 : c = 0
        · rw [if_pos c0] at hc
          rw [c0, if_pos (show nI 0 = (0 : Int32) from rfl), lt_e]
          refine to_s ⟨QK_I (by omega) qz, ?_, ?_⟩
          · rw [sIn (by decide), z4, hs]
          · rw [sIe, ← hc]; rfl
        · rw [if_neg c0] at hc
          rw [if_neg (nI_ne0 (by omega) (by omega)), lt_e]
          refine to_s ⟨QK_I (by omega) qz, ?_, ?_⟩
          · rw [sIn (by decide), z4, hs]
          · rw [sIe, hc]
      rw [e5]
      by_cases c4 : (qv u l a (b * 6 + l) 6).1 < 4
      · rw [if_pos (show nI (qv u l a (b * 6 + l) 6).1 < (4 : Int32) from nI_lt (b := 4) c4 (by decide))]
        refine fin y _ _ q e4 e5 a1 ?_ ?_
        · unfold qS; rw [if_pos c4]
        · unfold qC; rw [if_pos c4]
      · rw [if_neg (show ¬ nI (qv u l a (b * 6 + l) 6).1 < (4 : Int32) from nI_nlt (b := 4) (by omega) (by omega))]
        rcases hm with ⟨z, -⟩ | ⟨-, l1, l2⟩
        · omega
        have l7 := a7 (by omega)
        rw [l1, l2, lt_e, e4, nI_add, pk_sub (by omega), lt_e, sIn (by decide), e5, show nI (qv u l a (b * 6 + l) 6).1 - (2 : Int32) = nI ((qv u l a (b * 6 + l) 6).1 - 2) from pk_sub (b := 2) (by omega)]
        refine fin _ ((qv u l a (b * 6 + l) 6).2.1 - ((qv u l a (b * 6 + l) 6).2.2.1 + (qv u l a (b * 6 + l) 6).2.2.2)) ((qv u l a (b * 6 + l) 6).1 - 2) (QK_I (by omega) (QK_I (by omega) q)) ?_ sIe (by omega) ?_ ?_
        · rw [sIn (by decide), sIe]
        · unfold qS; rw [if_neg c4]
        · unfold qC; rw [if_neg c4, if_neg (by omega)]
    have hi2 : i < 6 := by omega
    rw [if_neg (show ¬ (6 : Int32) ≤ nI i from nI_ge (b := 6) hi2 (by decide)), show (48 : Int32) * nI i + nI (8 * l + b) = nI (48 * i + (8 * l + b)) by rw [show (48 : Int32) = nI 48 by decide, pk_mul, nI_add], oi_nI (by decide) (show 48 * i + (8 * l + b) < 288 by omega), nI_clamp (show 48 * i + (8 * l + b) < 2 ^ 31 by omega), q.2.1 9, lt_e]
    have same : (gA u 10 (i * 48 + (b * 6 + l)) = -9 ∨ SL u l a i) → TO (fun y : SS => QK v y ∧ gI y 4 = nI (qS u l a (b * 6 + l)) ∧ gI y 5 = nI (qC u l a (b * 6 + l))) (lt (nI i + (1 : Int32)) fun x8 => f_X10_findQuality_L19 F (nI (8 * l + b)) a b3 b4 x8 y) := by
      intro hq
      rw [lt_e, nI_1]
      refine hc2 (b3, b4, nI (i + 1), y) hi2 ⟨rfl, q, ?_⟩
      rw [qv_t hq]; exact ⟨e4, e5, hm⟩
    by_cases c9 : gA u 10 (i * 48 + (b * 6 + l)) = -9
    · have e9 : gA v 9 (48 * i + (8 * l + b)) = -1 := by
        rcases h.2.2.2.2.2.2.1 i b l hi2 hb hl with ⟨-, z⟩ | ⟨n, hn2, z1, -⟩
        · exact z
        · exfalso
          rw [c9] at z1
          exact absurd (z1 ▸ lt_9) (nI_pos (by omega))
      rw [e9, if_pos lt_m1]; exact same (Or.inl c9)
    obtain ⟨n1, n2, n3⟩ := no_n h hi2 hb hl c9
    rw [n3, if_neg (nI_pos (by omega)), show nI (8 * l + b) / (8 : Int32) = nI l by rw [show nI (8 * l + b) / (8 : Int32) = nI ((8 * l + b) / 8) from pk_div (d := 8) (by omega) (by decide) (by decide), show (8 * l + b) / 8 = l by omega]]
    have hy := RT_mk h (QK_mk q)
    rcases SL_c u l a i with hs | hs
    · rw [(asE hy hi2 hl a).1 hs, ob_s, if_neg nz_1]; exact same (Or.inr hs)
    rw [(asE hy hi2 hl a).2 hs, ob_s, if_pos rfl, lt_e, e4, nI_add, lt_e, sIn (by decide), e5, nI_1 (qv u l a (b * 6 + l) i).1]
    have nf : ¬ (gA u 10 (i * 48 + (b * 6 + l)) = -9 ∨ SL u l a i) := fun z => z.elim c9 hs
    have qz : QK v (sI (sI y 4 (nI ((qv u l a (b * 6 + l) i).2.1 + nn (gA u 10 (i * 48 + (b * 6 + l)))))) 5 (nI ((qv u l a (b * 6 + l) i).1 + 1))) := QK_I (by omega) (QK_I (by omega) q)
    have st : ∀ (p r : Int32), p = nI (if nn (gA u 10 (i * 48 + (b * 6 + l))) < (qv u l a (b * 6 + l) i).2.2.1 then nn (gA u 10 (i * 48 + (b * 6 + l))) else (qv u l a (b * 6 + l) i).2.2.1) → r = nI (if (qv u l a (b * 6 + l) i).2.2.2 < nn (gA u 10 (i * 48 + (b * 6 + l))) then nn (gA u 10 (i * 48 + (b * 6 + l))) else (qv u l a (b * 6 + l) i).2.2.2) → TO (fun y : SS => QK v y ∧ gI y 4 = nI (qS u l a (b * 6 + l)) ∧ gI y 5 = nI (qC u l a (b * 6 + l))) (lt (nI i + (1 : Int32)) fun x8 => f_X10_findQuality_L19 F (nI (8 * l + b)) a p r x8 (sI (sI y 4 (nI ((qv u l a (b * 6 + l) i).2.1 + nn (gA u 10 (i * 48 + (b * 6 + l)))))) 5 (nI ((qv u l a (b * 6 + l) i).1 + 1)))) := by
      intro p r hp hr
      rw [lt_e, nI_1]
      refine hc2 (p, r, nI (i + 1), _) hi2 ⟨rfl, qz, ?_⟩
      rw [qv_f nf]
      exact ⟨by show gI (sI (sI y 4 _) 5 _) 4 = _; rw [sIn (by decide), sIe], by show gI (sI (sI y 4 _) 5 _) 5 = _; rw [sIe], Or.inr ⟨by show 1 ≤ (qv u l a (b * 6 + l) i).1 + 1; omega, hp, hr⟩⟩
    revert st n2 a3 a4
    generalize nn (gA u 10 (i * 48 + (b * 6 + l))) = t
    intro a3 a4 n2 st
    rcases hm with ⟨z0, z1, z2⟩ | ⟨z0, z1, z2⟩
    · obtain ⟨m1, m2⟩ := a5 z0
      rw [m1, m2] at st
      rw [z1, z2, if_neg (lt101 n2), if_neg (show ¬ nI t ≤ (-1 : Int32) from fun y => absurd (Int32.le_trans (nI_pos' (by omega)) y) nl_m1)]
      refine st _ _ ?_ ?_
      · by_cases z : t < 100
        · rw [if_pos z]
        · rw [if_neg z, show t = 100 by omega]
      · by_cases z : 0 < t
        · rw [if_pos z]
        · rw [if_neg z, show t = 0 by omega]
    · rw [z1, z2]
      by_cases d1 : (qv u l a (b * 6 + l) i).2.2.1 ≤ t
      · rw [if_pos (nI_le d1 (by omega))]
        by_cases d2 : t ≤ (qv u l a (b * 6 + l) i).2.2.2
        · rw [if_pos (nI_le d2 (by omega))]; exact st _ _ (by rw [if_neg (by omega)]) (by rw [if_neg (by omega)])
        · rw [if_neg (nI_ge (by omega) (by omega))]; exact st _ _ (by rw [if_neg (by omega)]) (by rw [if_pos (by omega)])
      · rw [if_neg (nI_ge (by omega) (by omega))]
        by_cases d2 : t ≤ (qv u l a (b * 6 + l) i).2.2.2
        · rw [if_pos (nI_le d2 (by omega))]; exact st _ _ (by rw [if_pos (by omega)]) (by rw [if_neg (by omega)])
        · rw [if_neg (nI_ge (by omega) (by omega))]; exact st _ _ (by rw [if_pos (by omega)]) (by rw [if_pos (by omega)])
  obtain ⟨y, e, q⟩ := key
  exact ⟨y, e, q⟩
theorem st_qualityE (h : RT k u v) (b l n : Int32) : QQ (RT (k + 1)) (f_X9_quality b l n u) (f_X10_quality b l n v) := by
  obtain ⟨⟨t, L, ht, hL1, hL6, e0, e0m, e2, e2m, e1, e1c⟩, -⟩ := id h
  unfold f_X9_quality f_X10_quality f_X10_quality_L15
  rcases in_c b 8 with ⟨i, hi, rfl⟩ | hb
  rotate_left
  · rw [noBid_f e2 hL6 (fun z => hb z.1), isBidder_f hb, ob_s, ob_s, if_neg nz_1, if_pos rfl, rfB rwd1, rfM rwd1]; exact qq_rf tA1 h _
  rcases cl_c l L with ⟨j, hj, rfl⟩ | hl
  rotate_left
  · rw [noBid_f e2 hL6 (fun z => hl z.2), ob_s, if_neg nz_1, isBidder_t ⟨i, hi, rfl⟩, ob_s, if_neg nz_1, isLot_f e2m hL1 hL6 hl, ob_s, if_pos rfl, rfB rwd1, rfM rwd1]; exact qq_rf tA1 h _
  have hj6 : j < 6 := by omega
  rw [noBid_t e2 hL6 ⟨⟨i, hi, rfl⟩, ⟨j, hj, rfl⟩⟩, ob_s, if_pos rfl, isBidder_t ⟨i, hi, rfl⟩, ob_s, if_neg nz_1, isLot_t e2m hL1 hL6 ⟨j, hj, rfl⟩, ob_s, if_neg nz_1]
  rcases in_c n 2 with ⟨m, hm, rfl⟩ | hn
  rotate_left
  · rw [noPart_f hn, in_f (c := 1) (n := 1) (by decide) (by decide) hn v, ob_s, ob_s, if_neg nz_1, if_pos rfl, rfB rwd2, rfM rwd2]; exact qq_rf tA1 h _
  have eB := ((h.2.2.2.1 i j hi hj6).1).1
  rw [noPart_t ⟨m, hm, rfl⟩, in_t (c := 1) (n := 1) (by decide) (by decide) ⟨m, hm, rfl⟩ v, ob_s, ob_s, if_pos rfl, if_neg nz_1, ceB, ob_s, cellB, cellM, oi_nI (by decide) (show i * 6 + j < 48 by omega), oi_nI (by decide) (show 8 * j + i < 48 by omega), nI_clamp (show i * 6 + j < 2 ^ 31 by omega), nI_clamp (show 8 * j + i < 2 ^ 31 by omega), eB]
  by_cases c3 : gA u 3 (i * 6 + j) = 0
  · rw [if_pos c3, if_pos c3, rfB rwd5, rfM rwd5]; exact qq_rf tA1 h _
  rw [if_neg c3, if_neg c3]
  obtain ⟨y, ey, fy, qy⟩ := laE h hj6 (-1)
  obtain ⟨z, ez, qz, z4, z5⟩ := fqE h hi hj6 (-1)
  obtain ⟨s1, s2, s3⟩ := qSC h hi hj6 (-1)
  rw [ey, ez, ov_s, ov_s, z4, z5, nI_l (by omega), nI_l (by omega)]
  obtain ⟨q0, q1⟩ := qy i hi
  have g0 : 0 < Nat.gcd (qC u j (-1) (i * 6 + j)) (qS u j (-1) (i * 6 + j)) := Nat.gcd_pos_of_pos_left _ s2
  have g1 : Nat.gcd (qC u j (-1) (i * 6 + j)) (qS u j (-1) (i * 6 + j)) ≤ qC u j (-1) (i * 6 + j) := Nat.gcd_le_left _ s2
  have fu : 2 * 63 < FU := Nat.lt_trans (by decide) FU_ge
  have dv : f_X10_divisor (lN (qS u j (-1) (i * 6 + j))) (lN (qC u j (-1) (i * 6 + j))) z = some (lN (Nat.gcd (qC u j (-1) (i * 6 + j)) (qS u j (-1) (i * 6 + j))), z) := by
    unfold f_X10_divisor f_X10_divisor_L12
    rw [if_pos (show (0 : Int32) ≤ lg_cmp (lN (qS u j (-1) (i * 6 + j))) (0 : Int64) from (lg_cmp_ge (lN (qS u j (-1) (i * 6 + j))) (0 : Int64)).mpr ((pk_lLE (a := 0) (by decide) (by omega)).mpr (by omega))), dvN 63 _ _ FU (by omega) (by omega) (by omega) fu]
  rw [dv, ob_s, lN_i, lt_e, if_neg (nI_ne0 g0 (by omega)), if_neg (nI_ne0 g0 (by omega)), z4, z5, pk_div (by omega) g0 (by omega), pk_div (by omega) g0 (by omega), oi_nI (by decide) hi, oi_nI (by decide) hi, nI_clamp (show i < 2 ^ 31 by omega), q0, q1, lN_i, lN_i]
  have R : RT (k + 1) y z := RT_s (RT_mk (RT_b h (FW_b fy)) (QK_mk qz))
  by_cases m0 : nI m = 0
  · rw [if_pos m0, if_pos m0]; exact ⟨_, _, _, _, rfl, rfl, R, rfl⟩
  · rw [if_neg m0, if_neg m0]; exact ⟨_, _, _, _, rfl, rfl, R, rfl⟩
end ST31
