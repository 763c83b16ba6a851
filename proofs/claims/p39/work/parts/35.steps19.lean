section ST19
variable {k n : Nat} {u v w x : SS}
/-- the class's reader: its place within the tape, its draft within 80 -/
def PB (n : Nat) (u w : SS) : Prop := FrB u w ∧ gI w 5 = nI n ∧ (∃ p : Nat, p ≤ n ∧ gI w 8 = nI p) ∧ ∃ d : Nat, d ≤ 80 ∧ gI w 6 = nI d
def NX (n : Nat) (w : SS) : Prop := ∃ p : Nat, p < n ∧ gI w 8 = nI p
theorem pkT (hn : n ≤ 80) (h : PB n u w) : TO (fun p : Int32 × SS => p.2 = w ∧ (p.1 = -1 ∨ NX n w)) (f_X2_peek w) := by
  obtain ⟨f, e5, ⟨p, hp, e8⟩, d⟩ := h
  unfold f_X2_peek
  rw [e5, e8]
  refine to_c (fun _ => to_s ⟨rfl, Or.inl rfl⟩) (fun c => ?_)
  have hp2 : p < n := ltn (by omega) c
  exact to_i (by decide) ⟨p, by omega, rfl⟩ (to_s ⟨rfl, Or.inr ⟨p, hp2, e8⟩⟩)
theorem adv (h : PB n u w) (q : NX n w) : PB n u (sI w 8 (gI w 8 + 1)) := by
  obtain ⟨p, hp, e⟩ := q
  refine ⟨FrB_I (by unfold kBI; omega) h.1, ?_, ⟨p + 1, by omega, ?_⟩, ?_⟩
  · rw [sIn (by decide)]; exact h.2.1
  · rw [sIe, e, nI_1]
  · rw [sIn (by decide)]; exact h.2.2.2
theorem PB_I {i : Nat} {y : Int32} (hi : i = 7 ∨ i = 9) (h : PB n u w) : PB n u (sI w i y) := by
  refine ⟨FrB_I (by unfold kBI; omega) h.1, ?_, ?_, ?_⟩
  · rw [sIn (by omega)]; exact h.2.1
  · rw [sIn (by omega)]; exact h.2.2.1
  · rw [sIn (by omega)]; exact h.2.2.2
theorem ffT (h : PB n u w) : TO (PB n u) (f_X2_findFault w) := by
  unfold f_X2_findFault
  exact to_c (fun _ => to_l (to_s (PB_I (by omega) h))) (fun _ => to_s h)
theorem emT (a : Int32) (h : PB n u w) : TO (PB n u) (f_X2_emit a w) := by
  obtain ⟨f, e5, e8, ⟨d, hd, e6⟩⟩ := id h
  unfold f_X2_emit
  rw [e6]
  refine to_c (fun _ => to_s h) (fun c => ?_)
  have hd2 : d < 80 := ltn (n := 80) (by omega) c
  refine to_i (by decide) ⟨d, hd2, rfl⟩ (to_l ?_)
  rw [gI_tA, e6, lt_e, nI_1]
  refine to_s ⟨FrB_I (by unfold kBI; omega) (FrB_A (by unfold kBA; omega) f), ?_, ?_, d + 1, by omega, sIe⟩
  · rw [sIn (by decide)]; exact e5
  · rw [sIn (by decide)]; exact e8
theorem exT (hn : n ≤ 80) {a : Int32} (ha : ¬ (-1 : Int32) = a) (h : PB n u w) : TO (PB n u) (f_X2_expect a w) := by
  unfold f_X2_expect
  refine to_c (fun _ => ?_) (fun _ => to_s h)
  refine to_b (pkT hn h) (fun r y hy => ?_)
  obtain ⟨e, q⟩ := hy
  have e : y = w := e
  subst e
  refine to_c (fun c => to_l (to_s (adv h (q.resolve_left (fun z => ha (by rw [← c]; exact z.symm)))))) (fun _ => to_v (ffT h) (fun z hz => to_s hz))
theorem idT (a : Int32) (w : SS) : TO (fun p : Int32 × SS => p.2 = w ∧ (p.1 = 0 ∨ ¬ a = -1)) (f_X2_isDigit a w) := by
  unfold f_X2_isDigit
  refine to_c (fun _ => to_s ⟨rfl, Or.inl rfl⟩) (fun c => to_c (fun _ => to_s ⟨rfl, Or.inl rfl⟩) (fun _ => to_s ⟨rfl, Or.inr (fun z => c ?_)⟩))
  rw [z]; decide
theorem inT (a : Int32) (w : SS) : TO (fun p : Int32 × SS => p.2 = w ∧ (p.1 = 0 ∨ ¬ a = -1)) (f_X2_isName a w) := by
  by_cases c : a = -1
  · subst c
    unfold f_X2_isName
    rw [if_pos (by decide)]; exact to_s ⟨rfl, Or.inl rfl⟩
  · exact to_w (inmT a w) (fun p q => ⟨q.1, Or.inr c⟩)
theorem rnT (hn : n ≤ 80) (h : PB n u w) : TO (PB n u) (f_X2_readNumber w) := by
  have L49 : ∀ (b : Int32) (y : SS), PB n u y → TO (PB n u) (f_X2_readNumber_L49 b y) := by
    intro b y hy
    unfold f_X2_readNumber_L49
    exact to_l (to_v (emT b (PB_I (by omega) hy)) (fun z hz => to_s hz))
  refine loopR (fun F (x : Int32 × Int32 × SS) => f_X2_readNumber_L4 F x.1 x.2.1 x.2.2) (fun i x => x.2.1 = nI i ∧ PB n u x.2.2) _ 6 ?_ (F := FU) (x := ((0 : Int32), (0 : Int32), w)) (Nat.lt_trans (by decide) FU_ge) ⟨rfl, h⟩
  intro F x i hi hI hc2
  obtain ⟨b1, b2, y⟩ := x
  obtain ⟨e, f⟩ := hI
  have e : b2 = nI i := e
  have f : PB n u y := f
  subst e
  show TO _ (b_X2_readNumber_L4 (f_X2_readNumber_L4 F) b1 (nI i) y)
  unfold b_X2_readNumber_L4
  refine to_c (fun _ => L49 _ _ f) (fun c1 => ?_)
  have hi2 : i < 6 := ltn (n := 6) (by omega) c1
  refine to_b (pkT hn f) (fun r z hz => ?_)
  obtain ⟨e, q⟩ := hz
  have e : z = y := e
  subst e
  refine to_b (idT r z) (fun r2 z2 h2 => ?_)
  obtain ⟨e, q2⟩ := h2
  have e : z2 = z := e
  subst e
  refine to_c (fun _ => L49 _ _ f) (fun c => ?_)
  have nx : NX n z2 := q.resolve_left (fun y => (q2.resolve_left c) y)
  refine to_b (pkT hn f) (fun r3 z3 h3 => ?_)
  obtain ⟨e, -⟩ := h3
  have e : z3 = z2 := e
  subst e
  rw [lt_e, lt_e, lt_e, nI_1]
  exact hc2 (_, nI (i + 1), _) hi2 ⟨rfl, adv f nx⟩
/-- what the reader's recursion gives -/
def SP (n : Nat) (u : SS) (d : Nat) (kS : Int32 → SS → Option SS) : Prop := ∀ w : SS, PB n u w → TO (PB n u) (kS (nI d) w)
theorem rbT (hn : n ≤ 80) {d : Nat} (hd : d ≤ 6) {kS : Int32 → SS → Option SS} (hS : d < 6 → SP n u (d + 1) kS) (a : Int32) (h : PB n u w) : TO (PB n u) (f_X2_readBracket kS (nI d) a w) := by
  unfold f_X2_readBracket f_X2_readBracket_L15 f_X2_readBracket_L62
  refine to_b (pkT hn h) (fun r y hy => ?_)
  obtain ⟨e, q⟩ := hy
  have e : y = w := e
  subst e
  have F : TO (PB n u) (ov (f_X2_findFault y) fun u5 => some u5) := to_v (ffT h) (fun z hz => to_s hz)
  refine to_c (fun c => to_c (fun c2 => ?_) (fun _ => F)) (fun _ => F)
  have d6 : d < 6 := (nI_ltI (b := 6) (by omega) (by decide)).mp c2
  have nx : NX n y := q.resolve_left (fun z => absurd (c.symm.trans z) (by decide))
  have X : ∀ z : SS, PB n u z → TO (PB n u) (ov (f_X2_expect (41 : Int32) z) fun u10 => some u10) := fun z hz => to_v (exT hn (by decide) hz) (fun q hq => to_s hq)
  rw [nI_1]
  refine to_l (to_v (hS d6 _ (adv h nx)) (fun z hz => to_c (fun _ => X z hz) (fun _ => ?_)))
  exact to_v (exT hn (by decide) hz) (fun q hq => to_c (fun _ => to_v (hS d6 _ hq) (fun q2 h2 => X q2 h2)) (fun _ => X q hq))
theorem ruT (hn : n ≤ 80) {d : Nat} (hd : d ≤ 6) {kS : Int32 → SS → Option SS} (hS : d < 6 → SP n u (d + 1) kS) (h : PB n u w) : TO (PB n u) (f_X2_readUnit kS (nI d) w) := by
  unfold f_X2_readUnit f_X2_readUnit_L82
  refine to_b (pkT hn h) (fun r y hy => ?_)
  obtain ⟨e, q⟩ := hy
  have e : y = w := e
  subst e
  refine to_b (idT r y) (fun r2 z hz => ?_)
  obtain ⟨e, q2⟩ := hz
  have e : z = y := e
  subst e
  refine to_c (fun _ => ?_) (fun _ => to_v (rnT hn h) (fun q hq => to_s hq))
  refine to_b (inT r z) (fun r3 x hx => ?_)
  obtain ⟨e, q3⟩ := hx
  have e : x = z := e
  subst e
  refine to_c (fun _ => ?_) (fun c => ?_)
  · refine to_c (fun _ => to_v (rbT hn hd hS _ h) (fun q hq => to_s hq)) (fun _ => ?_)
    have L : ∀ c : Int32, r = c → ¬ (-1 : Int32) = c → TO (PB n u) (lt (sI x 8 ((gI x 8) + (1 : Int32))) fun u10 => ov (f_X2_readBracket kS (nI d) (1 : Int32) u10) fun u12 => ov (f_X2_emit (-r) u12) fun u14 => some u14) := by
      intro c hc hn1
      have nx : NX n x := q.resolve_left (fun z => hn1 (by rw [← hc]; exact z.symm))
      exact to_l (to_v (rbT hn hd hS _ (adv h nx)) (fun q hq => to_v (emT _ hq) (fun q2 h2 => to_s h2)))
    exact to_c (fun c => L 60 c (by decide)) (fun _ => to_c (fun c => L 62 c (by decide)) (fun _ => to_v (ffT h) (fun q hq => to_s hq)))
  · have nx : NX n x := q.resolve_left (fun z => (q3.resolve_left c) z)
    exact to_l (to_l (to_v (emT _ (PB_I (by omega) (adv h nx))) (fun q hq => to_s hq)))
theorem rtT (hn : n ≤ 80) {d : Nat} (hd : d ≤ 6) {kS : Int32 → SS → Option SS} (hS : d < 6 → SP n u (d + 1) kS) (h : PB n u w) : TO (PB n u) (f_X2_readTerm kS (nI d) w) := by
  unfold f_X2_readTerm
  refine to_v (ruT hn hd hS h) (fun y hy => ?_)
  refine loopR (fun F (x : Int32 × SS) => f_X2_readTerm_L7 kS F (nI d) x.1 x.2) (fun i x => x.1 = nI i ∧ PB n u x.2) _ 80 ?_ (F := FU) (x := ((0 : Int32), y)) (Nat.lt_trans (by decide) FU_ge) ⟨rfl, hy⟩
  intro F x i hi hI hc2
  obtain ⟨b2, y⟩ := x
  obtain ⟨e, f⟩ := hI
  have e : b2 = nI i := e
  have f : PB n u y := f
  subst e
  show TO _ (b_X2_readTerm_L7 kS (f_X2_readTerm_L7 kS F) (nI d) (nI i) y)
  unfold b_X2_readTerm_L7 f_X2_readTerm_L39
  refine to_c (fun _ => to_s f) (fun c1 => to_c (fun _ => ?_) (fun _ => to_s f))
  have hi2 : i < 80 := ltn (n := 80) (by omega) c1
  refine to_b (pkT hn f) (fun r z hz => ?_)
  obtain ⟨e, q⟩ := hz
  have e : z = y := e
  subst e
  have L : ∀ c : Int32, r = c → ¬ (-1 : Int32) = c → TO (PB n u) (lt (sI z 8 ((gI z 8) + (1 : Int32))) fun u6 => ov (f_X2_readUnit kS (nI d) u6) fun u8 => ov (f_X2_emit (-r) u8) fun u10 => lt (nI i + (1 : Int32)) fun x11 => f_X2_readTerm_L7 kS F (nI d) x11 u10) := by
    intro c hc hn1
    have nx : NX n z := q.resolve_left (fun y => hn1 (by rw [← hc]; exact y.symm))
    refine to_l (to_v (ruT hn hd hS (adv f nx)) (fun q hq => to_v (emT _ hq) (fun q2 h2 => ?_)))
    rw [lt_e, nI_1]; exact hc2 (nI (i + 1), q2) hi2 ⟨rfl, h2⟩
  exact to_c (fun c => L 42 c (by decide)) (fun _ => to_c (fun c => L 47 c (by decide)) (fun _ => to_s f))
theorem rsT (hn : n ≤ 80) {d : Nat} (hd : d ≤ 6) {kS : Int32 → SS → Option SS} (hS : d < 6 → SP n u (d + 1) kS) (h : PB n u w) : TO (PB n u) (f_X2_readSum kS (nI d) w) := by
  unfold f_X2_readSum
  refine to_v (rtT hn hd hS h) (fun y hy => ?_)
  refine loopR (fun F (x : Int32 × SS) => f_X2_readSum_L7 kS F (nI d) x.1 x.2) (fun i x => x.1 = nI i ∧ PB n u x.2) _ 80 ?_ (F := FU) (x := ((0 : Int32), y)) (Nat.lt_trans (by decide) FU_ge) ⟨rfl, hy⟩
  intro F x i hi hI hc2
  obtain ⟨b2, y⟩ := x
  obtain ⟨e, f⟩ := hI
  have e : b2 = nI i := e
  have f : PB n u y := f
  subst e
  show TO _ (b_X2_readSum_L7 kS (f_X2_readSum_L7 kS F) (nI d) (nI i) y)
  unfold b_X2_readSum_L7 f_X2_readSum_L39
  refine to_c (fun _ => to_s f) (fun c1 => to_c (fun _ => ?_) (fun _ => to_s f))
  have hi2 : i < 80 := ltn (n := 80) (by omega) c1
  refine to_b (pkT hn f) (fun r z hz => ?_)
  obtain ⟨e, q⟩ := hz
  have e : z = y := e
  subst e
  have L : ∀ c : Int32, r = c → ¬ (-1 : Int32) = c → TO (PB n u) (lt (sI z 8 ((gI z 8) + (1 : Int32))) fun u6 => ov (f_X2_readTerm kS (nI d) u6) fun u8 => ov (f_X2_emit (-r) u8) fun u10 => lt (nI i + (1 : Int32)) fun x11 => f_X2_readSum_L7 kS F (nI d) x11 u10) := by
    intro c hc hn1
    have nx : NX n z := q.resolve_left (fun y => hn1 (by rw [← hc]; exact y.symm))
    refine to_l (to_v (rtT hn hd hS (adv f nx)) (fun q hq => to_v (emT _ hq) (fun q2 h2 => ?_)))
    rw [lt_e, nI_1]; exact hc2 (nI (i + 1), q2) hi2 ⟨rfl, h2⟩
  exact to_c (fun c => L 43 c (by decide)) (fun _ => to_c (fun c => L 45 c (by decide)) (fun _ => to_s f))
theorem frT (hn : n ≤ 80) : ∀ (m d f : Nat), d + m = 6 → m < f → SP n u d (fr_X2_readSum f) := by
  intro m
  induction m with
  | zero =>
    intro d f h1 h2 w hw
    match f, h2 with
    | f + 1, _ => exact rsT hn (by omega) (fun z => absurd z (by omega)) hw
  | succ m ih =>
    intro d f h1 h2 w hw
    match f, h2 with
    | f + 1, h2 => exact rsT hn (by omega) (fun _ => ih (d + 1) f (by omega) (by omega)) hw
/-- the class's formula: the tape is empty, the text may be new -/
def FMB (u w : SS) : Prop := (∀ i : Nat, kBI i → i ≠ 4 → i ≠ 5 → gI w i = gI u i) ∧ (∀ a : Nat, kBA a → a ≠ 13 → gA w a = gA u a) ∧ gI w 5 = 0 ∧ ∃ d : Nat, d ≤ 80 ∧ gI w 4 = nI d
theorem gA_cp {w : SS} {a b c : Nat} {x : Int32} (h : c ≠ b) : gA (cpA w a b x) c = gA w c := if_neg h
theorem gI_cp {w : SS} {a b c : Nat} {x : Int32} : gI (cpA w a b x) c = gI w c := rfl
theorem foB_T (h : RT k u v) : TO (fun p : Int32 × SS => FMB u p.2) (f_X9_formula u) := by
  obtain ⟨n, hn, e5, -⟩ := h.2.2.2.2.2.2.2.2.1
  obtain ⟨m4, -, hm4, -, e4, -, -⟩ := h.2.2.2.2.2.2.2.2.2.1
  unfold f_X9_formula f_X2_readTape
  refine to_b (Q := fun p => FMB u p.2) ?_ (fun _ _ q => to_s q)
  refine to_l (to_l (to_l (to_l ?_)))
  have h0 : PB n u (sI (sI (sI (sI u 6 0) 7 0) 8 0) 9 (-1)) := ⟨FrB_I (by unfold kBI; omega) (FrB_I (by unfold kBI; omega) (FrB_I (by unfold kBI; omega) (FrB_I (by unfold kBI; omega) (FrB_r u)))), e5, ⟨0, by omega, rfl⟩, ⟨0, by omega, rfl⟩⟩
  refine to_v (frT hn 6 0 10 rfl (by decide) _ h0) (fun w hw => ?_)
  have L40 : ∀ y : SS, PB n u y → TO (fun p : Int32 × SS => FMB u p.2) (f_X2_readTape_L40 y) := by
    intro y hy
    obtain ⟨f, g5, -, ⟨d, hd, g6⟩⟩ := hy
    unfold f_X2_readTape_L40
    refine to_l (to_c (fun _ => ?_) (fun _ => to_s ?_))
    · have g6b : gI (sI y 5 0) 6 = nI d := g6
      rw [g6b]
      refine to_n (nI_pos (by omega)) (to_n (by rw [nI_clamp (by omega)]; omega) (to_l (to_l (to_s ?_))))
      refine ⟨fun i hi h4 h5 => ?_, fun a ha h13 => ?_, ?_, d, hd, ?_⟩
      · show gI (sI (cpA (sI y 5 0) 15 13 (nI d)) 4 _) i = _
        rw [sIn h4, gI_cp, sIn h5]; exact f.1 i hi
      · show gA (sI (cpA (sI y 5 0) 15 13 (nI d)) 4 _) a = _
        rw [gA_sI, gA_cp h13]; exact f.2 a ha
      · show gI (sI (cpA (sI y 5 0) 15 13 (nI d)) 4 _) 5 = _
        rw [sIn (by decide), gI_cp, sIe]
      · show gI (sI (cpA (sI y 5 0) 15 13 (nI d)) 4 _) 4 = _
        rw [sIe, gI_cp]; exact g6b
    · refine ⟨fun i hi h4 h5 => ?_, fun a ha h13 => f.2 a ha, sIe, m4, hm4, ?_⟩
      · show gI (sI y 5 0) i = _
        rw [sIn h5]; exact f.1 i hi
      · show gI (sI y 5 0) 4 = _
        rw [sIn (by decide), f.1 4 (by unfold kBI; omega)]; exact e4
  exact to_c (fun _ => L40 w hw) (fun _ => to_v (ffT hw) (fun y hy => L40 y hy))
end ST19
