section ST40
variable {k n : Nat} {u v w x y : SS}
/-! formula: the same answer, and the codes and the text have the same value -/
theorem fm69a {m : Nat} (hm : m ≤ 80) : TO (fun p : Int32 × SS => p.1 = gI w 14) (f_X10_formula_L69 FU (nI m) (0 : Int32) w) := by
  refine loopR (fun F (x : Int32 × SS) => f_X10_formula_L69 F (nI m) x.1 x.2) (fun i x => x.1 = nI i ∧ gI x.2 14 = gI w 14) _ m ?_ (F := FU) (x := ((0 : Int32), w)) (Nat.lt_trans (show m < 1000 by omega) FU_ge) ⟨rfl, rfl⟩
  intro F x i hi hI hc
  obtain ⟨b2, y⟩ := x
  obtain ⟨e, g⟩ := hI
  have e : b2 = nI i := e
  have g : gI y 14 = gI w 14 := g
  subst e
  show TO _ (b_X10_formula_L69 (f_X10_formula_L69 F) (nI m) (nI i) y)
  unfold b_X10_formula_L69
  by_cases c : m ≤ i
  · rw [if_pos (nI_le c (by omega)), lt_e]
    refine to_s ?_
    show gI (sI y 16 0) 14 = _
    rw [sIn (by decide)]; exact g
  · rw [if_neg (nI_ge (by omega) (by omega)), oi_nI (by decide) (show i < 80 by omega), oi_nI (by decide) (show i < 80 by omega), lt_e, lt_e, nI_1]
    exact hc (nI (i + 1), _) (by omega) ⟨rfl, g⟩
theorem EVv_0 {N : Nat → Fq} (hn : ∀ j : Nat, j < 7 → gL w 0 j = iL (N j).1 ∧ gL w 1 j = lN (N j).2 ∧ fb (N j)) : EVv N [] (sI (sI (sI (sI (sI (sI (sI w 8 0) 9 0) 10 0) 11 0) 14 0) 12 0) 13 0) := ⟨hn, ⟨0, rfl, rfl, by decide⟩, Or.inl ⟨[], rfl, rfl, rfl, trivial⟩, fun c hc => absurd hc List.not_mem_nil⟩
theorem EVv_1 {N : Nat → Fq} {D : List Int32} (h : EVv N D y) (e8 : gI y 8 = 1) : dpl D = some 1 ∧ (∀ c ∈ D, okc c) ∧ ((∃ f : Fq, evl N D = some [f] ∧ fb f ∧ gI y 13 = 0 ∧ gL y 2 0 = iL f.1 ∧ gL y 3 0 = lN f.2) ∨ (evl N D = none ∧ gI y 13 = 1)) := by
  obtain ⟨-, ⟨q, eq, e8b, q100⟩, hv, hT⟩ := h
  have q1 : q = 1 := (nI_eq (by omega) (by decide)).mp (e8b.symm.trans e8)
  subst q1
  refine ⟨eq, hT, ?_⟩
  rcases hv with ⟨S, es, ds, e13, hr⟩ | z
  · have l1 : S.length = 1 := by rw [eq] at ds; exact (Option.some.inj ds).symm
    match S, l1, es, hr with
    | [f], _, es, hr => exact Or.inl ⟨f, es, hr.2.2.1, e13, hr.1, hr.2.1⟩
    | [], l1, _, _ => exact absurd l1 (by show ¬ 0 = 1; omega)
    | _ :: _ :: _, l1, _, _ => exact absurd (Nat.succ.inj l1) (Nat.succ_ne_zero _)
  · exact Or.inr z
theorem NMI_N {N : Nat → Fq} (hn : ∀ j : Nat, j < 7 → gL w 0 j = iL (N j).1 ∧ gL w 1 j = lN (N j).2 ∧ fb (N j)) : NMI w := by
  intro j hj
  obtain ⟨e0, e1, f1, f2, f3, f4⟩ := hn j hj
  unfold QE
  rw [e0, e1, iL_t (by omega) (by omega), pk_lT (by omega)]
  exact ⟨⟨f1, f2⟩, by omega, by omega⟩
theorem getD_x : ∀ {A B : List Int32}, A.length = B.length → (∀ j : Nat, j < A.length → A.getD j 0 = B.getD j 0) → A = B
  | [], [], _, _ => rfl
  | [], _ :: _, h, _ => absurd h (by intro z; exact absurd z.symm (Nat.succ_ne_zero _))
  | _ :: _, [], h, _ => absurd h (Nat.succ_ne_zero _)
  | a :: A, b :: B, h, he => by
    have e0 : a = b := he 0 (Nat.succ_pos _)
    rw [e0, getD_x (Nat.succ.inj h) (fun j hj => he (j + 1) (Nat.succ_lt_succ hj))]
theorem st_formulaF (h : RT k u v) : ∃ (r : Int32) (u2 v2 : SS), f_X9_formula u = some (r, u2) ∧ f_X10_formula v = some (r, v2) ∧ RT (k + 1) u2 v2 ∧ FMB u u2 ∧ FMM v v2 ∧ ((gI u2 4 = gI u 4 ∧ gA u2 13 = gA u 13 ∧ gI v2 16 = gI v 16 ∧ gI v2 17 = gI v 17 ∧ gI v2 18 = gI v 18) ∨ gI v2 16 = 0) := by
  obtain ⟨⟨r, u2⟩, e1, f1⟩ := foB_T h
  obtain ⟨⟨r2, v2⟩, e2, f2⟩ := foM_T h
  obtain ⟨n, hn, e5, e6, hb⟩ := h.2.2.2.2.2.2.2.2.1
  obtain ⟨d0, m0, hd0, hm0, e40, e70, -, fe0⟩ := h.2.2.2.2.2.2.2.2.2.1
  have cl : ∀ (ra : Int32) (c2 : SS), f_X2_readTape u = some (ra, c2) → ra = r ∧ c2 = u2 := by
    intro ra c2 e
    unfold f_X9_formula at e1
    rw [e, ob_s] at e1
    exact Prod.mk.inj (Option.some.inj e1)
  have key : TO (fun p : Int32 × SS => p.1 = r ∧ ((gI u2 4 = gI u 4 ∧ gA u2 13 = gA u 13 ∧ gI p.2 7 = gI v 7 ∧ gA p.2 13 = gA v 13 ∧ gI p.2 16 = gI v 16 ∧ gI p.2 17 = gI v 17 ∧ gI p.2 18 = gI v 18) ∨ (∃ (U : Nat) (D : List Int32), f_X2_readTape u = some (nI U, u2) ∧ gI u2 4 = nI D.length ∧ D.length ≤ 80 ∧ (∀ j, j < D.length → gA u2 13 j = D.getD j 0) ∧ dpl D = some 1 ∧ (∀ c ∈ D, okc c) ∧ gI p.2 7 = nI n ∧ (∀ j, j < n → gA p.2 13 j = gA u 14 j) ∧ gI p.2 16 = 0))) (f_X10_formula v) := by
    refine loopR (fun F (x : Int32 × SS) => f_X10_formula_L2 F x.1 x.2) (fun i x => x.1 = nI i ∧ (∀ j : Nat, gI x.2 j = gI v j) ∧ (∀ a : Nat, gA x.2 a = gA v a) ∧ ∀ j : Nat, j < i → gL x.2 0 j = 1 ∧ gL x.2 1 j = 1) _ 7 ?_ (F := FU) (x := ((0 : Int32), v)) (Nat.lt_trans (by decide) FU_ge) ⟨rfl, fun _ => rfl, fun _ => rfl, fun j hj => absurd hj (by omega)⟩
    intro F x i hi hI hc2
    obtain ⟨b2, y⟩ := x
    obtain ⟨e, g1, g2, g3⟩ := hI
    have e : b2 = nI i := e
    have g1 : ∀ j : Nat, gI y j = gI v j := g1
    have g2 : ∀ a : Nat, gA y a = gA v a := g2
    have g3 : ∀ j : Nat, j < i → gL y 0 j = 1 ∧ gL y 1 j = 1 := g3
    subst e
    show TO _ (b_X10_formula_L2 (f_X10_formula_L2 F) (nI i) y)
    unfold b_X10_formula_L2
    by_cases c : i = 7
    · subst c
      rw [if_pos (show (7 : Int32) ≤ nI 7 by decide), g1 6, e6, lt_e, lt_e]
      have f11 : fb ((1, 1) : Fq) := ⟨by decide, by decide, by decide, by decide⟩
      have i1 : (1 : Int64) = iL (1 : Int) := by decide
      have l1 : (1 : Int64) = lN 1 := by decide
      have n1 : ∀ j : Nat, j < 7 → gL (sI y 6 0) 0 j = iL ((fun _ => (1, 1) : Nat → Fq) j).1 ∧ gL (sI y 6 0) 1 j = lN ((fun _ => (1, 1) : Nat → Fq) j).2 ∧ fb ((fun _ => (1, 1) : Nat → Fq) j) := fun j hj => ⟨(g3 j hj).1.trans i1, (g3 j hj).2.trans l1, f11⟩
      have nm : NMI (sI y 6 0) := NMI_11 g3
      obtain ⟨z, ez0, mz⟩ := wtM13 hn (PK_r (sI y 6 0)) nm
      have zI : ∀ i : Nat, kPI i → i ≠ 6 → gI z i = gI v i := fun i hi h6 => by rw [mz.1 i hi, sIn h6]; exact g1 i
      have zA : ∀ a : Nat, a ≠ 14 → gA z a = gA v a := fun a ha => by rw [mz.2 a (by unfold kPA; omega)]; exact g2 a
      rcases txX13 (EVp := EVv (fun _ => (1, 1))) (u := u) (w := sI y 6 0) hn (EOK_v _) e5 (fun p hp => by rw [gA_sI, g2 12]; exact hb p hp) nm (EVv_0 n1) with ⟨p, c2, z2, ec, ez, z12, z11, c4, c13⟩ | ⟨U, D, c2, z2, ec, c4, hD, c13, ez, z12, z14, ev, z8⟩
      · obtain ⟨er, eu⟩ := cl _ _ ec
        rw [ez] at ez0
        have ez0 : z2 = z := Option.some.inj ez0
        subst ez0
        subst eu
        rw [ez, ov_s, z12, if_neg nz_1]
        refine to_s ⟨?_, Or.inl ⟨c4, c13, ?_, ?_, zI 16 (by unfold kPI; omega) (by decide), zI 17 (by unfold kPI; omega) (by decide), zI 18 (by unfold kPI; omega) (by decide)⟩⟩
        · show (-20 : Int32) - gI z2 11 = r
          rw [z11]; exact er
        · exact zI 7 (by unfold kPI; omega) (by decide)
        · exact zA 13 (by decide)
      · obtain ⟨er, eu⟩ := cl _ _ ec
        rw [ez] at ez0
        have ez0 : z2 = z := Option.some.inj ez0
        subst ez0
        subst eu
        rw [ez, ov_s, z12, if_pos rfl, lt_e]
        obtain ⟨⟨pa, pb⟩, ep, q1⟩ := fm69a (w := sI z2 7 (nI n)) hn
        obtain ⟨⟨pc, pd⟩, ep2, p1, p2, p16, p13⟩ := fm69 (w := sI z2 7 (nI n)) hn
        rw [ep] at ep2
        obtain ⟨w1, w2⟩ := Prod.mk.inj (Option.some.inj ep2)
        subst w1
        subst w2
        rw [ep]
        obtain ⟨dd, dk, -⟩ := EVv_1 ev z8
        have q1 : pa = gI (sI z2 7 (nI n)) 14 := q1
        refine to_s ⟨?_, Or.inr ⟨U, D, ec, c4, hD, c13, dd, dk, ?_, fun j hj => ?_, p16⟩⟩
        · show pa = r
          rw [q1, sIn (by decide), z14]; exact er
        · exact (p1 7 (by decide)).trans sIe
        · exact (p13 j hj).trans (by rw [gA_sI, zA 12 (by decide)]; exact hb j hj)
    · have hi2 : i < 7 := by omega
      rw [if_neg (show ¬ (7 : Int32) ≤ nI i from nI_ge (b := 7) hi2 (by decide))]
      refine to_i (by decide) ⟨i, hi2, rfl⟩ (to_l (to_i (by decide) ⟨i, hi2, rfl⟩ (to_l ?_)))
      rw [lt_e, nI_1]
      refine hc2 (nI (i + 1), _) hi2 ⟨rfl, g1, g2, fun j hj => ?_⟩
      show gL (tL (tL y 0 (nI i) 1) 1 (nI i) 1) 0 j = 1 ∧ gL (tL (tL y 0 (nI i) 1) 1 (nI i) 1) 1 j = 1
      rw [tLn (show (0 : Nat) ≠ 1 by decide), tLe, tLe, tLn (show (1 : Nat) ≠ 0 by decide), nI_clamp (by omega)]
      by_cases z : j = i
      · rw [z, updL_s, updL_s]; exact ⟨rfl, rfl⟩
      · rw [updL_n _ _ z, updL_n _ _ z]; exact g3 j (by omega)
  obtain ⟨⟨r3, v3⟩, e3, q, hx⟩ := key
  have q : r3 = r := q
  obtain ⟨w1, w2⟩ := Prod.mk.inj (Option.some.inj (e2.symm.trans e3))
  subst w1
  subst w2
  subst q
  refine ⟨r2, u2, v2, e1, e2, RT_fm h f1 f2 (fun d m hd hm e4 e7 => ?_), f1, f2, hx.elim (fun q => Or.inl ⟨q.1, q.2.1, q.2.2.2.2⟩) (fun ⟨_, _, q⟩ => Or.inr q.2.2.2.2.2.2.2.2)⟩
  rcases hx with ⟨a1, a2, a3, a4, -⟩ | ⟨U, D, ec, c4, hD, c13, dd, dk, a3, a4, -⟩
  · have a3 : gI v2 7 = gI v 7 := a3
    have a4 : gA v2 13 = gA v 13 := a4
    have ed : d = d0 := (nI_eq (by omega) (by omega)).mp (e4.symm.trans (a1.trans e40))
    have em : m = m0 := (nI_eq (by omega) (by omega)).mp (e7.symm.trans (a3.trans e70))
    rw [ed, em, a2, a4]; exact fe0
  · have a3 : gI v2 7 = nI n := a3
    have ed : d = D.length := (nI_eq (by omega) (by omega)).mp (e4.symm.trans c4)
    have em : m = n := (nI_eq (by omega) (by omega)).mp (e7.symm.trans a3)
    subst ed
    subst em
    obtain ⟨-, -, -, -, -, -, m2, hm2, e72, gd⟩ := f2
    have em2 : m2 = m := (nI_eq (by omega) (by omega)).mp (e72.symm.trans a3)
    subst em2
    refine ⟨D, rfl, c13, dd, dk, fun N w hN hw => ?_⟩
    have nm : NMI w := NMI_N hN
    rcases txX14 (EVp := EVv N) (u := u) (w := w) hn (EOK_v N) e5 (fun p hp => (hw p hp).trans (a4 p hp)) nm (EVv_0 hN) with ⟨p, c2, y, -, ey, y12, -⟩ | ⟨U2, D2, c2, y, ec2, g4, hD2, g13, ey, -, -, ev, y8⟩
    · obtain ⟨y2, ey2, y0, -⟩ := gd w nm hw
      rw [ey] at ey2
      have ey2 : y = y2 := Option.some.inj ey2
      rw [ey2, y0] at y12
      exact absurd y12 n01
    · have ec3 := Prod.mk.inj (Option.some.inj (ec2.symm.trans ec))
      have ec4 : c2 = u2 := ec3.2
      subst ec4
      have el : D2.length = D.length := (nI_eq (by omega) (by omega)).mp (g4.symm.trans c4)
      have eD : D2 = D := getD_x el (fun j hj => (g13 j hj).symm.trans (c13 j (by omega)))
      subst eD
      exact ⟨y, ey, (EVv_1 ev y8).2.2⟩
theorem st_formulaE (h : RT k u v) : QQ (RT (k + 1)) (f_X9_formula u) (f_X10_formula v) := by
  obtain ⟨r, u2, v2, e1, e2, hR, -⟩ := st_formulaF h
  exact ⟨r, u2, r, v2, e1, e2, hR, rfl⟩
theorem st_formulaT (h : RT k u v) : QN (RT (k + 1)) (f_X9_formula u) (f_X10_formula v) := qq_n (st_formulaE h)
/-- the text 'q' and the code of q -/
theorem FEv_q {a b : Nat → Int32} (ha : a 0 = -113) (hb0 : b 0 = 113) : FEv a 1 b 1 := by
  have en : ∀ q : SS, f_X10_nameOf 113 q = some (4, q) := by
    intro q
    unfold f_X10_nameOf
    rw [if_neg (by decide), if_neg (by decide), if_neg (by decide), if_neg (by decide), if_neg (by decide), if_neg (by decide), if_neg (by decide), if_neg (by decide), if_neg (by decide), if_neg (by decide), if_neg (by decide), if_neg (by decide), if_neg (by decide), if_neg (by decide), if_neg (by decide), if_neg (by decide), if_neg (by decide), if_pos rfl]
  have nx : nix 113 = some 4 := nix_t (w := uM0) (r := 4) (by decide) (en uM0)
  have cc : -(-113 : Int32) = 113 := by decide
  refine ⟨[-113], rfl, fun j hj => ?_, ?_, fun c hc => ?_, fun N w hN hw => ?_⟩
  · have j0 : j = 0 := by omega
    subst j0
    exact ha
  · have gen : ∀ c : Int32, ¬ 0 ≤ c → nix (-c) = some 4 → dpc (some 0) c = some 1 := fun c c0 en => by
      show (if (0 : Int32) ≤ c then some (0 + 1) else _) = _
      rw [if_neg c0, en]
    exact gen (-113) (by decide) (by rw [cc]; exact nx)
  · rw [List.mem_singleton.mp hc]
    exact Or.inr ⟨by decide, Or.inl ⟨4, by decide, by rw [cc]; exact nx⟩⟩
  · have nm : NMI w := NMI_N hN
    have hb : gA w 13 0 = 113 := (hw 0 (by decide)).trans hb0
    have hE := EOK_v N
    have x0 : RX (EVv N) w 1 0 0 0 0 0 [] (sI (sI (sI (sI (sI (sI (sI w 8 0) 9 0) 10 0) 11 0) 14 0) 12 0) 13 0) := ⟨⟨0, PK_I (by unfold kPI; omega) (PK_I (by unfold kPI; omega) (PK_I (by unfold kPI; omega) (PK_I (by unfold kPI; omega) (PK_I (by unfold kPI; omega) (PK_I (by unfold kPI; omega) (PK_I (by unfold kPI; omega) (PK_r w))))))), nm, Or.inl rfl, rfl, rfl, rfl, rfl, by omega, by omega, fun j hj => absurd hj (by omega), rfl⟩, rfl, rfl, EVv_0 hN⟩
    have hU : ∀ y : SS, gA y 13 = gA w 13 → NMI y → RX (EVv N) w 1 0 0 0 0 0 [] y → ∃ z : SS, f_X10_readUnit_14 (nI 1) y = some (0, z) ∧ RX (EVv N) w 1 1 0 0 1 1 [-113] z := by
      intro y ey ny hy
      unfold f_X10_readUnit_14
      have e11 : gI y 11 = nI 0 := (RX_o hy).2.2.2.1
      have eb : f_X10_byteAt_14 (nI 1) (nI 0) y = some (113, y) := by
        unfold f_X10_byteAt_14
        rw [if_neg (show ¬ nI 1 ≤ nI 0 by decide), oi_nI (by decide) (by decide), nI_clamp (by decide), ey, hb]
      rw [e11, eb, ob_s, if_neg (by decide), if_neg (by decide), if_neg (by decide), en, ob_s, if_neg (by decide), en, ob_s, oi_in (by decide) (show rg 7 (4 : Int32) from ⟨4, by decide, by decide⟩), en, ob_s, oi_in (by decide) (show rg 7 (4 : Int32) from ⟨4, by decide, by decide⟩)]
      obtain ⟨z, ez, hz, -⟩ := phX (n := 1) (T2 := [] ++ [-113]) (by decide) (ny 4 (by decide)) hy (fun q eq => hE.2.2.1 [] y q 113 4 (by decide) (en y) ny hy.2.2.2 eq)
      have ez : f_X10_push (gL y 0 (4 : Int32).toNatClampNeg) (gL y 1 (4 : Int32).toNatClampNeg) y = some z := ez
      rw [ez, ov_s, (RX_o hz).2.2.2.1, nI_1, lt_e]
      exact ⟨_, rfl, RX_at hE (by omega) (by omega) hz⟩
    unfold f_X10_workText_14
    simp only [lt_e]
    obtain ⟨F, hF⟩ : ∃ F, FU = F + 2 := ⟨FU - 2, by have := FU_ge; omega⟩
    rw [hF]
    obtain ⟨z, ez, hz⟩ := hU (sI (sI (sI (sI (sI (sI (sI w 8 0) 9 0) 10 0) 11 0) 14 0) 12 0) 13 0) rfl nm x0
    have G : ∀ Q : SS → Prop, (∀ y : SS, EVv N [-113] y → gI y 8 = 1 → Q y) → ∃ y : SS, f_X10_workText_14_L37 (F + 2) (nI 1) (1 : Int32) (sI (sI (sI (sI (sI (sI (sI w 8 0) 9 0) 10 0) 11 0) 14 0) 12 0) 13 0) = some y ∧ Q y := by
      intro Q hQ
      show ∃ y : SS, b_X10_workText_14_L37 (f_X10_workText_14_L37 (F + 1)) (nI 1) (1 : Int32) (sI (sI (sI (sI (sI (sI (sI w 8 0) 9 0) 10 0) 11 0) 14 0) 12 0) 13 0) = some y ∧ Q y
      unfold b_X10_workText_14_L37 f_X10_workText_14_L56 f_X10_workText_14_L79
      rw [(RX_o x0).2.1, if_pos rfl, if_neg nz_1, if_neg nz_1, ez, ob_s]
      show ∃ y : SS, b_X10_workText_14_L37 (f_X10_workText_14_L37 F) (nI 1) (0 : Int32) z = some y ∧ Q y
      unfold b_X10_workText_14_L37 f_X10_workText_14_L83
      obtain ⟨-, z12, z9, z11, -, -⟩ := RX_o hz
      rw [z12, if_pos rfl, if_pos rfl, z11, if_pos (show nI 1 ≤ nI 1 by decide), if_pos rfl]
      obtain ⟨q, eq, hq, -⟩ := se1 (n := 1) (by decide) hE (RP_0 hz) (Or.inl rfl)
      rw [eq, ov_s, (RX_o hq).2.2.1, if_pos (show nI 0 ≤ (0 : Int32) by decide), lt_e]
      refine ⟨_, rfl, hQ _ (hE.1 _ q _ (sIn (by decide)) (sIn (by decide)) (fun a => rfl) hq.2.2.2) ?_⟩
      obtain ⟨h2, hw2⟩ := hq.1
      have eh : h2 = 0 + 1 := hw2.2.2.2.2.2.2.2.2.2.2
      have e8 : gI q 8 = nI h2 := hw2.2.2.2.2.1
      rw [sIn (by decide), e8, eh]; rfl
    exact G _ (fun y ev y8 => (EVv_1 ev y8).2.2)
theorem RT_0 : RT 0 uB0 uM0 := by
  refine ⟨⟨0, 1, by decide, by decide, by decide, rfl, rfl, rfl, rfl, rfl, Or.inl rfl⟩, ⟨fun i hi => ?_, eN_0 2⟩, fun i hi => ?_, fun b l hb hl => ⟨⟨rfl, Or.inl rfl⟩, ⟨rfl, eN_0 3⟩, ⟨rfl, eN_0 _⟩, ⟨rfl, eN_0 _⟩, fun j hj => ⟨rfl, eN_0 _⟩⟩, fun b l hb hl => ⟨Or.inl rfl, Or.inl rfl, fun _ => rfl⟩, fun b l hb hl => Or.inl ⟨rfl, ?_⟩, fun s b l hs hb hl => Or.inl ⟨?_, ?_⟩, fun s b hs hb => ⟨rfl, Or.inl rfl⟩, ⟨0, by decide, rfl, rfl, fun j hj => absurd hj (by omega)⟩, ⟨1, 1, by decide, by decide, rfl, rfl, GDT_q _, FEv_q rfl rfl⟩, ⟨fun b hb => ?_, fun b m hb hm => ⟨rfl, eN_0 _⟩⟩, ⟨fun _ => rfl, rfl, Or.inl rfl, rfl, Or.inl rfl, rfl, 0, Nat.le_refl _, rfl, 0, by decide, rfl, rfl, fun _ _ _ => rfl, fun i hi => absurd hi (by omega)⟩, ⟨0, by decide, rfl, rfl, fun i hi => absurd hi (by omega), fun i j hi => absurd hi (by omega), rfl, rfl, rfl, Or.inl rfl, Or.inl rfl⟩, fun l hl => Or.inr (eN_0 _), fun l hl => Or.inr (eN_0 _), Or.inl rfl, fun _ => rfl, trivial, fun _ => trivial⟩
  · match i, hi with
    | 0, _ => exact ⟨rfl, eN_0 _⟩
    | 1, _ => exact ⟨rfl, eN_0 _⟩
    | 2, _ => exact ⟨rfl, eN_0 _⟩
    | 3, _ => exact ⟨rfl, 50, by decide, rfl⟩
  · match i, hi with
    | 0, _ => exact ⟨rfl, 1000, by decide, rfl⟩
    | 1, _ => exact ⟨rfl, 1000, by decide, rfl⟩
    | 2, _ => exact ⟨rfl, 1000, by decide, rfl⟩
    | 3, _ => exact ⟨rfl, 1000, by decide, rfl⟩
  · show fG 0 48 (-1) (fun _ => 0) (8 * l + b) = -1
    exact if_pos (by omega)
  · show flF 288 (-9) (s * 48 + (b * 6 + l)) = -9
    exact if_pos (by omega)
  · show fG 0 288 (-1) (fun _ => 0) (48 * s + (8 * l + b)) = -1
    exact if_pos (by omega)
  · have e1 : gA uM0 16 b = 6 := by
      show fG 0 8 6 (fun _ => 0) b = 6
      exact if_pos (by omega)
    have e2 : gA uB0 20 b = 6 := by
      show flF 8 6 b = 6
      exact if_pos hb
    rw [e1, e2]; exact ⟨rfl, 6, by decide, rfl⟩
end ST40
