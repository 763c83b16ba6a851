section ST23
variable {k n : Nat} {u v v2 w x y : SS}
/-! two runs of the reference's reader over the same bytes: the one is bad iff the other is -/
def T2 {ρ σ : Type} (Q : ρ → σ → Prop) (a : Option ρ) (b : Option σ) : Prop := ∃ r s, a = some r ∧ b = some s ∧ Q r s
theorem t2_s {ρ σ : Type} {Q : ρ → σ → Prop} {r : ρ} {s : σ} (h : Q r s) : T2 Q (some r) (some s) := ⟨r, s, rfl, rfl, h⟩
theorem t2_w {ρ σ : Type} {P Q : ρ → σ → Prop} {a : Option ρ} {b : Option σ} (h : T2 P a b) (hi : ∀ r s, P r s → Q r s) : T2 Q a b := by
  obtain ⟨r, s, e1, e2, q⟩ := h
  exact ⟨r, s, e1, e2, hi r s q⟩
theorem t2_l {α β ρ σ : Type} {Q : ρ → σ → Prop} {e : α} {k : α → Option ρ} {e2 : β} {k2 : β → Option σ} (h : T2 Q (k e) (k2 e2)) : T2 Q (lt e k) (lt e2 k2) := h
theorem t2_c {ρ σ : Type} {Q : ρ → σ → Prop} {c : Prop} [d : Decidable c] {a b : Option ρ} {a2 b2 : Option σ} (h1 : c → T2 Q a a2) (h2 : ¬ c → T2 Q b b2) : T2 Q (if c then a else b) (if c then a2 else b2) := by
  by_cases h : c
  · rw [if_pos h, if_pos h]; exact h1 h
  · rw [if_neg h, if_neg h]; exact h2 h
theorem t2_v {ρ σ : Type} {P : SS → SS → Prop} {Q : ρ → σ → Prop} {a b : Option SS} {k : SS → Option ρ} {k2 : SS → Option σ} (h : T2 P a b) (hk : ∀ x y, P x y → T2 Q (k x) (k2 y)) : T2 Q (ov a k) (ov b k2) := by
  obtain ⟨r, s, rfl, rfl, q⟩ := h
  exact hk r s q
theorem t2_b {α β ρ σ : Type} {P : α × SS → β × SS → Prop} {Q : ρ → σ → Prop} {a : Option (α × SS)} {b : Option (β × SS)} {k : α → SS → Option ρ} {k2 : β → SS → Option σ} (h : T2 P a b) (hk : ∀ r x s y, P (r, x) (s, y) → T2 Q (k r x) (k2 s y)) : T2 Q (ob a k) (ob b k2) := by
  obtain ⟨⟨r, x⟩, ⟨s, y⟩, rfl, rfl, q⟩ := h
  exact hk r x s y q
theorem t2_i {ρ σ : Type} {Q : ρ → σ → Prop} {i j : Int32} {n m : Nat} {a : Option ρ} {b : Option σ} (hn : n < 2 ^ 31) (h : rg n i) (hm : m < 2 ^ 31) (h2 : rg m j) (hk : T2 Q a b) : T2 Q (oi i n a) (oi j m b) := by
  rw [oi_in hn h, oi_in hm h2]; exact hk
theorem t2_n {ρ σ : Type} {Q : ρ → σ → Prop} {c c2 : Prop} [d : Decidable c] [d2 : Decidable c2] {a : Option ρ} {b : Option σ} (h : ¬ c) (h2 : ¬ c2) (hk : T2 Q a b) : T2 Q (if c then none else a) (if c2 then none else b) := by
  rw [if_neg h, if_neg h2]; exact hk
theorem t2_of {ρ σ : Type} {P : ρ → Prop} {R : σ → Prop} {a : Option ρ} {b : Option σ} (h : TO P a) (h2 : TO R b) : T2 (fun r s => P r ∧ R s) a b := by
  obtain ⟨r, e, p⟩ := h
  obtain ⟨s, e2, q⟩ := h2
  exact ⟨r, s, e, e2, p, q⟩
theorem loop2 {τ υ ρ σ : Type} (g : Nat → τ → Option ρ) (g2 : Nat → υ → Option σ) (I : Nat → τ → υ → Prop) (Q : ρ → σ → Prop) (n : Nat) (hs : ∀ F x y i, i ≤ n → I i x y → (∀ x2 y2, i < n → I (i + 1) x2 y2 → T2 Q (g F x2) (g2 F y2)) → T2 Q (g (F + 1) x) (g2 (F + 1) y)) {F : Nat} {x : τ} {y : υ} (hF : n < F) (h : I 0 x y) : T2 Q (g F x) (g2 F y) := by
  have key : ∀ k i F x y, i + k = n → k < F → I i x y → T2 Q (g F x) (g2 F y) := by
    intro k
    induction k with
    | zero =>
      intro i F x y h1 h2 h3
      match F, h2 with
      | F + 1, _ => exact hs F x y i (by omega) h3 (fun _ _ h => absurd h (by omega))
    | succ k ih =>
      intro i F x y h1 h2 h3
      match F, h2 with
      | F + 1, h2 => exact hs F x y i (by omega) h3 (fun x2 y2 _ hy => ih (i + 1) F x2 y2 (by omega) (by omega) hy)
  exact key n 0 F x y (by omega) hF h
/-- the two are at the same place, with the same signs -/
def X2 (n e h s a : Nat) (v v2 w y : SS) : Prop := WX n e h s a v w ∧ WX n e h s a v2 y ∧ (∀ j : Nat, j < s → gA y 14 j = gA w 14 j) ∧ gI y 10 = gI w 10
theorem tp2 {n e h s a : Nat} (hn : n ≤ 80) (hx : X2 n e h s a v v2 w y) : ∃ r : Int32, f_X10_topSign w = some (r, w) ∧ f_X10_topSign y = some (r, y) ∧ ((s = 0 ∧ r = 0) ∨ (1 ≤ s ∧ r = gA w 14 (s - 1))) := by
  obtain ⟨r, e1, h1⟩ := tpT hn hx.1
  obtain ⟨r2, e2, h2⟩ := tpT hn hx.2.1
  have : r2 = r := by
    rcases h1 with ⟨z, q⟩ | ⟨z, q⟩
    · rcases h2 with ⟨z2, q2⟩ | ⟨z2, q2⟩
      · rw [q, q2]
      · omega
    · rcases h2 with ⟨z2, q2⟩ | ⟨z2, q2⟩
      · omega
      · rw [q, q2]; exact hx.2.2.1 _ (by omega)
  subst this
  exact ⟨_, e1, e2, h1⟩
/-- a piece of work: signs and depth stay -/
theorem wk2 {h : Nat} (hh : h + 2 ≤ 100) (q : Int32) (e8 : gI w 8 = nI (h + 2)) (b13 : bo (gI w 13)) (st : ST (h + 2) w) (e8y : gI y 8 = nI (h + 2)) (b13y : bo (gI y 13)) (sty : ST (h + 2) y) : T2 (fun a b => WD1 h w a ∧ WD1 h y b) (f_X10_work q w) (f_X10_work q y) := t2_of (wkT hh q e8 b13 st) (wkT hh q e8y b13y sty)
theorem wx_w {n h0 s a : Nat} {v w y : SS} (m : PK v w) (nm : NMI w) (e12 : gI w 12 = 0) (e11 : gI w 11 = nI a) (hs : s ≤ a) (ha : a ≤ n) (e9 : gI w 9 = nI s) (eh : h0 + 1 = sg (gA w 14) s + 1) (hy : WD1 h0 w y) : WX n 1 (h0 + 1) s a v y := by
  obtain ⟨⟨f1, f2, f3, f4⟩, g8, g13, gs⟩ := hy
  refine ⟨?_, ?_, g13, ?_, g8, ?_, ?_, hs, ha, gs, ?_⟩
  · exact PK_t m ⟨fun i hi => f1 i (by unfold kPI at hi; omega) (by unfold kPI at hi; omega), fun a _ => f2 a⟩
  · intro j hj
    rw [f3, f4]; exact nm j hj
  · rw [f1 12 (by decide) (by decide)]; exact e12
  · rw [f1 9 (by decide) (by decide)]; exact e9
  · rw [f1 11 (by decide) (by decide)]; exact e11
  · rw [f2 14]; exact eh
theorem WX_9 {n h s a : Nat} (hx : WX n 1 h (s + 1) a v w) (ho : isOp (gA w 14 s) = true) : ∃ h0, h = h0 + 2 ∧ h0 + 2 ≤ 100 ∨ n > 80 := by
  obtain ⟨m, nm, b13, e12, e8, e9, e11, hs, ha, st, eh⟩ := hx
  rw [sg_t ho] at eh
  have sl := sg_le (gA w 14) s
  exact ⟨h - 2, by omega⟩
theorem se2 {n h s a : Nat} (hn : n ≤ 80) (b1 : Int32) (hx : X2 n 1 h s a v v2 w y) : T2 (fun p q => ∃ h2 s2 : Nat, s2 ≤ s ∧ X2 n 1 h2 s2 a v v2 p q) (f_X10_settle b1 w) (f_X10_settle b1 y) := by
  have hs80 : s ≤ 80 := by
    obtain ⟨⟨-, -, -, -, -, -, -, hs, ha, -, -⟩, -⟩ := hx
    omega
  refine loop2 (fun F (x : SS) => f_X10_settle_L0 F b1 x) (fun F (x : SS) => f_X10_settle_L0 F b1 x) (fun i p q => ∃ h2 s2 : Nat, s2 + i ≤ s ∧ X2 n 1 h2 s2 a v v2 p q) _ s ?_ (F := FU) (x := w) (y := y) (Nat.lt_trans (show s < 1000 by omega) FU_ge) ⟨h, s, by omega, hx⟩
  intro F x z i hi hI hc
  obtain ⟨h2, s2, hs2, hx⟩ := hI
  show T2 _ (b_X10_settle_L0 (f_X10_settle_L0 F) b1 x) (b_X10_settle_L0 (f_X10_settle_L0 F) b1 z)
  unfold b_X10_settle_L0 f_X10_settle_L40
  obtain ⟨r, er, erz, hr⟩ := tp2 hn hx
  simp only [er, erz, ob_s]
  have go : isOp r = true → T2 (fun p q => ∃ h2 s2 : Nat, s2 ≤ s ∧ X2 n 1 h2 s2 a v v2 p q) (ov (f_X10_work r x) fun u8 => lt (sI u8 9 ((gI u8 9) - (1 : Int32))) fun u9 => f_X10_settle_L0 F b1 u9) (ov (f_X10_work r z) fun u8 => lt (sI u8 9 ((gI u8 9) - (1 : Int32))) fun u9 => f_X10_settle_L0 F b1 u9) := by
    intro ho
    rcases hr with ⟨-, q⟩ | ⟨z1, z2⟩
    · rw [q] at ho; exact absurd ho (by decide)
    · obtain ⟨s3, rfl⟩ : ∃ s3, s2 = s3 + 1 := ⟨s2 - 1, by omega⟩
      have z2 : r = gA x 14 s3 := z2
      obtain ⟨⟨m, nm, b13, e12, e8, e9, e11, hs, ha, st, eh⟩, ⟨my, nmy, b13y, e12y, e8y, e9y, e11y, -, -, sty, ehy⟩, sq, d10⟩ := hx
      rw [sg_t (by rw [← z2]; exact ho)] at eh
      rw [sg_t (by rw [sq s3 (by omega), ← z2]; exact ho)] at ehy
      have sl := sg_le (gA x 14) s3
      obtain ⟨h0, rfl⟩ : ∃ h0, h2 = h0 + 2 := ⟨h2 - 2, by omega⟩
      refine t2_v (wk2 (by omega) r e8 b13 st e8y b13y sty) (fun p q hpq => ?_)
      obtain ⟨hp, hq⟩ := hpq
      rw [hp.1.1 9 (by decide) (by decide), hq.1.1 9 (by decide) (by decide), e9, e9y, nI_pred]
      refine hc (sI p 9 (nI s3)) (sI q 9 (nI s3)) (by omega) ⟨h0 + 1, s3, by omega, ?_, ?_, fun j hj => ?_, ?_⟩
      · obtain ⟨⟨f1, f2, f3, f4⟩, g8, g13, gs⟩ := hp
        refine ⟨PK_I (by unfold kPI; omega) (PK_t m ⟨fun i hi => f1 i (by unfold kPI at hi; omega) (by unfold kPI at hi; omega), fun a _ => f2 a⟩), fun j hj => ?_, ?_, ?_, ?_, sIe, ?_, by omega, ha, gs, ?_⟩
        · rw [gL_sI, gL_sI, f3, f4]; exact nm j hj
        · rw [sIn (by decide)]; exact g13
        · rw [sIn (by decide), f1 12 (by decide) (by decide)]; exact e12
        · rw [sIn (by decide)]; exact g8
        · rw [sIn (by decide), f1 11 (by decide) (by decide)]; exact e11
        · rw [gA_sI, f2 14]; omega
      · obtain ⟨⟨f1, f2, f3, f4⟩, g8, g13, gs⟩ := hq
        refine ⟨PK_I (by unfold kPI; omega) (PK_t my ⟨fun i hi => f1 i (by unfold kPI at hi; omega) (by unfold kPI at hi; omega), fun a _ => f2 a⟩), fun j hj => ?_, ?_, ?_, ?_, sIe, ?_, by omega, ha, gs, ?_⟩
        · rw [gL_sI, gL_sI, f3, f4]; exact nmy j hj
        · rw [sIn (by decide)]; exact g13
        · rw [sIn (by decide), f1 12 (by decide) (by decide)]; exact e12y
        · rw [sIn (by decide)]; exact g8
        · rw [sIn (by decide), f1 11 (by decide) (by decide)]; exact e11y
        · rw [gA_sI, f2 14]; omega
      · rw [gA_sI, gA_sI, hp.1.2.1 14, hq.1.2.1 14]; exact sq j (by omega)
      · rw [sIn (by decide), sIn (by decide), hp.1.1 10 (by decide) (by decide), hq.1.1 10 (by decide) (by decide)]; exact d10
  refine t2_c (fun c => go (by rw [c]; decide)) (fun _ => t2_c (fun c => go (by rw [c]; decide)) (fun _ => t2_c (fun _ => t2_s ⟨h2, s2, by omega, hx⟩) (fun _ => t2_c (fun c => go (by rw [c]; decide)) (fun _ => t2_c (fun c => go (by rw [c]; decide)) (fun _ => t2_s ⟨h2, s2, by omega, hx⟩)))))
/-- both bad, or both further on, at the same place -/
def P2 (n a : Nat) (v v2 : SS) (p q : Int32 × SS) : Prop := (gI p.2 12 = 1 ∧ gI q.2 12 = 1) ∨ ∃ e h s a2 : Nat, a < a2 ∧ X2 n e h s a2 v v2 p.2 q.2 ∧ ((p.1 = 1 ∧ q.1 = 1 ∧ e = 0) ∨ (p.1 = 0 ∧ q.1 = 0 ∧ e = 1))
theorem bad2 {a : Nat} (r s : Int32) : P2 n a v v2 (r, sI w 12 1) (s, sI y 12 1) := Or.inl ⟨sIe, sIe⟩
theorem put2 {n e e2 h s a : Nat} {q : Int32} (hn : n ≤ 80) (ha : a < n) (hx : X2 n e h s a v v2 w y) (he : h = sg (gA w 14) s + (if isOp q then 1 else 0) + e2) : X2 n e2 h (s + 1) (a + 1) v v2 (sI (sI (tA w 14 (nI s) q) 9 (nI (s + 1))) 11 (nI (a + 1))) (sI (sI (tA y 14 (nI s) q) 9 (nI (s + 1))) 11 (nI (a + 1))) := by
  obtain ⟨h1, h2, sq, d10⟩ := hx
  have eq : sg (gA y 14) s = sg (gA w 14) s := by
    have a1 := h1.2.2.2.2.2.2.2.2.2.2
    have a2 := h2.2.2.2.2.2.2.2.2.2.2
    omega
  have sl : s ≤ a := h1.2.2.2.2.2.2.2.1
  refine ⟨put1 hn ha h1 he, put1 hn ha h2 (by rw [eq]; exact he), fun j hj => ?_, d10⟩
  rw [gA_sI, gA_sI, gA_sI, gA_sI, tAe, tAe, nI_clamp (by omega)]
  by_cases z : j = s
  · rw [z, upd_s, upd_s]
  · rw [upd_n _ _ z, upd_n _ _ z]; exact sq j (by omega)
theorem eq42 {n e h s a : Nat} {b : Int32} (hn : n ≤ 80) (hx : WX n e h s a v w) : (oi (gI w 9) 100 (lt (tA w 14 (gI w 9) b) fun u3 => lt (sI u3 9 ((gI u3 9) + (1 : Int32))) fun u4 => lt (sI u4 11 ((gI u4 11) + (1 : Int32))) fun u5 => some ((1 : Int32), u5))) = some ((1 : Int32), sI (sI (tA w 14 (nI s) b) 9 (nI (s + 1))) 11 (nI (a + 1))) := by
  have s80 : s ≤ a := hx.2.2.2.2.2.2.2.1
  have a80 : a ≤ n := hx.2.2.2.2.2.2.2.2.1
  rw [hx.2.2.2.2.2.1, oi_nI (by decide) (show s < 100 by omega), lt_e, gI_tA, hx.2.2.2.2.2.1, nI_1, lt_e, sIn (by decide), gI_tA, hx.2.2.2.2.2.2.1, nI_1, lt_e]
theorem eq197 {n e h s a : Nat} (hx : WX n e h (s + 1) a v w) (g : SS → Option (Int32 × SS)) : (lt (sI w 9 ((gI w 9) - (1 : Int32))) fun u13 => lt (sI u13 10 ((gI u13 10) - (1 : Int32))) fun u14 => lt (sI u14 11 ((gI u14 11) + (1 : Int32))) fun u15 => g u15) = g (sI (sI (sI w 9 (nI s)) 10 (gI w 10 - 1)) 11 (nI (a + 1))) := by
  rw [hx.2.2.2.2.2.1, nI_pred, lt_e, lt_e, sIn (by decide), sIn (by decide), sIn (by decide), hx.2.2.2.2.2.2.1, nI_1, lt_e]
theorem eqOp {n e h s a : Nat} {q : Int32} (hn : n ≤ 80) (hx : WX n e h s a v w) (c : ¬ gI w 10 = 6) : f_X10_open q w = some (sI (sI (tA (sI w 10 (gI w 10 + 1)) 14 (nI s) q) 9 (nI (s + 1))) 11 (nI (a + 1))) := by
  have s80 : s ≤ a := hx.2.2.2.2.2.2.2.1
  have a80 : a ≤ n := hx.2.2.2.2.2.2.2.2.1
  unfold f_X10_open
  rw [if_neg c, lt_e, sIn (by decide), hx.2.2.2.2.2.1, oi_nI (by decide) (show s < 100 by omega), lt_e, gI_tA, sIn (by decide), hx.2.2.2.2.2.1, nI_1, lt_e, sIn (by decide), gI_tA, sIn (by decide), hx.2.2.2.2.2.2.1, nI_1, lt_e]
theorem r42 {n h s a : Nat} (hn : n ≤ 80) (ha : a < n) {b : Int32} (hb : isOp b = true) (q : Int32) (hx : X2 n 1 h s a v v2 w y) : T2 (P2 n a v v2) (f_X10_readSign_L42 b q w) (f_X10_readSign_L42 b q y) := by
  unfold f_X10_readSign_L42
  refine t2_v (se2 hn q hx) (fun p r hpr => ?_)
  obtain ⟨h2, s2, hs2, hy⟩ := hpr
  rw [eq42 hn hy.1, eq42 hn hy.2.1]
  refine t2_s (Or.inr ⟨0, h2, s2 + 1, a + 1, by omega, put2 hn ha hy ?_, Or.inl ⟨rfl, rfl, rfl⟩⟩)
  rw [hb]; exact hy.1.2.2.2.2.2.2.2.2.2.2
theorem r112 {n h s a : Nat} (hn : n ≤ 80) (ha : a < n) (q : Int32) (hb : bo q) (hx : X2 n 1 h s a v v2 w y) (hq : q = 0 → 1 ≤ s ∧ (gA w 14 (s - 1) = 60 ∨ gA w 14 (s - 1) = 62)) : T2 (P2 n a v v2) (f_X10_readSign_L112 q w) (f_X10_readSign_L112 q y) := by
  unfold f_X10_readSign_L112
  refine t2_n (fun z => z hb) (fun z => z hb) (t2_l ?_)
  rw [sIe, sIe]
  refine t2_c (fun c => ?_) (fun c => t2_s ?_)
  rotate_left
  · refine Or.inl ⟨?_, ?_⟩
    · show gI (sI w 12 q) 12 = 1
      rw [sIe]; exact hb.resolve_left c
    · show gI (sI y 12 q) 12 = 1
      rw [sIe]; exact hb.resolve_left c
  obtain ⟨hs, ho⟩ := hq c
  have ew : sI w 12 q = w := sI_same (by rw [hx.1.2.2.2.1]; exact c.symm)
  have ey : sI y 12 q = y := sI_same (by rw [hx.2.1.2.2.2.1]; exact c.symm)
  rw [ew, ey]
  obtain ⟨r, er, ery, hr⟩ := tp2 hn hx
  rw [er, ery, ob_s, ob_s]
  have sl : s ≤ a := hx.1.2.2.2.2.2.2.2.1
  have L : ∀ p : Int32, isOp p = true → T2 (P2 n a v v2) (f_X10_readSign_L146 p ((gI w 9) - (1 : Int32)) w) (f_X10_readSign_L146 p ((gI y 9) - (1 : Int32)) y) := by
    intro p hp
    unfold f_X10_readSign_L146
    rw [hx.1.2.2.2.2.2.1, hx.2.1.2.2.2.2.2.1, show nI s - (1 : Int32) = nI (s - 1) from pk_sub (a := s) (b := 1) (by omega)]
    refine t2_i (by decide) ⟨s - 1, by omega, rfl⟩ (by decide) ⟨s - 1, by omega, rfl⟩ (t2_l ?_)
    rw [gI_tA, gI_tA, hx.1.2.2.2.2.2.2.1, hx.2.1.2.2.2.2.2.2.1, nI_1, lt_e, lt_e]
    have one : ∀ (v w : SS), WX n 1 h s a v w → (gA w 14 (s - 1) = 60 ∨ gA w 14 (s - 1) = 62) → WX n 0 h s (a + 1) v (sI (tA w 14 (nI (s - 1)) p) 11 (nI (a + 1))) := by
      intro v w hx ho
      obtain ⟨m, nm, b13, e12, e8, e9, e11, hs2, ha2, st, eh⟩ := hx
      refine ⟨PK_I (by unfold kPI; omega) (PK_A (by unfold kPA; omega) m), nm, b13, e12, e8, e9, sIe, by omega, by omega, st, ?_⟩
      rw [gA_sI, tAe, nI_clamp (by omega)]
      obtain ⟨s3, rfl⟩ : ∃ s3, s = s3 + 1 := ⟨s - 1, by omega⟩
      have e3 : s3 + 1 - 1 = s3 := by omega
      rw [e3] at ho ⊢
      rw [sg_f (by rcases ho with z | z <;> rw [z] <;> decide)] at eh
      show h = sg (upd (gA w 14) s3 p) s3 + (if isOp (upd (gA w 14) s3 p s3) then 1 else 0) + 0
      rw [sg_u (Nat.le_refl _), upd_s, hp]
      exact eh
    refine t2_s (Or.inr ⟨0, h, s, a + 1, by omega, ⟨one v w hx.1 ho, one v2 y hx.2.1 (by rw [hx.2.2.1 (s - 1) (by omega)]; exact ho), fun j hj => ?_, hx.2.2.2⟩, Or.inl ⟨rfl, rfl, rfl⟩⟩)
    rw [gA_sI, gA_sI, tAe, tAe, nI_clamp (by omega)]
    by_cases z : j = s - 1
    · rw [z, upd_s, upd_s]
    · rw [upd_n _ _ z, upd_n _ _ z]; exact hx.2.2.1 j hj
  exact t2_c (fun _ => L 1 (by decide)) (fun _ => L 2 (by decide))
theorem r197 {n h s a : Nat} (hn : n ≤ 80) (ha : a < n) (r q : Int32) (hb : bo q) (hx : X2 n 1 h s a v v2 w y) (hq : q = 0 → 1 ≤ s ∧ gA w 14 (s - 1) = r ∧ (r = 40 ∨ r = 1 ∨ r = 2)) : T2 (P2 n a v v2) (f_X10_readSign_L197 r q w) (f_X10_readSign_L197 r q y) := by
  unfold f_X10_readSign_L197
  refine t2_n (fun z => z hb) (fun z => z hb) (t2_l ?_)
  rw [sIe, sIe]
  refine t2_c (fun c => ?_) (fun c => t2_s ?_)
  rotate_left
  · refine Or.inl ⟨?_, ?_⟩
    · show gI (sI w 12 q) 12 = 1
      rw [sIe]; exact hb.resolve_left c
    · show gI (sI y 12 q) 12 = 1
      rw [sIe]; exact hb.resolve_left c
  obtain ⟨hs, er, ho⟩ := hq c
  have ew : sI w 12 q = w := sI_same (by rw [hx.1.2.2.2.1]; exact c.symm)
  have ey : sI y 12 q = y := sI_same (by rw [hx.2.1.2.2.2.1]; exact c.symm)
  rw [ew, ey]
  obtain ⟨s3, rfl⟩ : ∃ s3, s = s3 + 1 := ⟨s - 1, by omega⟩
  have er : gA w 14 s3 = r := er
  have ery : gA y 14 s3 = r := by rw [hx.2.2.1 s3 (by omega)]; exact er
  rw [eq197 hx.1, eq197 hx.2.1]
  have base : ∀ (v w : SS), WX n 1 h (s3 + 1) a v w → PK v (sI (sI (sI w 9 (nI s3)) 10 (gI w 10 - 1)) 11 (nI (a + 1))) := fun v w hx => PK_I (by unfold kPI; omega) (PK_I (by unfold kPI; omega) (PK_I (by unfold kPI; omega) hx.1))
  have one : ∀ (v w : SS), WX n 1 h (s3 + 1) a v w → gA w 14 s3 = 40 → WX n 1 h s3 (a + 1) v (sI (sI (sI w 9 (nI s3)) 10 (gI w 10 - 1)) 11 (nI (a + 1))) := by
    intro v w hx c4
    have bs := base v w hx
    obtain ⟨m, nm, b13, e12, e8, e9, e11, hs2, ha2, st, eh⟩ := hx
    refine ⟨bs, nm, b13, e12, e8, ?_, sIe, by omega, by omega, st, ?_⟩
    · rw [sIn (by decide), sIn (by decide), sIe]
    · rw [gA_sI, gA_sI, gA_sI]
      rw [sg_f (by rw [c4]; decide)] at eh
      exact eh
  refine t2_c (fun c4 => t2_s (Or.inr ⟨1, h, s3, a + 1, by omega, ⟨one v w hx.1 (er.trans c4), one v2 y hx.2.1 (ery.trans c4), fun j hj => hx.2.2.1 j (by omega), ?_⟩, Or.inr ⟨rfl, rfl, rfl⟩⟩)) (fun c4 => ?_)
  · rw [sIn (by decide), sIe, sIn (by decide), sIe, hx.2.2.2]
  have hop : isOp r = true := by
    rcases ho with z | z | z
    · exact absurd z c4
    · rw [z]; decide
    · rw [z]; decide
  have L : ∀ p : Int32, T2 (P2 n a v v2) (f_X10_readSign_L256 p (sI (sI (sI w 9 (nI s3)) 10 (gI w 10 - 1)) 11 (nI (a + 1)))) (f_X10_readSign_L256 p (sI (sI (sI y 9 (nI s3)) 10 (gI y 10 - 1)) 11 (nI (a + 1)))) := by
    intro p
    unfold f_X10_readSign_L256
    obtain ⟨⟨m, nm, b13, e12, e8, e9, e11, hs2, ha2, st, eh⟩, ⟨my, nmy, b13y, e12y, e8y, e9y, e11y, -, -, sty, ehy⟩, sq, d10⟩ := id hx
    rw [sg_t (by rw [er]; exact hop)] at eh
    rw [sg_t (by rw [ery]; exact hop)] at ehy
    have sl := sg_le (gA w 14) s3
    obtain ⟨h0, rfl⟩ : ∃ h0, h = h0 + 2 := ⟨h - 2, by omega⟩
    refine t2_v (wk2 (w := sI (sI (sI w 9 (nI s3)) 10 (gI w 10 - 1)) 11 (nI (a + 1))) (y := sI (sI (sI y 9 (nI s3)) 10 (gI y 10 - 1)) 11 (nI (a + 1))) (by omega) p e8 b13 st e8y b13y sty) (fun c d hcd => ?_)
    obtain ⟨hp, hq⟩ := hcd
    refine t2_s (Or.inr ⟨1, h0 + 1, s3, a + 1, by omega, ⟨?_, ?_, fun j hj => ?_, ?_⟩, Or.inr ⟨rfl, rfl, rfl⟩⟩)
    · refine wx_w (base v w hx.1) nm ?_ sIe (by omega) (by omega) ?_ ?_ hp
      · rw [sIn (by decide), sIn (by decide), sIn (by decide)]; exact e12
      · rw [sIn (by decide), sIn (by decide), sIe]
      · rw [gA_sI, gA_sI, gA_sI]; omega
    · refine wx_w (base v2 y hx.2.1) nmy ?_ sIe (by omega) (by omega) ?_ ?_ hq
      · rw [sIn (by decide), sIn (by decide), sIn (by decide)]; exact e12y
      · rw [sIn (by decide), sIn (by decide), sIe]
      · rw [gA_sI, gA_sI, gA_sI]; omega
    · rw [hp.1.2.1 14, hq.1.2.1 14]; exact sq j (by omega)
    · rw [hp.1.1 10 (by decide) (by decide), hq.1.1 10 (by decide) (by decide), sIn (by decide), sIe, sIn (by decide), sIe, d10]
  exact t2_c (fun _ => L _) (fun _ => L _)
theorem rs2 {n h s a : Nat} (hn : n ≤ 80) (ha : a < n) (q : Int32) (hx : X2 n 1 h s a v v2 w y) : T2 (P2 n a v v2) (f_X10_readSign q w) (f_X10_readSign q y) := by
  unfold f_X10_readSign f_X10_readSign_L24 f_X10_readSign_L37 f_X10_readSign_L111 f_X10_readSign_L196
  have B : isOp q = true → T2 (P2 n a v v2) (if q = (43 : Int32) then (f_X10_readSign_L42 q (1 : Int32) w) else (if q = (45 : Int32) then (f_X10_readSign_L42 q (1 : Int32) w) else (f_X10_readSign_L42 q (0 : Int32) w))) (if q = (43 : Int32) then (f_X10_readSign_L42 q (1 : Int32) y) else (if q = (45 : Int32) then (f_X10_readSign_L42 q (1 : Int32) y) else (f_X10_readSign_L42 q (0 : Int32) y))) := fun ho => t2_c (fun _ => r42 hn ha ho _ hx) (fun _ => t2_c (fun _ => r42 hn ha ho _ hx) (fun _ => r42 hn ha ho _ hx))
  refine t2_c (fun c => B (by rw [c]; decide)) (fun _ => t2_c (fun c => B (by rw [c]; decide)) (fun _ => t2_c (fun c => B (by rw [c]; decide)) (fun _ => t2_c (fun c => B (by rw [c]; decide)) (fun _ => t2_c (fun _ => ?_) (fun _ => t2_c (fun _ => ?_) (fun _ => t2_l (t2_s (bad2 _ _))))))))
  · refine t2_v (se2 hn _ hx) (fun p r hpr => ?_)
    obtain ⟨h2, s2, hs2, hy⟩ := hpr
    obtain ⟨t, er, ery, hr⟩ := tp2 hn hy
    simp only [er, ery, ob_s]
    have T : ∀ c : Int32, t = c → ¬ (0 : Int32) = c → 1 ≤ s2 ∧ gA p 14 (s2 - 1) = c := by
      intro c hc h0
      rcases hr with ⟨-, z⟩ | ⟨z1, z2⟩
      · exact absurd (z.symm.trans hc) h0
      · exact ⟨z1, z2.symm.trans hc⟩
    refine t2_c (fun c => r112 hn ha _ (Or.inl rfl) hy (fun _ => ⟨(T 60 c (by decide)).1, Or.inl (T 60 c (by decide)).2⟩)) (fun _ => t2_c (fun c => r112 hn ha _ (Or.inl rfl) hy (fun _ => ⟨(T 62 c (by decide)).1, Or.inr (T 62 c (by decide)).2⟩)) (fun _ => r112 hn ha _ (Or.inr rfl) hy (fun z => absurd z nz_1)))
  · refine t2_v (se2 hn _ hx) (fun p r hpr => ?_)
    obtain ⟨h2, s2, hs2, hy⟩ := hpr
    obtain ⟨t, er, ery, hr⟩ := tp2 hn hy
    simp only [er, ery, ob_s]
    have T : ∀ c : Int32, t = c → ¬ (0 : Int32) = c → 1 ≤ s2 ∧ gA p 14 (s2 - 1) = t := by
      intro c hc h0
      rcases hr with ⟨-, z⟩ | ⟨z1, z2⟩
      · exact absurd (z.symm.trans hc) h0
      · exact ⟨z1, z2.symm⟩
    refine t2_c (fun c => r197 hn ha _ _ (Or.inl rfl) hy (fun _ => ⟨(T 40 c (by decide)).1, (T 40 c (by decide)).2, Or.inl c⟩)) (fun _ => t2_c (fun c => r197 hn ha _ _ (Or.inl rfl) hy (fun _ => ⟨(T 1 c (by decide)).1, (T 1 c (by decide)).2, Or.inr (Or.inl c)⟩)) (fun _ => t2_c (fun c => r197 hn ha _ _ (Or.inl rfl) hy (fun _ => ⟨(T 2 c (by decide)).1, (T 2 c (by decide)).2, Or.inr (Or.inr c)⟩)) (fun _ => r197 hn ha _ _ (Or.inr rfl) hy (fun z => absurd z nz_1))))
/-- the bytes of the one are the text of the other -/
def BY (n : Nat) (w y : SS) : Prop := ∀ j : Nat, j < n → gA y 13 j = gA w 12 j
theorem by2 {n a : Nat} (hn : n ≤ 80) (ha : a < 2 ^ 31) (b : BY n w y) : ∃ r : Int32, f_X10_byteAt_13 (nI n) (nI a) w = some (r, w) ∧ f_X10_byteAt_14 (nI n) (nI a) y = some (r, y) ∧ (r = -1 ∨ a < n) := by
  unfold f_X10_byteAt_13 f_X10_byteAt_14
  by_cases c : nI n ≤ nI a
  · rw [if_pos c, if_pos c]; exact ⟨_, rfl, rfl, Or.inl rfl⟩
  · have h2 : a < n := ltn ha c
    rw [if_neg c, if_neg c, oi_nI (by decide) (show a < 80 by omega), oi_nI (by decide) (show a < 80 by omega), nI_clamp ha, b a h2]; exact ⟨_, rfl, rfl, Or.inr h2⟩
theorem MK_by {v w v2 y : SS} (m : PK v w) (m2 : PK v2 y) (b : BY n v v2) : BY n w y := fun j hj => by
  rw [m.2 12 (by unfold kPA; omega), m2.2 13 (by unfold kPA; omega)]; exact b j hj
theorem ph2 {n h s a : Nat} {t d t2 d2 : Int64} (hn : n ≤ 80) (hx : X2 n 0 h s a v v2 w y) (hq : QE t d) (hq2 : QE t2 d2) : T2 (fun p q => X2 n 1 (h + 1) s a v v2 p q) (f_X10_push t d w) (f_X10_push t2 d2 y) := by
  obtain ⟨z, ez, hz⟩ := phM hn hx.1 hq
  obtain ⟨z2, ez2, hz2⟩ := phM hn hx.2.1 hq2
  refine ⟨z, z2, ez, ez2, hz, hz2, ?_⟩
  have g : ∀ (v w z : SS) (t d : Int64), WX n 0 h s a v w → f_X10_push t d w = some z → gA z 14 = gA w 14 ∧ gI z 10 = gI w 10 := by
    intro v w z t d hx ez
    obtain ⟨m, nm, b13, e12, e8, e9, e11, hs, ha, st, eh⟩ := hx
    have sl := sg_le (gA w 14) s
    unfold f_X10_push at ez
    rw [e8, oi_nI (by decide) (show h < 100 by omega), lt_e, gI_tL, e8, oi_nI (by decide) (show h < 100 by omega), lt_e, gI_tL, gI_tL, e8, nI_1, lt_e, lt_e] at ez
    have ez := Option.some.inj ez
    subst ez
    exact ⟨rfl, rfl⟩
  have g1 := g v w z t d hx.1 ez
  have g2 := g v2 y z2 t2 d2 hx.2.1 ez2
  exact ⟨fun j hj => by rw [g1.1, g2.1]; exact hx.2.2.1 j hj, by rw [g1.2, g2.2]; exact hx.2.2.2⟩
theorem X2_at {n e h s a a2 : Nat} (h1 : a ≤ a2) (h2 : a2 ≤ n) (hx : X2 n e h s a v v2 w y) : X2 n e h s a2 v v2 (sI w 11 (nI a2)) (sI y 11 (nI a2)) := ⟨WX_at h1 h2 hx.1, WX_at h1 h2 hx.2.1, hx.2.2.1, hx.2.2.2⟩
theorem op2 {n h s a : Nat} (hn : n ≤ 80) (ha : a < n) {q : Int32} (hq : isOp q = false) (hx : X2 n 0 h s a v v2 w y) : T2 (P2 n a v v2) (ov (f_X10_open q w) fun u10 => some ((1 : Int32), u10)) (ov (f_X10_open q y) fun u10 => some ((1 : Int32), u10)) := by
  by_cases c : gI w 10 = 6
  · have cy : gI y 10 = 6 := by rw [hx.2.2.2]; exact c
    unfold f_X10_open
    rw [if_pos c, if_pos cy, lt_e, ov_s, lt_e, ov_s]; exact t2_s (bad2 _ _)
  · have cy : ¬ gI y 10 = 6 := by rw [hx.2.2.2]; exact c
    rw [eqOp hn hx.1 c, eqOp hn hx.2.1 cy, ov_s, ov_s, hx.2.2.2]
    have hx2 : X2 n 0 h s a v v2 (sI w 10 (gI w 10 + 1)) (sI y 10 (gI w 10 + 1)) := by
      obtain ⟨⟨m, nm, b13, e12, e8, e9, e11, hs, ha, st, eh⟩, ⟨my, nmy, b13y, e12y, e8y, e9y, e11y, -, -, sty, ehy⟩, sq, d10⟩ := hx
      exact ⟨⟨PK_I (by unfold kPI; omega) m, nm, b13, e12, e8, e9, e11, hs, ha, st, eh⟩, ⟨PK_I (by unfold kPI; omega) my, nmy, b13y, e12y, e8y, e9y, e11y, hs, ha, sty, ehy⟩, sq, by rw [sIe, sIe]⟩
    exact t2_s (Or.inr ⟨0, h, s + 1, a + 1, by omega, put2 (q := q) hn ha hx2 (by rw [hq]; exact hx2.1.2.2.2.2.2.2.2.2.2.2), Or.inl ⟨rfl, rfl, rfl⟩⟩)
theorem r136 {n h s a : Nat} (hn : n ≤ 80) (hb : BY n v v2) (hx : X2 n 0 h s a v v2 w y) (hd : ∃ r : Int32, f_X10_byteAt_13 (nI n) (nI a) w = some (r, w) ∧ ¬ r < 48 ∧ ¬ (57 : Int32) < r) : T2 (P2 n a v v2) (f_X10_readUnit_13_L136 FU (nI n) (0 : Int64) (0 : Int32) w) (f_X10_readUnit_14_L136 FU (nI n) (0 : Int64) (0 : Int32) y) := by
  refine loop2 (fun F (x : Int64 × Int32 × SS) => f_X10_readUnit_13_L136 F (nI n) x.1 x.2.1 x.2.2) (fun F (x : Int64 × Int32 × SS) => f_X10_readUnit_14_L136 F (nI n) x.1 x.2.1 x.2.2) (fun i p q => ∃ t : Nat, t < 10 ^ i ∧ p.1 = lN t ∧ q.1 = lN t ∧ p.2.1 = nI i ∧ q.2.1 = nI i ∧ X2 n 0 h s (a + i) v v2 p.2.2 q.2.2 ∧ (i = 0 → p.2.2 = w)) _ 6 ?_ (F := FU) (x := ((0 : Int64), (0 : Int32), w)) (y := ((0 : Int64), (0 : Int32), y)) (Nat.lt_trans (by decide) FU_ge) ⟨0, by decide, rfl, rfl, rfl, rfl, hx, fun _ => rfl⟩
  intro F x z i hi hI hc
  obtain ⟨b4, b6, p⟩ := x
  obtain ⟨c4, c6, q⟩ := z
  obtain ⟨t, ht, e4, e4y, e6, e6y, hy, h0y⟩ := hI
  have e4 : b4 = lN t := e4
  have e6 : b6 = nI i := e6
  have e4y : c4 = lN t := e4y
  have e6y : c6 = nI i := e6y
  have hy : X2 n 0 h s (a + i) v v2 p q := hy
  have h0y : i = 0 → p = w := h0y
  subst e4
  subst e6
  subst e4y
  subst e6y
  show T2 _ (b_X10_readUnit_13_L136 (f_X10_readUnit_13_L136 F) (nI n) (lN t) (nI i) p) (b_X10_readUnit_14_L136 (f_X10_readUnit_14_L136 F) (nI n) (lN t) (nI i) q)
  unfold b_X10_readUnit_13_L136 b_X10_readUnit_14_L136
  have t6 : t < 1000000 := Nat.lt_of_lt_of_le ht (Nat.pow_le_pow_right (n := 10) (by decide) hi)
  have done : 0 < i → T2 (P2 n a v v2) (f_X10_readUnit_13_L197 (lN t) p) (f_X10_readUnit_14_L197 (lN t) q) := by
    intro hp
    unfold f_X10_readUnit_13_L197 f_X10_readUnit_14_L197
    have qe := QE_i (z := (t : Int)) (m := 1) (by omega) (by omega) (by decide) (by decide)
    rw [iL_n] at qe
    refine t2_v (ph2 hn hy qe qe) (fun c d hcd => t2_s (Or.inr ⟨1, h + 1, s, a + i, by omega, hcd, Or.inr ⟨rfl, rfl, rfl⟩⟩))
  refine t2_c (fun c => done ?_) (fun c1 => ?_)
  · rcases Nat.eq_zero_or_pos i with z | z
    · subst z; exact absurd c (by decide)
    · exact z
  have hi2 : i < 6 := ltn (n := 6) (by omega) c1
  have e11 : gI p 11 = nI (a + i) := hy.1.2.2.2.2.2.2.1
  have e11y : gI q 11 = nI (a + i) := hy.2.1.2.2.2.2.2.2.1
  have ain : a + i ≤ n := hy.1.2.2.2.2.2.2.2.2.1
  obtain ⟨r, er, ery, hr⟩ := by2 hn (show a + i < 2 ^ 31 by omega) (MK_by hy.1.1 hy.2.1.1 hb)
  rw [e11, er, ob_s, diM, ob_s, e11y, ery, ob_s, diM, ob_s]
  have zero : ¬ (¬ r < 48 ∧ ¬ (57 : Int32) < r) → 0 < i := by
    intro nd
    rcases Nat.eq_zero_or_pos i with q | q
    · exfalso
      subst q
      obtain ⟨r3, e3, d1, d2⟩ := hd
      have e5 : p = w := h0y rfl
      rw [e5] at er
      have e7 := e3.symm.trans er
      have e6 : r3 = r := (Prod.mk.inj (Option.some.inj e7)).1
      rw [e6] at d1 d2
      exact nd ⟨d1, d2⟩
    · exact q
  by_cases d1 : r < 48
  · rw [if_pos d1, if_pos rfl, if_pos rfl]; exact done (zero (fun z => z.1 d1))
  rw [if_neg d1]
  by_cases d2 : (57 : Int32) < r
  · rw [if_pos d2, if_pos rfl, if_pos rfl]; exact done (zero (fun z => z.2 d2))
  rw [if_neg d2, if_neg nz_1, if_neg nz_1, e11, er, ob_s, e11, nI_1, e11y, ery, ob_s, e11y, nI_1]
  obtain ⟨d, hd9, rfl⟩ := dig48 d1 d2
  rw [dgv t d hd9, lt_e, lt_e, nI_1, lt_e, lt_e, lt_e, lt_e]
  have lt : a + i < n := hr.resolve_left (fun z => by
    have := (congrArg Int32.toInt z)
    rw [nI_toInt (by omega), show (-1 : Int32).toInt = -1 by decide] at this
    omega)
  refine hc (lN (10 * t + d), nI (i + 1), _) (lN (10 * t + d), nI (i + 1), _) hi2 ⟨10 * t + d, ?_, rfl, rfl, rfl, rfl, X2_at (by omega) (by omega) hy, fun z => absurd z (by omega)⟩
  rw [Nat.pow_succ]; omega
theorem nm2 (x : Int32) (w y : SS) : ∃ r : Int32, f_X10_nameOf x w = some (r, w) ∧ f_X10_nameOf x y = some (r, y) ∧ (r = -1 ∨ (rg 7 r ∧ ¬ x = -1)) := by
  unfold f_X10_nameOf
  by_cases c : x.toInt < 97 ∨ 113 < x.toInt
  · rw [if_pos c, if_pos c]; exact ⟨_, rfl, rfl, Or.inl rfl⟩
  rw [if_neg c, if_neg c]
  have n1 : ¬ x = -1 := fun z => c (by rw [z]; decide)
  by_cases c97 : x = 97
  · rw [if_pos c97, if_pos c97]; exact ⟨_, rfl, rfl, Or.inr ⟨⟨3, by decide, by decide⟩, n1⟩⟩
  rw [if_neg c97, if_neg c97]
  by_cases c98 : x = 98
  · rw [if_pos c98, if_pos c98]; exact ⟨_, rfl, rfl, Or.inr ⟨⟨5, by decide, by decide⟩, n1⟩⟩
  rw [if_neg c98, if_neg c98]
  by_cases c99 : x = 99
  · rw [if_pos c99, if_pos c99]; exact ⟨_, rfl, rfl, Or.inl rfl⟩
  rw [if_neg c99, if_neg c99]
  by_cases c100 : x = 100
  · rw [if_pos c100, if_pos c100]; exact ⟨_, rfl, rfl, Or.inl rfl⟩
  rw [if_neg c100, if_neg c100]
  by_cases c101 : x = 101
  · rw [if_pos c101, if_pos c101]; exact ⟨_, rfl, rfl, Or.inl rfl⟩
  rw [if_neg c101, if_neg c101]
  by_cases c102 : x = 102
  · rw [if_pos c102, if_pos c102]; exact ⟨_, rfl, rfl, Or.inl rfl⟩
  rw [if_neg c102, if_neg c102]
  by_cases c103 : x = 103
  · rw [if_pos c103, if_pos c103]; exact ⟨_, rfl, rfl, Or.inl rfl⟩
  rw [if_neg c103, if_neg c103]
  by_cases c104 : x = 104
  · rw [if_pos c104, if_pos c104]; exact ⟨_, rfl, rfl, Or.inr ⟨⟨2, by decide, by decide⟩, n1⟩⟩
  rw [if_neg c104, if_neg c104]
  by_cases c105 : x = 105
  · rw [if_pos c105, if_pos c105]; exact ⟨_, rfl, rfl, Or.inl rfl⟩
  rw [if_neg c105, if_neg c105]
  by_cases c106 : x = 106
  · rw [if_pos c106, if_pos c106]; exact ⟨_, rfl, rfl, Or.inl rfl⟩
  rw [if_neg c106, if_neg c106]
  by_cases c107 : x = 107
  · rw [if_pos c107, if_pos c107]; exact ⟨_, rfl, rfl, Or.inr ⟨⟨6, by decide, by decide⟩, n1⟩⟩
  rw [if_neg c107, if_neg c107]
  by_cases c108 : x = 108
  · rw [if_pos c108, if_pos c108]; exact ⟨_, rfl, rfl, Or.inr ⟨⟨1, by decide, by decide⟩, n1⟩⟩
  rw [if_neg c108, if_neg c108]
  by_cases c109 : x = 109
  · rw [if_pos c109, if_pos c109]; exact ⟨_, rfl, rfl, Or.inl rfl⟩
  rw [if_neg c109, if_neg c109]
  by_cases c110 : x = 110
  · rw [if_pos c110, if_pos c110]; exact ⟨_, rfl, rfl, Or.inl rfl⟩
  rw [if_neg c110, if_neg c110]
  by_cases c111 : x = 111
  · rw [if_pos c111, if_pos c111]; exact ⟨_, rfl, rfl, Or.inl rfl⟩
  rw [if_neg c111, if_neg c111]
  by_cases c112 : x = 112
  · rw [if_pos c112, if_pos c112]; exact ⟨_, rfl, rfl, Or.inr ⟨⟨0, by decide, by decide⟩, n1⟩⟩
  rw [if_neg c112, if_neg c112]
  by_cases c113 : x = 113
  · rw [if_pos c113, if_pos c113]; exact ⟨_, rfl, rfl, Or.inr ⟨⟨4, by decide, by decide⟩, n1⟩⟩
  rw [if_neg c113, if_neg c113]
  exact (sw97 c c97 c98 c99 c100 c101 c102 c103 c104 c105 c106 c107 c108 c109 c110 c111 c112 c113).elim
theorem ru2 {n h s a : Nat} (hn : n ≤ 80) (hb : BY n v v2) (hx : X2 n 0 h s a v v2 w y) : T2 (P2 n a v v2) (f_X10_readUnit_13 (nI n) w) (f_X10_readUnit_14 (nI n) y) := by
  unfold f_X10_readUnit_13 f_X10_readUnit_14
  have e11 : gI w 11 = nI a := hx.1.2.2.2.2.2.2.1
  have e11y : gI y 11 = nI a := hx.2.1.2.2.2.2.2.2.1
  have an : a ≤ n := hx.1.2.2.2.2.2.2.2.2.1
  obtain ⟨r, er, ery, hr⟩ := by2 hn (show a < 2 ^ 31 by omega) (MK_by hx.1.1 hx.2.1.1 hb)
  rw [e11, er, ob_s, e11y, ery, ob_s]
  have L22 : ∀ c : Int32, r = c → ¬ (-1 : Int32) = c → isOp r = false → T2 (P2 n a v v2) (f_X10_readUnit_13_L22 (nI n) r w) (f_X10_readUnit_14_L22 (nI n) r y) := by
    intro c hc h1 ho
    have lt : a < n := hr.resolve_left (fun z => h1 (z.symm.trans hc))
    unfold f_X10_readUnit_13_L22 f_X10_readUnit_14_L22
    rw [e11, nI_1, lt_e, sIe, e11y, nI_1, lt_e, sIe]
    have hx2 := X2_at (a2 := a + 1) (by omega) (by omega) hx
    obtain ⟨r2, er2, er2y, hr2⟩ := by2 hn (show a + 1 < 2 ^ 31 by omega) (MK_by hx2.1.1 hx2.2.1.1 hb)
    rw [er2, ob_s, er2y, ob_s]
    refine t2_c (fun c2 => ?_) (fun _ => t2_l (t2_s (bad2 _ _)))
    have lt2 : a + 1 < n := hr2.resolve_left (fun z => absurd (z.symm.trans c2) (by decide))
    refine t2_w (op2 hn lt2 ho hx2) (fun p q hp => ?_)
    rcases hp with hp | ⟨e, h2, s2, a2, q, hp⟩
    · exact Or.inl hp
    · exact Or.inr ⟨e, h2, s2, a2, by omega, hp⟩
  refine t2_c (fun c => L22 60 c (by decide) (by rw [c]; decide)) (fun _ => t2_c (fun c => L22 62 c (by decide) (by rw [c]; decide)) (fun _ => t2_c (fun c => ?_) (fun _ => ?_)))
  · have lt : a < n := hr.resolve_left (fun z => absurd (z.symm.trans c) (by decide))
    exact op2 hn lt (by decide) hx
  obtain ⟨r3, er3, er3y, hr3⟩ := nm2 r w y
  rw [er3, er3y, ob_s, ob_s]
  refine t2_c (fun c => ?_) (fun c => ?_)
  · rw [diM, ob_s, diM, ob_s]
    by_cases d1 : r < 48
    · rw [if_pos d1, if_pos rfl, if_pos rfl]; exact t2_l (t2_s (bad2 _ _))
    rw [if_neg d1]
    by_cases d2 : (57 : Int32) < r
    · rw [if_pos d2, if_pos rfl, if_pos rfl]; exact t2_l (t2_s (bad2 _ _))
    rw [if_neg d2, if_neg nz_1, if_neg nz_1]
    exact r136 hn hb hx ⟨r, er, d1, d2⟩
  · have hr4 : rg 7 r3 ∧ ¬ r = -1 := hr3.resolve_left (fun z => c (by rw [z]; exact lt_m1))
    have lt : a < n := hr.resolve_left hr4.2
    rw [er3, er3y, ob_s, ob_s]
    refine t2_i (by decide) hr4.1 (by decide) hr4.1 ?_
    rw [er3, er3y, ob_s, ob_s]
    refine t2_i (by decide) hr4.1 (by decide) hr4.1 ?_
    refine t2_v (ph2 hn hx (hx.1.2.1 _ (rg_cl (by decide) hr4.1)) (hx.2.1.2.1 _ (rg_cl (by decide) hr4.1))) (fun p q hpq => ?_)
    rw [hpq.1.2.2.2.2.2.2.1, hpq.2.1.2.2.2.2.2.2.1, nI_1, lt_e, lt_e]
    exact t2_s (Or.inr ⟨1, h + 1, s, a + 1, by omega, X2_at (by omega) (by omega) hpq, Or.inr ⟨rfl, rfl, rfl⟩⟩)
/-- the end: both bad, or both good with a value -/
def E2 (p q : SS) : Prop := (gI p 12 = 1 ∧ gI q 12 = 1) ∨ (gI p 12 = 0 ∧ gI q 12 = 0 ∧ QE (gL p 2 0) (gL p 3 0) ∧ QE (gL q 2 0) (gL q 3 0))
theorem wt2e {n h s a : Nat} (hn : n ≤ 80) (hx : X2 n 1 h s a v v2 w y) : T2 E2 (f_X10_workText_13_L83 w) (f_X10_workText_14_L83 y) := by
  unfold f_X10_workText_13_L83 f_X10_workText_14_L83
  rw [hx.1.2.2.2.1, hx.2.1.2.2.2.1, if_pos rfl, if_pos rfl]
  refine t2_v (se2 hn _ hx) (fun p q hpq => ?_)
  obtain ⟨h2, s2, hs2, hy⟩ := hpq
  have hp : 0 < h2 := by
    have := hy.1.2.2.2.2.2.2.2.2.2.2
    omega
  rw [hy.1.2.2.2.2.2.1, hy.2.1.2.2.2.2.2.1]
  exact t2_c (fun _ => t2_l (t2_s (Or.inr ⟨sIe, sIe, hy.1.2.2.2.2.2.2.2.2.2.1 0 hp, hy.2.1.2.2.2.2.2.2.2.2.2.1 0 hp⟩))) (fun _ => t2_l (t2_s (Or.inl ⟨sIe, sIe⟩)))
theorem wt2 {n : Nat} (hn : n ≤ 80) (nm : NMI w) (nmy : NMI y) (hb : BY n w y) : T2 E2 (f_X10_workText_13 (nI n) w) (f_X10_workText_14 (nI n) y) := by
  unfold f_X10_workText_13 f_X10_workText_14
  refine t2_l (t2_l (t2_l (t2_l (t2_l (t2_l (t2_l ?_))))))
  have one : ∀ w : SS, NMI w → WX n 0 0 0 0 w (sI (sI (sI (sI (sI (sI (sI w 8 0) 9 0) 10 0) 11 0) 14 0) 12 0) 13 0) := fun w nm => ⟨PK_I (by unfold kPI; omega) (PK_I (by unfold kPI; omega) (PK_I (by unfold kPI; omega) (PK_I (by unfold kPI; omega) (PK_I (by unfold kPI; omega) (PK_I (by unfold kPI; omega) (PK_I (by unfold kPI; omega) (PK_r w))))))), nm, Or.inl rfl, rfl, rfl, rfl, rfl, by omega, by omega, fun j hj => absurd hj (by omega), rfl⟩
  refine loop2 (fun F (x : Int32 × SS) => f_X10_workText_13_L37 F (nI n) x.1 x.2) (fun F (x : Int32 × SS) => f_X10_workText_14_L37 F (nI n) x.1 x.2) (fun i p q => (gI p.2 12 = 1 ∧ gI q.2 12 = 1) ∨ ∃ e h s a : Nat, i ≤ a ∧ X2 n e h s a w y p.2 q.2 ∧ ((p.1 = 1 ∧ q.1 = 1 ∧ e = 0) ∨ (p.1 = 0 ∧ q.1 = 0 ∧ e = 1))) _ (n + 1) ?_ (F := FU) (x := ((1 : Int32), _)) (y := ((1 : Int32), _)) (Nat.lt_trans (show n + 1 < 1000 by omega) FU_ge) (Or.inr ⟨0, 0, 0, 0, by omega, ⟨one w nm, one y nmy, fun j hj => absurd hj (by omega), rfl⟩, Or.inl ⟨rfl, rfl, rfl⟩⟩)
  intro F x z i hi hI hc
  obtain ⟨b3, p⟩ := x
  obtain ⟨c3, q⟩ := z
  show T2 _ (b_X10_workText_13_L37 (f_X10_workText_13_L37 F) (nI n) b3 p) (b_X10_workText_14_L37 (f_X10_workText_14_L37 F) (nI n) c3 q)
  unfold b_X10_workText_13_L37 f_X10_workText_13_L56 f_X10_workText_13_L79 b_X10_workText_14_L37 f_X10_workText_14_L56 f_X10_workText_14_L79
  rcases hI with ⟨e12, e12y⟩ | ⟨e, h, s, a, ia, hx, hb3⟩
  · have e12 : gI p 12 = 1 := e12
    have e12y : gI q 12 = 1 := e12y
    rw [e12, e12y, if_neg nz_1, if_neg nz_1]
    unfold f_X10_workText_13_L83 f_X10_workText_14_L83
    rw [e12, e12y, if_neg nz_1, if_neg nz_1]
    exact t2_s (Or.inl ⟨e12, e12y⟩)
  · have hx : X2 n e h s a w y p q := hx
    have an : a ≤ n := hx.1.2.2.2.2.2.2.2.2.1
    have next : ∀ c d : Int32 × SS, P2 n a w y c d → T2 E2 (f_X10_workText_13_L37 F (nI n) c.1 c.2) (f_X10_workText_14_L37 F (nI n) d.1 d.2) := by
      intro c d hp
      refine hc c d (by omega) ?_
      rcases hp with hp | ⟨e2, h2, s2, a2, q, hp⟩
      · exact Or.inl hp
      · exact Or.inr ⟨e2, h2, s2, a2, by omega, hp⟩
    rw [hx.1.2.2.2.1, hx.2.1.2.2.2.1, if_pos rfl, if_pos rfl]
    rcases hb3 with ⟨b1, d1, rfl⟩ | ⟨b0, d0, rfl⟩
    · have b1 : b3 = 1 := b1
      have d1 : c3 = 1 := d1
      subst b1
      subst d1
      rw [if_neg nz_1, if_neg nz_1, if_neg nz_1, if_neg nz_1]
      exact t2_b (ru2 hn hb hx) (fun r z r2 z2 hz => next (r, z) (r2, z2) hz)
    · have b0 : b3 = 0 := b0
      have d0 : c3 = 0 := d0
      subst b0
      subst d0
      rw [if_pos rfl, if_pos rfl, hx.1.2.2.2.2.2.2.1, hx.2.1.2.2.2.2.2.2.1]
      refine t2_c (fun _ => wt2e hn hx) (fun c => ?_)
      have lt : a < n := ltn (by omega) c
      refine t2_i (by decide) ⟨a, by omega, rfl⟩ (by decide) ⟨a, by omega, rfl⟩ ?_
      rw [nI_clamp (by omega), MK_by hx.1.1 hx.2.1.1 hb a lt]
      exact t2_b (rs2 hn lt _ hx) (fun r z r2 z2 hz => next (r, z) (r2, z2) hz)
end ST23
