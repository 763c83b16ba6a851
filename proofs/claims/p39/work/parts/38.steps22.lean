section ST22
variable {k n : Nat} {u v w x : SS}
/-- what a text's working may write: 4, 5, 8 to 14 and the signs -/
def kPI (i : Nat) : Prop := i < 4 ∨ i = 6 ∨ i = 7 ∨ 15 ≤ i
def kPA (a : Nat) : Prop := a ≠ 14
def PK (v w : SS) : Prop := (∀ i : Nat, kPI i → gI w i = gI v i) ∧ ∀ a : Nat, kPA a → gA w a = gA v a
theorem PK_r (v : SS) : PK v v := ⟨fun _ _ => rfl, fun _ _ => rfl⟩
theorem PK_t (h : PK u w) (h2 : PK w x) : PK u x := ⟨fun i hi => (h2.1 i hi).trans (h.1 i hi), fun i hi => (h2.2 i hi).trans (h.2 i hi)⟩
theorem PK_I {i : Nat} {y : Int32} (hi : ¬ kPI i) (h : PK u w) : PK u (sI w i y) := ⟨fun j hj => by rw [sIn (fun z => hi (by rw [← z]; exact hj))]; exact h.1 j hj, h.2⟩
theorem PK_A {a : Nat} {i y : Int32} (ha : ¬ kPA a) (h : PK u w) : PK u (tA w a i y) := ⟨h.1, fun b hb => by rw [tAn (fun z => ha (by rw [← z]; exact hb))]; exact h.2 b hb⟩
theorem PK_J {i : Nat} {y : Int64} (h : PK u w) : PK u (sJ w i y) := ⟨h.1, h.2⟩
theorem PK_L {a : Nat} {i : Int32} {y : Int64} (h : PK u w) : PK u (tL w a i y) := ⟨h.1, h.2⟩
theorem PK_mk (h : PK v w) : MK v w := ⟨⟨fun i hi => h.1 i (by unfold kMI at hi; unfold kPI; omega), fun a ha => h.2 a (by unfold kMA at ha; unfold kPA; omega)⟩, h.2 18 (by unfold kPA; omega), h.2 24 (by unfold kPA; omega), h.1 16 (by unfold kPI; omega)⟩
theorem QK_pk (h : QK v w) : PK v w := ⟨fun i hi => h.1 i (by unfold kPI at hi; omega) (by unfold kPI at hi; omega), fun a _ => h.2.1 a⟩
/-- signs that wait for two -/
def isOp (x : Int32) : Bool := decide (x = 42) || decide (x = 47) || decide (x = 43) || decide (x = 45) || decide (x = 1) || decide (x = 2)
def sg (f : Nat → Int32) : Nat → Nat
  | 0 => 0
  | m + 1 => sg f m + (if isOp (f m) then 1 else 0)
theorem sg_t {f : Nat → Int32} {m : Nat} (h : isOp (f m) = true) : sg f (m + 1) = sg f m + 1 := by
  show sg f m + (if isOp (f m) then 1 else 0) = _
  rw [if_pos h]
theorem sg_f {f : Nat → Int32} {m : Nat} (h : isOp (f m) = false) : sg f (m + 1) = sg f m := by
  show sg f m + (if isOp (f m) then 1 else 0) = _
  rw [h]; rfl
theorem sg_u {f : Nat → Int32} {x : Int32} {m : Nat} : ∀ {j : Nat}, j ≤ m → sg (upd f m x) j = sg f j := by
  intro j
  induction j with
  | zero => intro _; rfl
  | succ j ih =>
    intro hj
    show sg (upd f m x) j + (if isOp (upd f m x j) then 1 else 0) = sg f j + (if isOp (f j) then 1 else 0)
    rw [ih (by omega), upd_n _ _ (by omega)]
theorem sg_le (f : Nat → Int32) (m : Nat) : sg f m ≤ m := by
  induction m with
  | zero => exact Nat.le_refl _
  | succ m ih =>
    show sg f m + (if isOp (f m) then 1 else 0) ≤ m + 1
    split <;> omega
/-- reading the text: n bytes, a of them read, h held, s signs; e: 1 when a unit was read -/
def WX (n e h s a : Nat) (v w : SS) : Prop := PK v w ∧ NMI w ∧ bo (gI w 13) ∧ gI w 12 = 0 ∧ gI w 8 = nI h ∧ gI w 9 = nI s ∧ gI w 11 = nI a ∧ s ≤ a ∧ a ≤ n ∧ ST h w ∧ h = sg (gA w 14) s + e
theorem tpT {n e h s a : Nat} (hn : n ≤ 80) (hx : WX n e h s a v w) : ∃ r : Int32, f_X10_topSign w = some (r, w) ∧ ((s = 0 ∧ r = 0) ∨ (1 ≤ s ∧ r = gA w 14 (s - 1))) := by
  obtain ⟨-, -, -, -, -, e9, -, hs, ha, -, -⟩ := hx
  unfold f_X10_topSign
  rw [e9]
  rcases Nat.eq_zero_or_pos s with z | z
  · subst z
    exact ⟨0, by rw [if_pos (show nI 0 = (0 : Int32) from rfl)], Or.inl ⟨rfl, rfl⟩⟩
  · rw [if_neg (nI_ne0 z (by omega)), show nI s - (1 : Int32) = nI (s - 1) from pk_sub (a := s) (b := 1) (by omega), oi_nI (by decide) (show s - 1 < 100 by omega), nI_clamp (by omega)]
    exact ⟨_, rfl, Or.inr ⟨z, rfl⟩⟩
/-- a sign that waits for two is worked off -/
theorem pop1 {n h s a : Nat} {r : Int32} (hn : n ≤ 80) (q : Int32) (hx : WX n 1 h (s + 1) a v w) (er : gA w 14 s = r) (ho : isOp r = true) : TO (fun y => ∃ h2 : Nat, WX n 1 h2 s a v (sI y 9 (nI s))) (f_X10_work q w) := by
  obtain ⟨m, nm, b13, e12, e8, e9, e11, hs, ha, st, eh⟩ := hx
  rw [sg_t (by rw [er]; exact ho)] at eh
  have sl := sg_le (gA w 14) s
  obtain ⟨h0, rfl⟩ : ∃ h0, h = h0 + 2 := ⟨h - 2, by omega⟩
  refine to_w (wkT (by omega) q e8 b13 st) (fun y hy => ?_)
  obtain ⟨⟨f1, f2, f3, f4⟩, g8, g13, gs⟩ := hy
  refine ⟨h0 + 1, ?_, ?_, ?_, ?_, ?_, sIe, ?_, by omega, ha, gs, ?_⟩
  · refine PK_I (by unfold kPI; omega) ?_
    exact PK_t m ⟨fun i hi => f1 i (by unfold kPI at hi; omega) (by unfold kPI at hi; omega), fun a _ => f2 a⟩
  · intro j hj
    rw [gL_sI, gL_sI, f3, f4]; exact nm j hj
  · rw [sIn (by decide)]; exact g13
  · rw [sIn (by decide), f1 12 (by decide) (by decide)]; exact e12
  · rw [sIn (by decide)]; exact g8
  · rw [sIn (by decide), f1 11 (by decide) (by decide)]; exact e11
  · rw [gA_sI, f2 14]; omega
theorem seM {n h s a : Nat} (hn : n ≤ 80) (b1 : Int32) (hx : WX n 1 h s a v w) : TO (fun y => ∃ h2 s2 : Nat, s2 ≤ s ∧ WX n 1 h2 s2 a v y) (f_X10_settle b1 w) := by
  have hs80 : s ≤ 80 := by
    obtain ⟨-, -, -, -, -, -, -, hs, ha, -, -⟩ := hx
    omega
  refine loopR (fun F (x : SS) => f_X10_settle_L0 F b1 x) (fun i x => ∃ h2 s2 : Nat, s2 + i ≤ s ∧ WX n 1 h2 s2 a v x) _ s ?_ (F := FU) (x := w) (Nat.lt_trans (show s < 1000 by omega) FU_ge) ⟨h, s, by omega, hx⟩
  intro F x i hi hI hc
  obtain ⟨h2, s2, hs2, hx⟩ := hI
  show TO _ (b_X10_settle_L0 (f_X10_settle_L0 F) b1 x)
  unfold b_X10_settle_L0 f_X10_settle_L40
  obtain ⟨r, er, hr⟩ := tpT hn hx
  simp only [er, ob_s]
  have go : isOp r = true → TO (fun y => ∃ h2 s2 : Nat, s2 ≤ s ∧ WX n 1 h2 s2 a v y) (ov (f_X10_work r x) fun u8 => lt (sI u8 9 ((gI u8 9) - (1 : Int32))) fun u9 => f_X10_settle_L0 F b1 u9) := by
    intro ho
    rcases hr with ⟨-, z⟩ | ⟨z1, z2⟩
    · rw [z] at ho; exact absurd ho (by decide)
    · obtain ⟨s3, rfl⟩ : ∃ s3, s2 = s3 + 1 := ⟨s2 - 1, by omega⟩
      have e9 : gI x 9 = nI (s3 + 1) := hx.2.2.2.2.2.1
      obtain ⟨y, ey, hy⟩ := pop1 hn r hx z2.symm ho
      have w9 : gI y 9 = nI (s3 + 1) := by
        obtain ⟨m, nm, b13, e12, e8, e9, e11, hs, ha, st, eh⟩ := hx
        rw [sg_t (by rw [show gA x 14 s3 = r from z2.symm]; exact ho)] at eh
        have sl := sg_le (gA x 14) s3
        obtain ⟨h0, rfl⟩ : ∃ h0, h2 = h0 + 2 := ⟨h2 - 2, by omega⟩
        obtain ⟨y2, ey2, hy2⟩ := wkT (by omega) r e8 b13 st
        rw [ey] at ey2
        have : y = y2 := Option.some.inj ey2
        subst this
        rw [hy2.1.1 9 (by decide) (by decide)]; exact e9
      rw [ey, ov_s, w9, nI_pred, lt_e]
      obtain ⟨h3, hy⟩ := hy
      exact hc (sI y 9 (nI s3)) (by omega) ⟨h3, s3, by omega, hy⟩
  refine to_c (fun c => go (by rw [c]; decide)) (fun _ => to_c (fun c => go (by rw [c]; decide)) (fun _ => to_c (fun _ => to_s ⟨h2, s2, by omega, hx⟩) (fun _ => to_c (fun c => go (by rw [c]; decide)) (fun _ => to_c (fun c => go (by rw [c]; decide)) (fun _ => to_s ⟨h2, s2, by omega, hx⟩)))))
/-- after a piece of the text: bad, or further on -/
def WP (n a : Nat) (v : SS) (p : Int32 × SS) : Prop := (gI p.2 12 = 1 ∧ PK v p.2) ∨ ∃ e h s a2 : Nat, a < a2 ∧ WX n e h s a2 v p.2 ∧ ((p.1 = 1 ∧ e = 0) ∨ (p.1 = 0 ∧ e = 1))
theorem bad1 {a : Nat} (m : PK v w) (r : Int32) : WP n a v (r, sI w 12 1) := Or.inl ⟨sIe, PK_I (by unfold kPI; omega) m⟩
/-- a sign is put on: one byte further -/
theorem put1 {n e e2 h s a : Nat} {q : Int32} (hn : n ≤ 80) (ha : a < n) (hx : WX n e h s a v w) (he : h = sg (gA w 14) s + (if isOp q then 1 else 0) + e2) : WX n e2 h (s + 1) (a + 1) v (sI (sI (tA w 14 (nI s) q) 9 (nI (s + 1))) 11 (nI (a + 1))) := by
  obtain ⟨m, nm, b13, e12, e8, e9, e11, hs, ha2, st, eh⟩ := hx
  refine ⟨PK_I (by unfold kPI; omega) (PK_I (by unfold kPI; omega) (PK_A (by unfold kPA; omega) m)), nm, b13, e12, e8, ?_, sIe, by omega, by omega, st, ?_⟩
  · rw [sIn (by decide), sIe]
  · rw [gA_sI, gA_sI, tAe, nI_clamp (by omega), he]
    show _ = sg (upd (gA w 14) s q) s + (if isOp (upd (gA w 14) s q s) then 1 else 0) + e2
    rw [sg_u (Nat.le_refl _), upd_s]
theorem rs42 {n h s a : Nat} (hn : n ≤ 80) (ha : a < n) {b : Int32} (hb : isOp b = true) (q : Int32) (hx : WX n 1 h s a v w) : TO (WP n a v) (f_X10_readSign_L42 b q w) := by
  unfold f_X10_readSign_L42
  refine to_v (seM hn q hx) (fun y hy => ?_)
  obtain ⟨h2, s2, hs2, hy⟩ := hy
  have s80 : s2 ≤ a := hy.2.2.2.2.2.2.2.1
  rw [hy.2.2.2.2.2.1]
  refine to_i (by decide) ⟨s2, by omega, rfl⟩ (to_l ?_)
  rw [gI_tA, hy.2.2.2.2.2.1, nI_1, lt_e, sIn (by decide), gI_tA, hy.2.2.2.2.2.2.1, nI_1, lt_e]
  refine to_s (Or.inr ⟨0, h2, s2 + 1, a + 1, by omega, put1 hn ha hy ?_, Or.inl ⟨rfl, rfl⟩⟩)
  rw [hb]; exact hy.2.2.2.2.2.2.2.2.2.2
theorem rs112 {n h s a : Nat} (hn : n ≤ 80) (ha : a < n) (q : Int32) (hb : bo q) (hx : WX n 1 h s a v w) (hq : q = 0 → 1 ≤ s ∧ (gA w 14 (s - 1) = 60 ∨ gA w 14 (s - 1) = 62)) : TO (WP n a v) (f_X10_readSign_L112 q w) := by
  unfold f_X10_readSign_L112
  refine to_n (fun z => z hb) (to_l ?_)
  rw [sIe]
  refine to_c (fun c => ?_) (fun c => to_s ?_)
  rotate_left
  · refine Or.inl ⟨?_, PK_I (by unfold kPI; omega) hx.1⟩
    show gI (sI w 12 q) 12 = 1
    rw [sIe]; exact hb.resolve_left c
  obtain ⟨hs, ho⟩ := hq c
  have ew : sI w 12 q = w := sI_same (by rw [hx.2.2.2.1]; exact c.symm)
  rw [ew]
  obtain ⟨r, er, hr⟩ := tpT hn hx
  rw [er, ob_s]
  have sl : s ≤ a := hx.2.2.2.2.2.2.2.1
  have L : ∀ p : Int32, isOp p = true → TO (WP n a v) (f_X10_readSign_L146 p ((gI w 9) - (1 : Int32)) w) := by
    intro p hp
    unfold f_X10_readSign_L146
    rw [hx.2.2.2.2.2.1, show nI s - (1 : Int32) = nI (s - 1) from pk_sub (a := s) (b := 1) (by omega)]
    refine to_i (by decide) ⟨s - 1, by omega, rfl⟩ (to_l ?_)
    rw [gI_tA, hx.2.2.2.2.2.2.1, nI_1, lt_e]
    obtain ⟨m, nm, b13, e12, e8, e9, e11, hs2, ha2, st, eh⟩ := hx
    refine to_s (Or.inr ⟨0, h, s, a + 1, by omega, ⟨PK_I (by unfold kPI; omega) (PK_A (by unfold kPA; omega) m), nm, b13, e12, e8, e9, sIe, by omega, by omega, st, ?_⟩, Or.inl ⟨rfl, rfl⟩⟩)
    rw [gA_sI, tAe, nI_clamp (by omega)]
    obtain ⟨s3, rfl⟩ : ∃ s3, s = s3 + 1 := ⟨s - 1, by omega⟩
    have e3 : s3 + 1 - 1 = s3 := by omega
    rw [e3] at ho ⊢
    rw [sg_f (by rcases ho with z | z <;> rw [z] <;> decide)] at eh
    show h = sg (upd (gA w 14) s3 p) s3 + (if isOp (upd (gA w 14) s3 p s3) then 1 else 0) + 0
    rw [sg_u (Nat.le_refl _), upd_s, hp]
    exact eh
  exact to_c (fun _ => L 1 (by decide)) (fun _ => L 2 (by decide))
theorem rs197 {n h s a : Nat} (hn : n ≤ 80) (ha : a < n) (r q : Int32) (hb : bo q) (hx : WX n 1 h s a v w) (hq : q = 0 → 1 ≤ s ∧ gA w 14 (s - 1) = r ∧ (r = 40 ∨ r = 1 ∨ r = 2)) : TO (WP n a v) (f_X10_readSign_L197 r q w) := by
  unfold f_X10_readSign_L197
  refine to_n (fun z => z hb) (to_l ?_)
  rw [sIe]
  refine to_c (fun c => ?_) (fun c => to_s ?_)
  rotate_left
  · refine Or.inl ⟨?_, PK_I (by unfold kPI; omega) hx.1⟩
    show gI (sI w 12 q) 12 = 1
    rw [sIe]; exact hb.resolve_left c
  obtain ⟨hs, er, ho⟩ := hq c
  have ew : sI w 12 q = w := sI_same (by rw [hx.2.2.2.1]; exact c.symm)
  rw [ew]
  obtain ⟨s3, rfl⟩ : ∃ s3, s = s3 + 1 := ⟨s - 1, by omega⟩
  have er : gA w 14 s3 = r := er
  rw [hx.2.2.2.2.2.1, nI_pred, lt_e, lt_e, sIn (by decide), sIn (by decide), sIn (by decide), hx.2.2.2.2.2.2.1, nI_1, lt_e]
  obtain ⟨m, nm, b13, e12, e8, e9, e11, hs2, ha2, st, eh⟩ := id hx
  have base : PK v (sI (sI (sI w 9 (nI s3)) 10 (gI w 10 - 1)) 11 (nI (a + 1))) := PK_I (by unfold kPI; omega) (PK_I (by unfold kPI; omega) (PK_I (by unfold kPI; omega) m))
  refine to_c (fun c4 => to_s (Or.inr ⟨1, h, s3, a + 1, by omega, ⟨base, nm, b13, e12, e8, ?_, sIe, by omega, by omega, st, ?_⟩, Or.inr ⟨rfl, rfl⟩⟩)) (fun c4 => ?_)
  · rw [sIn (by decide), sIn (by decide), sIe]
  · rw [gA_sI, gA_sI, gA_sI]
    rw [sg_f (by rw [er, c4]; decide)] at eh
    exact eh
  have hop : isOp r = true := by
    rcases ho with z | z | z
    · exact absurd z c4
    · rw [z]; decide
    · rw [z]; decide
  have L : ∀ p : Int32, TO (WP n a v) (f_X10_readSign_L256 p (sI (sI (sI w 9 (nI s3)) 10 (gI w 10 - 1)) 11 (nI (a + 1)))) := by
    intro p
    unfold f_X10_readSign_L256
    rw [sg_t (by rw [er]; exact hop)] at eh
    have sl := sg_le (gA w 14) s3
    obtain ⟨h0, rfl⟩ : ∃ h0, h = h0 + 2 := ⟨h - 2, by omega⟩
    refine to_v (wkT (w := sI (sI (sI w 9 (nI s3)) 10 (gI w 10 - 1)) 11 (nI (a + 1))) (by omega) p e8 b13 st) (fun y hy => ?_)
    obtain ⟨⟨f1, f2, f3, f4⟩, g8, g13, gs⟩ := hy
    refine to_s (Or.inr ⟨1, h0 + 1, s3, a + 1, by omega, ⟨?_, ?_, g13, ?_, g8, ?_, ?_, by omega, by omega, gs, ?_⟩, Or.inr ⟨rfl, rfl⟩⟩)
    · exact PK_t base ⟨fun i hi => f1 i (by unfold kPI at hi; omega) (by unfold kPI at hi; omega), fun a _ => f2 a⟩
    · intro j hj
      rw [f3, f4]; exact nm j hj
    · rw [f1 12 (by decide) (by decide)]; exact e12
    · rw [f1 9 (by decide) (by decide), sIn (by decide), sIn (by decide), sIe]
    · rw [f1 11 (by decide) (by decide), sIe]
    · rw [f2 14, gA_sI, gA_sI, gA_sI]; omega
  exact to_c (fun _ => L _) (fun _ => L _)
theorem rsM_T {n h s a : Nat} (hn : n ≤ 80) (ha : a < n) (q : Int32) (hx : WX n 1 h s a v w) : TO (WP n a v) (f_X10_readSign q w) := by
  unfold f_X10_readSign f_X10_readSign_L24 f_X10_readSign_L37 f_X10_readSign_L111 f_X10_readSign_L196
  have B : isOp q = true → TO (WP n a v) (if q = (43 : Int32) then (f_X10_readSign_L42 q (1 : Int32) w) else (if q = (45 : Int32) then (f_X10_readSign_L42 q (1 : Int32) w) else (f_X10_readSign_L42 q (0 : Int32) w))) := fun ho => to_c (fun _ => rs42 hn ha ho _ hx) (fun _ => to_c (fun _ => rs42 hn ha ho _ hx) (fun _ => rs42 hn ha ho _ hx))
  refine to_c (fun c => B (by rw [c]; decide)) (fun _ => to_c (fun c => B (by rw [c]; decide)) (fun _ => to_c (fun c => B (by rw [c]; decide)) (fun _ => to_c (fun c => B (by rw [c]; decide)) (fun _ => to_c (fun _ => ?_) (fun _ => to_c (fun _ => ?_) (fun _ => to_l (to_s (bad1 hx.1 _))))))))
  · refine to_v (seM hn _ hx) (fun y hy => ?_)
    obtain ⟨h2, s2, hs2, hy⟩ := hy
    obtain ⟨r, er, hr⟩ := tpT hn hy
    simp only [er, ob_s]
    have T : ∀ c : Int32, r = c → ¬ (0 : Int32) = c → 1 ≤ s2 ∧ gA y 14 (s2 - 1) = c := by
      intro c hc h0
      rcases hr with ⟨-, z⟩ | ⟨z1, z2⟩
      · exact absurd (z.symm.trans hc) h0
      · exact ⟨z1, z2.symm.trans hc⟩
    refine to_c (fun c => rs112 hn ha _ (Or.inl rfl) hy (fun _ => ⟨(T 60 c (by decide)).1, Or.inl (T 60 c (by decide)).2⟩)) (fun _ => to_c (fun c => rs112 hn ha _ (Or.inl rfl) hy (fun _ => ⟨(T 62 c (by decide)).1, Or.inr (T 62 c (by decide)).2⟩)) (fun _ => rs112 hn ha _ (Or.inr rfl) hy (fun z => absurd z nz_1)))
  · refine to_v (seM hn _ hx) (fun y hy => ?_)
    obtain ⟨h2, s2, hs2, hy⟩ := hy
    obtain ⟨r, er, hr⟩ := tpT hn hy
    simp only [er, ob_s]
    have T : ∀ c : Int32, r = c → ¬ (0 : Int32) = c → 1 ≤ s2 ∧ gA y 14 (s2 - 1) = r := by
      intro c hc h0
      rcases hr with ⟨-, z⟩ | ⟨z1, z2⟩
      · exact absurd (z.symm.trans hc) h0
      · exact ⟨z1, z2.symm⟩
    refine to_c (fun c => rs197 hn ha _ _ (Or.inl rfl) hy (fun _ => ⟨(T 40 c (by decide)).1, (T 40 c (by decide)).2, Or.inl c⟩)) (fun _ => to_c (fun c => rs197 hn ha _ _ (Or.inl rfl) hy (fun _ => ⟨(T 1 c (by decide)).1, (T 1 c (by decide)).2, Or.inr (Or.inl c)⟩)) (fun _ => to_c (fun c => rs197 hn ha _ _ (Or.inl rfl) hy (fun _ => ⟨(T 2 c (by decide)).1, (T 2 c (by decide)).2, Or.inr (Or.inr c)⟩)) (fun _ => rs197 hn ha _ _ (Or.inr rfl) hy (fun z => absurd z nz_1))))
/-- a fraction pushed: one more held, a unit read -/
theorem phM {n h s a : Nat} {t d : Int64} (hn : n ≤ 80) (hx : WX n 0 h s a v w) (hq : QE t d) : ∃ y : SS, f_X10_push t d w = some y ∧ WX n 1 (h + 1) s a v y := by
  obtain ⟨m, nm, b13, e12, e8, e9, e11, hs, ha, st, eh⟩ := hx
  have sl := sg_le (gA w 14) s
  unfold f_X10_push
  rw [e8, oi_nI (by decide) (show h < 100 by omega), lt_e, gI_tL, e8, oi_nI (by decide) (show h < 100 by omega), lt_e, gI_tL, gI_tL, e8, nI_1, lt_e, lt_e]
  refine ⟨_, rfl, PK_I (by unfold kPI; omega) (PK_I (by unfold kPI; omega) (PK_L (PK_L m))), fun j hj => ?_, b13, e12, ?_, e9, e11, hs, ha, fun j hj => ?_, ?_⟩
  · rw [gL_sI, gL_sI, gL_sI, gL_sI, tLn (by decide), tLn (by decide), tLn (by decide), tLn (by decide)]; exact nm j hj
  · rw [sIn (by decide), sIe]
  · rw [gL_sI, gL_sI, gL_sI, gL_sI, tLn (show (2 : Nat) ≠ 3 by decide), tLe, tLe, tLn (show (3 : Nat) ≠ 2 by decide), nI_clamp (by omega)]
    by_cases z : j = h
    · rw [z, updL_s, updL_s]; exact hq
    · rw [updL_n _ _ z, updL_n _ _ z]; exact st j (by omega)
  · rw [gA_sI, gA_sI, gA_tL, gA_tL]; omega
theorem opM {n h s a : Nat} (hn : n ≤ 80) (ha : a < n) {q : Int32} (hq : isOp q = false) (hx : WX n 0 h s a v w) (r : SS → Option (Int32 × SS)) (hr : ∀ y, r y = some (1, y)) : TO (WP n a v) (ov (f_X10_open q w) r) := by
  unfold f_X10_open
  by_cases c : gI w 10 = 6
  · rw [if_pos c, lt_e, ov_s, hr]; exact to_s (bad1 hx.1 _)
  · rw [if_neg c, lt_e, sIn (by decide), hx.2.2.2.2.2.1, oi_nI (by decide) (show s < 100 by have := hx.2.2.2.2.2.2.2.1; omega), lt_e, gI_tA, sIn (by decide), hx.2.2.2.2.2.1, nI_1, lt_e, sIn (by decide), gI_tA, sIn (by decide), hx.2.2.2.2.2.2.1, nI_1, lt_e, ov_s, hr]
    have hx2 : WX n 0 h s a v (sI w 10 (gI w 10 + 1)) := by
      obtain ⟨m, nm, b13, e12, e8, e9, e11, hs, ha, st, eh⟩ := hx
      exact ⟨PK_I (by unfold kPI; omega) m, nm, b13, e12, e8, e9, e11, hs, ha, st, eh⟩
    exact to_s (Or.inr ⟨0, h, s + 1, a + 1, by omega, put1 (q := q) hn ha hx2 (by rw [hq]; exact hx2.2.2.2.2.2.2.2.2.2.2), Or.inl ⟨rfl, rfl⟩⟩)
theorem diM (a : Int32) (w : SS) : f_X10_isDigit a w = some (if a < 48 then 0 else if (57 : Int32) < a then 0 else 1, w) := by
  unfold f_X10_isDigit f_X10_in
  by_cases c1 : a < 48
  · rw [if_pos c1, if_pos c1, ob_s, if_neg (fun z => z (Or.inl rfl))]
  · rw [if_neg c1, if_neg c1]
    by_cases c2 : (57 : Int32) < a
    · rw [if_pos c2, if_pos c2, ob_s, if_neg (fun z => z (Or.inl rfl))]
    · rw [if_neg c2, if_neg c2, ob_s, if_neg (fun z => z (Or.inr rfl))]
theorem dig48 {r : Int32} (c1 : ¬ r < 48) (c2 : ¬ (57 : Int32) < r) : ∃ d : Nat, d ≤ 9 ∧ r = nI (48 + d) := by
  obtain ⟨m, hm, rfl⟩ := nI_of2 (x := r) (M := (57 : Int32)) (n := 57) (by decide) (fun z => c1 (Int32.lt_trans z (by decide))) (Int32.not_lt.mp c2)
  have h48 : 48 ≤ m := by
    rcases Nat.lt_or_ge m 48 with z | z
    · exact absurd (nI_lt (b := 48) z (by decide)) c1
    · exact z
  exact ⟨m - 48, by omega, by rw [show 48 + (m - 48) = m by omega]⟩
theorem dgv (t d : Nat) (hd : d ≤ 9) : (10 : Int64) * lN t + (nI (48 + d)).toInt64 - (48 : Int64) = lN (10 * t + d) := by
  rw [nI_l (by omega), show (10 : Int64) = lN 10 from rfl, lN_mul, lN_add, show 10 * t + (48 + d) = (10 * t + d) + 48 by omega, ← lN_add, show (48 : Int64) = lN 48 from rfl]
  exact Int64.add_sub_cancel _ _
theorem WX_at {n e h s a a2 : Nat} (h1 : a ≤ a2) (h2 : a2 ≤ n) (hx : WX n e h s a v w) : WX n e h s a2 v (sI w 11 (nI a2)) := by
  obtain ⟨m, nm, b13, e12, e8, e9, e11, hs, ha, st, eh⟩ := hx
  exact ⟨PK_I (by unfold kPI; omega) m, nm, b13, e12, e8, e9, sIe, by omega, h2, st, eh⟩

theorem nmM (x : Int32) (w : SS) : ∃ r : Int32, f_X10_nameOf x w = some (r, w) ∧ (r = -1 ∨ (rg 7 r ∧ ¬ x = -1)) := by
  unfold f_X10_nameOf
  by_cases c : x.toInt < 97 ∨ 113 < x.toInt
  · rw [if_pos c]; exact ⟨_, rfl, Or.inl rfl⟩
  rw [if_neg c]
  have n1 : ¬ x = -1 := fun z => c (by rw [z]; decide)
  by_cases c97 : x = 97
  · rw [if_pos c97]; exact ⟨_, rfl, Or.inr ⟨⟨3, by decide, by decide⟩, n1⟩⟩
  rw [if_neg c97]
  by_cases c98 : x = 98
  · rw [if_pos c98]; exact ⟨_, rfl, Or.inr ⟨⟨5, by decide, by decide⟩, n1⟩⟩
  rw [if_neg c98]
  by_cases c99 : x = 99
  · rw [if_pos c99]; exact ⟨_, rfl, Or.inl rfl⟩
  rw [if_neg c99]
  by_cases c100 : x = 100
  · rw [if_pos c100]; exact ⟨_, rfl, Or.inl rfl⟩
  rw [if_neg c100]
  by_cases c101 : x = 101
  · rw [if_pos c101]; exact ⟨_, rfl, Or.inl rfl⟩
  rw [if_neg c101]
  by_cases c102 : x = 102
  · rw [if_pos c102]; exact ⟨_, rfl, Or.inl rfl⟩
  rw [if_neg c102]
  by_cases c103 : x = 103
  · rw [if_pos c103]; exact ⟨_, rfl, Or.inl rfl⟩
  rw [if_neg c103]
  by_cases c104 : x = 104
  · rw [if_pos c104]; exact ⟨_, rfl, Or.inr ⟨⟨2, by decide, by decide⟩, n1⟩⟩
  rw [if_neg c104]
  by_cases c105 : x = 105
  · rw [if_pos c105]; exact ⟨_, rfl, Or.inl rfl⟩
  rw [if_neg c105]
  by_cases c106 : x = 106
  · rw [if_pos c106]; exact ⟨_, rfl, Or.inl rfl⟩
  rw [if_neg c106]
  by_cases c107 : x = 107
  · rw [if_pos c107]; exact ⟨_, rfl, Or.inr ⟨⟨6, by decide, by decide⟩, n1⟩⟩
  rw [if_neg c107]
  by_cases c108 : x = 108
  · rw [if_pos c108]; exact ⟨_, rfl, Or.inr ⟨⟨1, by decide, by decide⟩, n1⟩⟩
  rw [if_neg c108]
  by_cases c109 : x = 109
  · rw [if_pos c109]; exact ⟨_, rfl, Or.inl rfl⟩
  rw [if_neg c109]
  by_cases c110 : x = 110
  · rw [if_pos c110]; exact ⟨_, rfl, Or.inl rfl⟩
  rw [if_neg c110]
  by_cases c111 : x = 111
  · rw [if_pos c111]; exact ⟨_, rfl, Or.inl rfl⟩
  rw [if_neg c111]
  by_cases c112 : x = 112
  · rw [if_pos c112]; exact ⟨_, rfl, Or.inr ⟨⟨0, by decide, by decide⟩, n1⟩⟩
  rw [if_neg c112]
  by_cases c113 : x = 113
  · rw [if_pos c113]; exact ⟨_, rfl, Or.inr ⟨⟨4, by decide, by decide⟩, n1⟩⟩
  rw [if_neg c113]
  exact (sw97 c c97 c98 c99 c100 c101 c102 c103 c104 c105 c106 c107 c108 c109 c110 c111 c112 c113).elim
theorem by13 {n a : Nat} (hn : n ≤ 80) (ha : a < 2 ^ 31) (w : SS) : ∃ r : Int32, f_X10_byteAt_13 (nI n) (nI a) w = some (r, w) ∧ (r = -1 ∨ a < n) := by
  unfold f_X10_byteAt_13
  by_cases c : nI n ≤ nI a
  · rw [if_pos c]; exact ⟨_, rfl, Or.inl rfl⟩
  · have h2 : a < n := ltn ha c
    rw [if_neg c, oi_nI (by decide) (show a < 80 by omega)]; exact ⟨_, rfl, Or.inr h2⟩
theorem ru136_13 {n h s a : Nat} (hn : n ≤ 80) (hx : WX n 0 h s a v w) (hd : ∃ r : Int32, f_X10_byteAt_13 (nI n) (nI a) w = some (r, w) ∧ ¬ r < 48 ∧ ¬ (57 : Int32) < r) : TO (WP n a v) (f_X10_readUnit_13_L136 FU (nI n) (0 : Int64) (0 : Int32) w) := by
  refine loopR (fun F (x : Int64 × Int32 × SS) => f_X10_readUnit_13_L136 F (nI n) x.1 x.2.1 x.2.2) (fun i x => ∃ t : Nat, t < 10 ^ i ∧ x.1 = lN t ∧ x.2.1 = nI i ∧ WX n 0 h s (a + i) v x.2.2 ∧ (i = 0 → x.2.2 = w)) _ 6 ?_ (F := FU) (x := ((0 : Int64), (0 : Int32), w)) (Nat.lt_trans (by decide) FU_ge) ⟨0, by decide, rfl, rfl, hx, fun _ => rfl⟩
  intro F x i hi hI hc
  obtain ⟨b4, b6, y⟩ := x
  obtain ⟨t, ht, e4, e6, hy, h0y⟩ := hI
  have e4 : b4 = lN t := e4
  have e6 : b6 = nI i := e6
  have hy : WX n 0 h s (a + i) v y := hy
  have h0y : i = 0 → y = w := h0y
  subst e4
  subst e6
  show TO _ (b_X10_readUnit_13_L136 (f_X10_readUnit_13_L136 F) (nI n) (lN t) (nI i) y)
  unfold b_X10_readUnit_13_L136
  have t6 : t < 1000000 := Nat.lt_of_lt_of_le ht (Nat.pow_le_pow_right (n := 10) (by decide) hi)
  have done : 0 < i → TO (WP n a v) (f_X10_readUnit_13_L197 (lN t) y) := by
    intro hp
    unfold f_X10_readUnit_13_L197
    obtain ⟨z, ez, hz⟩ := phM hn hy (QE_i (z := (t : Int)) (m := 1) (by omega) (by omega) (by decide) (by decide))
    rw [iL_n] at ez
    have ez : f_X10_push (lN t) (1 : Int64) y = some z := ez
    rw [ez, ov_s]
    exact to_s (Or.inr ⟨1, h + 1, s, a + i, by omega, hz, Or.inr ⟨rfl, rfl⟩⟩)
  refine to_c (fun c => done ?_) (fun c1 => ?_)
  · rcases Nat.eq_zero_or_pos i with z | z
    · subst z; exact absurd c (by decide)
    · exact z
  have hi2 : i < 6 := ltn (n := 6) (by omega) c1
  have e11 : gI y 11 = nI (a + i) := hy.2.2.2.2.2.2.1
  have ain : a + i ≤ n := hy.2.2.2.2.2.2.2.2.1
  obtain ⟨r, er, hr⟩ := by13 hn (show a + i < 2 ^ 31 by omega) y
  rw [e11, er, ob_s, diM, ob_s]
  have zero : ¬ (¬ r < 48 ∧ ¬ (57 : Int32) < r) → 0 < i := by
    intro nd
    rcases Nat.eq_zero_or_pos i with q | q
    · exfalso
      subst q
      obtain ⟨r3, e3, d1, d2⟩ := hd
      have e5 : y = w := h0y rfl
      rw [e5] at er
      have e7 := e3.symm.trans er
      have e6 : r3 = r := (Prod.mk.inj (Option.some.inj e7)).1
      rw [e6] at d1 d2
      exact nd ⟨d1, d2⟩
    · exact q
  by_cases d1 : r < 48
  · rw [if_pos d1, if_pos rfl]; exact done (zero (fun z => z.1 d1))
  rw [if_neg d1]
  by_cases d2 : (57 : Int32) < r
  · rw [if_pos d2, if_pos rfl]; exact done (zero (fun z => z.2 d2))
  rw [if_neg d2, if_neg nz_1, e11, er, ob_s, e11, nI_1]
  obtain ⟨d, hd9, rfl⟩ := dig48 d1 d2
  rw [dgv t d hd9, lt_e, lt_e, nI_1, lt_e]
  have lt : a + i < n := hr.resolve_left (fun z => by
    have := (congrArg Int32.toInt z)
    rw [nI_toInt (by omega), show (-1 : Int32).toInt = -1 by decide] at this
    omega)
  refine hc (lN (10 * t + d), nI (i + 1), _) hi2 ⟨10 * t + d, ?_, rfl, rfl, WX_at (by omega) (by omega) hy, fun z => absurd z (by omega)⟩
  rw [Nat.pow_succ]; omega
theorem ruM13 {n h s a : Nat} (hn : n ≤ 80) (hx : WX n 0 h s a v w) : TO (WP n a v) (f_X10_readUnit_13 (nI n) w) := by
  unfold f_X10_readUnit_13
  have e11 : gI w 11 = nI a := hx.2.2.2.2.2.2.1
  have an : a ≤ n := hx.2.2.2.2.2.2.2.2.1
  obtain ⟨r, er, hr⟩ := by13 hn (show a < 2 ^ 31 by omega) w
  rw [e11, er, ob_s]
  have L22 : ∀ c : Int32, r = c → ¬ (-1 : Int32) = c → isOp r = false → TO (WP n a v) (f_X10_readUnit_13_L22 (nI n) r w) := by
    intro c hc h1 ho
    have lt : a < n := hr.resolve_left (fun z => h1 (z.symm.trans hc))
    unfold f_X10_readUnit_13_L22
    rw [e11, nI_1, lt_e, sIe]
    obtain ⟨r2, er2, hr2⟩ := by13 hn (show a + 1 < 2 ^ 31 by omega) (sI w 11 (nI (a + 1)))
    rw [er2, ob_s]
    have hx2 := WX_at (a2 := a + 1) (by omega) (by omega) hx
    refine to_c (fun c2 => ?_) (fun _ => to_l (to_s (bad1 hx2.1 _)))
    have lt2 : a + 1 < n := hr2.resolve_left (fun z => absurd (z.symm.trans c2) (by decide))
    refine to_w (opM hn lt2 ho hx2 _ (fun y => rfl)) (fun p hp => ?_)
    rcases hp with hp | ⟨e, h2, s2, a2, q, hp⟩
    · exact Or.inl hp
    · exact Or.inr ⟨e, h2, s2, a2, by omega, hp⟩
  refine to_c (fun c => L22 60 c (by decide) (by rw [c]; decide)) (fun _ => to_c (fun c => L22 62 c (by decide) (by rw [c]; decide)) (fun _ => to_c (fun c => ?_) (fun _ => ?_)))
  · have lt : a < n := hr.resolve_left (fun z => absurd (z.symm.trans c) (by decide))
    exact opM hn lt (by decide) hx _ (fun y => rfl)
  obtain ⟨r3, er3, hr3⟩ := nmM r w
  rw [er3, ob_s]
  refine to_c (fun c => ?_) (fun c => ?_)
  · rw [diM, ob_s]
    by_cases d1 : r < 48
    · rw [if_pos d1, if_pos rfl]; exact to_l (to_s (bad1 hx.1 _))
    rw [if_neg d1]
    by_cases d2 : (57 : Int32) < r
    · rw [if_pos d2, if_pos rfl]; exact to_l (to_s (bad1 hx.1 _))
    rw [if_neg d2, if_neg nz_1]
    exact ru136_13 hn hx ⟨r, er, d1, d2⟩
  · have hr4 : rg 7 r3 ∧ ¬ r = -1 := hr3.resolve_left (fun z => c (by rw [z]; exact lt_m1))
    have lt : a < n := hr.resolve_left hr4.2
    rw [er3, ob_s]
    refine to_i (by decide) hr4.1 ?_
    rw [er3, ob_s]
    refine to_i (by decide) hr4.1 ?_
    obtain ⟨y, ey, hy⟩ := phM hn hx (hx.2.1 _ (rg_cl (by decide) hr4.1))
    rw [ey, ov_s, hy.2.2.2.2.2.2.1, nI_1, lt_e]
    exact to_s (Or.inr ⟨1, h + 1, s, a + 1, by omega, WX_at (by omega) (by omega) hy, Or.inr ⟨rfl, rfl⟩⟩)
theorem wt83_13 {n h s a : Nat} (hn : n ≤ 80) (hx : WX n 1 h s a v w) : TO (PK v) (f_X10_workText_13_L83 w) := by
  unfold f_X10_workText_13_L83
  rw [hx.2.2.2.1, if_pos rfl]
  refine to_v (seM hn _ hx) (fun y hy => ?_)
  obtain ⟨h2, s2, hs2, hy⟩ := hy
  exact to_c (fun _ => to_l (to_s (PK_I (by unfold kPI; omega) hy.1))) (fun _ => to_l (to_s (PK_I (by unfold kPI; omega) hy.1)))
theorem wtM13 {n : Nat} (hn : n ≤ 80) (m : PK v w) (nm : NMI w) : TO (PK v) (f_X10_workText_13 (nI n) w) := by
  unfold f_X10_workText_13
  refine to_l (to_l (to_l (to_l (to_l (to_l (to_l ?_))))))
  have h0 : WX n 0 0 0 0 v (sI (sI (sI (sI (sI (sI (sI w 8 0) 9 0) 10 0) 11 0) 14 0) 12 0) 13 0) := ⟨PK_I (by unfold kPI; omega) (PK_I (by unfold kPI; omega) (PK_I (by unfold kPI; omega) (PK_I (by unfold kPI; omega) (PK_I (by unfold kPI; omega) (PK_I (by unfold kPI; omega) (PK_I (by unfold kPI; omega) m)))))), nm, Or.inl rfl, rfl, rfl, rfl, rfl, by omega, by omega, fun j hj => absurd hj (by omega), rfl⟩
  refine loopR (fun F (x : Int32 × SS) => f_X10_workText_13_L37 F (nI n) x.1 x.2) (fun i x => (gI x.2 12 = 1 ∧ PK v x.2) ∨ ∃ e h s a : Nat, i ≤ a ∧ WX n e h s a v x.2 ∧ ((x.1 = 1 ∧ e = 0) ∨ (x.1 = 0 ∧ e = 1))) _ (n + 1) ?_ (F := FU) (x := ((1 : Int32), _)) (Nat.lt_trans (show n + 1 < 1000 by omega) FU_ge) (Or.inr ⟨0, 0, 0, 0, by omega, h0, Or.inl ⟨rfl, rfl⟩⟩)
  intro F x i hi hI hc
  obtain ⟨b3, y⟩ := x
  show TO _ (b_X10_workText_13_L37 (f_X10_workText_13_L37 F) (nI n) b3 y)
  unfold b_X10_workText_13_L37 f_X10_workText_13_L56 f_X10_workText_13_L79
  rcases hI with ⟨e12, my⟩ | ⟨e, h, s, a, ia, hx, hb⟩
  · have e12 : gI y 12 = 1 := e12
    have my : PK v y := my
    rw [e12, if_neg nz_1]
    unfold f_X10_workText_13_L83
    rw [e12, if_neg nz_1]
    exact to_s my
  · have hx : WX n e h s a v y := hx
    have an : a ≤ n := hx.2.2.2.2.2.2.2.2.1
    have next : ∀ p : Int32 × SS, WP n a v p → TO (PK v) (f_X10_workText_13_L37 F (nI n) p.1 p.2) := by
      intro p hp
      refine hc p (by omega) ?_
      rcases hp with hp | ⟨e2, h2, s2, a2, q, hp⟩
      · exact Or.inl hp
      · exact Or.inr ⟨e2, h2, s2, a2, by omega, hp⟩
    rw [hx.2.2.2.1, if_pos rfl]
    rcases hb with ⟨b1, rfl⟩ | ⟨b0, rfl⟩
    · have b1 : b3 = 1 := b1
      subst b1
      rw [if_neg nz_1, if_neg nz_1]
      exact to_b (ruM13 hn hx) (fun r z hz => next (r, z) hz)
    · have b0 : b3 = 0 := b0
      subst b0
      rw [if_pos rfl, hx.2.2.2.2.2.2.1]
      refine to_c (fun _ => wt83_13 hn hx) (fun c => ?_)
      have lt : a < n := ltn (by omega) c
      rw [if_pos rfl]
      refine to_i (by decide) ⟨a, by omega, rfl⟩ ?_
      exact to_b (rsM_T hn lt _ hx) (fun r z hz => next (r, z) hz)
theorem by14 {n a : Nat} (hn : n ≤ 80) (ha : a < 2 ^ 31) (w : SS) : ∃ r : Int32, f_X10_byteAt_14 (nI n) (nI a) w = some (r, w) ∧ (r = -1 ∨ a < n) := by
  unfold f_X10_byteAt_14
  by_cases c : nI n ≤ nI a
  · rw [if_pos c]; exact ⟨_, rfl, Or.inl rfl⟩
  · have h2 : a < n := ltn ha c
    rw [if_neg c, oi_nI (by decide) (show a < 80 by omega)]; exact ⟨_, rfl, Or.inr h2⟩
theorem ru136_14 {n h s a : Nat} (hn : n ≤ 80) (hx : WX n 0 h s a v w) (hd : ∃ r : Int32, f_X10_byteAt_14 (nI n) (nI a) w = some (r, w) ∧ ¬ r < 48 ∧ ¬ (57 : Int32) < r) : TO (WP n a v) (f_X10_readUnit_14_L136 FU (nI n) (0 : Int64) (0 : Int32) w) := by
  refine loopR (fun F (x : Int64 × Int32 × SS) => f_X10_readUnit_14_L136 F (nI n) x.1 x.2.1 x.2.2) (fun i x => ∃ t : Nat, t < 10 ^ i ∧ x.1 = lN t ∧ x.2.1 = nI i ∧ WX n 0 h s (a + i) v x.2.2 ∧ (i = 0 → x.2.2 = w)) _ 6 ?_ (F := FU) (x := ((0 : Int64), (0 : Int32), w)) (Nat.lt_trans (by decide) FU_ge) ⟨0, by decide, rfl, rfl, hx, fun _ => rfl⟩
  intro F x i hi hI hc
  obtain ⟨b4, b6, y⟩ := x
  obtain ⟨t, ht, e4, e6, hy, h0y⟩ := hI
  have e4 : b4 = lN t := e4
  have e6 : b6 = nI i := e6
  have hy : WX n 0 h s (a + i) v y := hy
  have h0y : i = 0 → y = w := h0y
  subst e4
  subst e6
  show TO _ (b_X10_readUnit_14_L136 (f_X10_readUnit_14_L136 F) (nI n) (lN t) (nI i) y)
  unfold b_X10_readUnit_14_L136
  have t6 : t < 1000000 := Nat.lt_of_lt_of_le ht (Nat.pow_le_pow_right (n := 10) (by decide) hi)
  have done : 0 < i → TO (WP n a v) (f_X10_readUnit_14_L197 (lN t) y) := by
    intro hp
    unfold f_X10_readUnit_14_L197
    obtain ⟨z, ez, hz⟩ := phM hn hy (QE_i (z := (t : Int)) (m := 1) (by omega) (by omega) (by decide) (by decide))
    rw [iL_n] at ez
    have ez : f_X10_push (lN t) (1 : Int64) y = some z := ez
    rw [ez, ov_s]
    exact to_s (Or.inr ⟨1, h + 1, s, a + i, by omega, hz, Or.inr ⟨rfl, rfl⟩⟩)
  refine to_c (fun c => done ?_) (fun c1 => ?_)
  · rcases Nat.eq_zero_or_pos i with z | z
    · subst z; exact absurd c (by decide)
    · exact z
  have hi2 : i < 6 := ltn (n := 6) (by omega) c1
  have e11 : gI y 11 = nI (a + i) := hy.2.2.2.2.2.2.1
  have ain : a + i ≤ n := hy.2.2.2.2.2.2.2.2.1
  obtain ⟨r, er, hr⟩ := by14 hn (show a + i < 2 ^ 31 by omega) y
  rw [e11, er, ob_s, diM, ob_s]
  have zero : ¬ (¬ r < 48 ∧ ¬ (57 : Int32) < r) → 0 < i := by
    intro nd
    rcases Nat.eq_zero_or_pos i with q | q
    · exfalso
      subst q
      obtain ⟨r3, e3, d1, d2⟩ := hd
      have e5 : y = w := h0y rfl
      rw [e5] at er
      have e7 := e3.symm.trans er
      have e6 : r3 = r := (Prod.mk.inj (Option.some.inj e7)).1
      rw [e6] at d1 d2
      exact nd ⟨d1, d2⟩
    · exact q
  by_cases d1 : r < 48
  · rw [if_pos d1, if_pos rfl]; exact done (zero (fun z => z.1 d1))
  rw [if_neg d1]
  by_cases d2 : (57 : Int32) < r
  · rw [if_pos d2, if_pos rfl]; exact done (zero (fun z => z.2 d2))
  rw [if_neg d2, if_neg nz_1, e11, er, ob_s, e11, nI_1]
  obtain ⟨d, hd9, rfl⟩ := dig48 d1 d2
  rw [dgv t d hd9, lt_e, lt_e, nI_1, lt_e]
  have lt : a + i < n := hr.resolve_left (fun z => by
    have := (congrArg Int32.toInt z)
    rw [nI_toInt (by omega), show (-1 : Int32).toInt = -1 by decide] at this
    omega)
  refine hc (lN (10 * t + d), nI (i + 1), _) hi2 ⟨10 * t + d, ?_, rfl, rfl, WX_at (by omega) (by omega) hy, fun z => absurd z (by omega)⟩
  rw [Nat.pow_succ]; omega
theorem ruM14 {n h s a : Nat} (hn : n ≤ 80) (hx : WX n 0 h s a v w) : TO (WP n a v) (f_X10_readUnit_14 (nI n) w) := by
  unfold f_X10_readUnit_14
  have e11 : gI w 11 = nI a := hx.2.2.2.2.2.2.1
  have an : a ≤ n := hx.2.2.2.2.2.2.2.2.1
  obtain ⟨r, er, hr⟩ := by14 hn (show a < 2 ^ 31 by omega) w
  rw [e11, er, ob_s]
  have L22 : ∀ c : Int32, r = c → ¬ (-1 : Int32) = c → isOp r = false → TO (WP n a v) (f_X10_readUnit_14_L22 (nI n) r w) := by
    intro c hc h1 ho
    have lt : a < n := hr.resolve_left (fun z => h1 (z.symm.trans hc))
    unfold f_X10_readUnit_14_L22
    rw [e11, nI_1, lt_e, sIe]
    obtain ⟨r2, er2, hr2⟩ := by14 hn (show a + 1 < 2 ^ 31 by omega) (sI w 11 (nI (a + 1)))
    rw [er2, ob_s]
    have hx2 := WX_at (a2 := a + 1) (by omega) (by omega) hx
    refine to_c (fun c2 => ?_) (fun _ => to_l (to_s (bad1 hx2.1 _)))
    have lt2 : a + 1 < n := hr2.resolve_left (fun z => absurd (z.symm.trans c2) (by decide))
    refine to_w (opM hn lt2 ho hx2 _ (fun y => rfl)) (fun p hp => ?_)
    rcases hp with hp | ⟨e, h2, s2, a2, q, hp⟩
    · exact Or.inl hp
    · exact Or.inr ⟨e, h2, s2, a2, by omega, hp⟩
  refine to_c (fun c => L22 60 c (by decide) (by rw [c]; decide)) (fun _ => to_c (fun c => L22 62 c (by decide) (by rw [c]; decide)) (fun _ => to_c (fun c => ?_) (fun _ => ?_)))
  · have lt : a < n := hr.resolve_left (fun z => absurd (z.symm.trans c) (by decide))
    exact opM hn lt (by decide) hx _ (fun y => rfl)
  obtain ⟨r3, er3, hr3⟩ := nmM r w
  rw [er3, ob_s]
  refine to_c (fun c => ?_) (fun c => ?_)
  · rw [diM, ob_s]
    by_cases d1 : r < 48
    · rw [if_pos d1, if_pos rfl]; exact to_l (to_s (bad1 hx.1 _))
    rw [if_neg d1]
    by_cases d2 : (57 : Int32) < r
    · rw [if_pos d2, if_pos rfl]; exact to_l (to_s (bad1 hx.1 _))
    rw [if_neg d2, if_neg nz_1]
    exact ru136_14 hn hx ⟨r, er, d1, d2⟩
  · have hr4 : rg 7 r3 ∧ ¬ r = -1 := hr3.resolve_left (fun z => c (by rw [z]; exact lt_m1))
    have lt : a < n := hr.resolve_left hr4.2
    rw [er3, ob_s]
    refine to_i (by decide) hr4.1 ?_
    rw [er3, ob_s]
    refine to_i (by decide) hr4.1 ?_
    obtain ⟨y, ey, hy⟩ := phM hn hx (hx.2.1 _ (rg_cl (by decide) hr4.1))
    rw [ey, ov_s, hy.2.2.2.2.2.2.1, nI_1, lt_e]
    exact to_s (Or.inr ⟨1, h + 1, s, a + 1, by omega, WX_at (by omega) (by omega) hy, Or.inr ⟨rfl, rfl⟩⟩)
theorem wt83_14 {n h s a : Nat} (hn : n ≤ 80) (hx : WX n 1 h s a v w) : TO (PK v) (f_X10_workText_14_L83 w) := by
  unfold f_X10_workText_14_L83
  rw [hx.2.2.2.1, if_pos rfl]
  refine to_v (seM hn _ hx) (fun y hy => ?_)
  obtain ⟨h2, s2, hs2, hy⟩ := hy
  exact to_c (fun _ => to_l (to_s (PK_I (by unfold kPI; omega) hy.1))) (fun _ => to_l (to_s (PK_I (by unfold kPI; omega) hy.1)))
theorem wtM14 {n : Nat} (hn : n ≤ 80) (m : PK v w) (nm : NMI w) : TO (PK v) (f_X10_workText_14 (nI n) w) := by
  unfold f_X10_workText_14
  refine to_l (to_l (to_l (to_l (to_l (to_l (to_l ?_))))))
  have h0 : WX n 0 0 0 0 v (sI (sI (sI (sI (sI (sI (sI w 8 0) 9 0) 10 0) 11 0) 14 0) 12 0) 13 0) := ⟨PK_I (by unfold kPI; omega) (PK_I (by unfold kPI; omega) (PK_I (by unfold kPI; omega) (PK_I (by unfold kPI; omega) (PK_I (by unfold kPI; omega) (PK_I (by unfold kPI; omega) (PK_I (by unfold kPI; omega) m)))))), nm, Or.inl rfl, rfl, rfl, rfl, rfl, by omega, by omega, fun j hj => absurd hj (by omega), rfl⟩
  refine loopR (fun F (x : Int32 × SS) => f_X10_workText_14_L37 F (nI n) x.1 x.2) (fun i x => (gI x.2 12 = 1 ∧ PK v x.2) ∨ ∃ e h s a : Nat, i ≤ a ∧ WX n e h s a v x.2 ∧ ((x.1 = 1 ∧ e = 0) ∨ (x.1 = 0 ∧ e = 1))) _ (n + 1) ?_ (F := FU) (x := ((1 : Int32), _)) (Nat.lt_trans (show n + 1 < 1000 by omega) FU_ge) (Or.inr ⟨0, 0, 0, 0, by omega, h0, Or.inl ⟨rfl, rfl⟩⟩)
  intro F x i hi hI hc
  obtain ⟨b3, y⟩ := x
  show TO _ (b_X10_workText_14_L37 (f_X10_workText_14_L37 F) (nI n) b3 y)
  unfold b_X10_workText_14_L37 f_X10_workText_14_L56 f_X10_workText_14_L79
  rcases hI with ⟨e12, my⟩ | ⟨e, h, s, a, ia, hx, hb⟩
  · have e12 : gI y 12 = 1 := e12
    have my : PK v y := my
    rw [e12, if_neg nz_1]
    unfold f_X10_workText_14_L83
    rw [e12, if_neg nz_1]
    exact to_s my
  · have hx : WX n e h s a v y := hx
    have an : a ≤ n := hx.2.2.2.2.2.2.2.2.1
    have next : ∀ p : Int32 × SS, WP n a v p → TO (PK v) (f_X10_workText_14_L37 F (nI n) p.1 p.2) := by
      intro p hp
      refine hc p (by omega) ?_
      rcases hp with hp | ⟨e2, h2, s2, a2, q, hp⟩
      · exact Or.inl hp
      · exact Or.inr ⟨e2, h2, s2, a2, by omega, hp⟩
    rw [hx.2.2.2.1, if_pos rfl]
    rcases hb with ⟨b1, rfl⟩ | ⟨b0, rfl⟩
    · have b1 : b3 = 1 := b1
      subst b1
      rw [if_neg nz_1, if_neg nz_1]
      exact to_b (ruM14 hn hx) (fun r z hz => next (r, z) hz)
    · have b0 : b3 = 0 := b0
      subst b0
      rw [if_pos rfl, hx.2.2.2.2.2.2.1]
      refine to_c (fun _ => wt83_14 hn hx) (fun c => ?_)
      have lt : a < n := ltn (by omega) c
      rw [if_pos rfl]
      refine to_i (by decide) ⟨a, by omega, rfl⟩ ?_
      exact to_b (rsM_T hn lt _ hx) (fun r z hz => next (r, z) hz)
end ST22
