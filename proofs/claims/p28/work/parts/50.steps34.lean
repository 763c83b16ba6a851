section ST34
variable {k n : Nat} {u v v0 w x y : SS} {EVp : List Int32 → SS → Prop}
/-! the reference's reader, step by step, with what it has worked so far -/
theorem cp_at {w : SS} {a b j : Nat} {x : Int32} (h : j < x.toNatClampNeg) : gA (cpA w a b x) b j = gA w a j := by
  show (if b = b then va_cpy (gA w a) (gA w b) 0 0 x.toNatClampNeg else gA w b) j = _
  rw [if_pos rfl]
  unfold va_cpy
  rw [if_pos ⟨Nat.zero_le _, by omega⟩, Nat.sub_zero, Nat.zero_add]
def oA (q : Int32) : Prop := q = 42 ∨ q = 47
theorem oA_B {q : Int32} (h : oA q) : oB q := h.elim Or.inl (fun z => Or.inr (Or.inl z))
theorem oB_op {q : Int32} (h : oB q) : isOp q = true := by
  rcases h with z | z | z | z <;> rw [z] <;> decide
theorem oB_0 : ¬ oB 0 := by
  intro h
  rcases h with z | z | z | z <;> exact absurd z (by decide)
/-- what is worked: EVp T w, the codes T have been worked in w -/
def EOK (EVp : List Int32 → SS → Prop) : Prop :=
  (∀ (T : List Int32) (w z : SS), gI z 8 = gI w 8 → gI z 13 = gI w 13 → (∀ a : Nat, gL z a = gL w a) → EVp T w → EVp T z) ∧
  (∀ (T : List Int32) (w y : SS) (t : Nat), t < 1000000 → EVp T w → f_X10_push (lN t) 1 w = some y → EVp (T ++ [nI t]) y) ∧
  (∀ (T : List Int32) (w y : SS) (c : Int32) (r : Nat), r < 7 → f_X10_nameOf c w = some (nI r, w) → NMI w → EVp T w → f_X10_push (gL w 0 r) (gL w 1 r) w = some y → EVp (T ++ [-c]) y) ∧
  (∀ (T : List Int32) (w y : SS) (q : Int32) (h : Nat), (oB q ∨ q = 60 ∨ q = 62) → h + 2 ≤ 100 → gI w 8 = nI (h + 2) → bo (gI w 13) → ST (h + 2) w → EVp T w → f_X10_work q w = some y → EVp (T ++ [-q]) y)
def RX (EVp : List Int32 → SS → Prop) (v0 : SS) (n e d s a U : Nat) (T : List Int32) (w : SS) : Prop := (∃ h : Nat, WX n e h s a v0 w) ∧ gI w 10 = nI d ∧ gI w 14 = nI U ∧ EVp T w
theorem RX_o {e d s a U : Nat} {T : List Int32} (hx : RX EVp v0 n e d s a U T w) : PK v0 w ∧ gI w 12 = 0 ∧ gI w 9 = nI s ∧ gI w 11 = nI a ∧ s ≤ a ∧ a ≤ n := by
  obtain ⟨⟨h, m, nm, b13, e12, e8, e9, e11, hs, ha, st, eh⟩, -⟩ := hx
  exact ⟨m, e12, e9, e11, hs, ha⟩
theorem tpX {e d s a U : Nat} {T : List Int32} (hn : n ≤ 80) (hx : RX EVp v0 n e d s a U T w) : ∃ r : Int32, f_X10_topSign w = some (r, w) ∧ ((s = 0 ∧ r = 0) ∨ (1 ≤ s ∧ r = gA w 14 (s - 1))) := by
  obtain ⟨⟨h, hw⟩, -⟩ := hx
  exact tpT hn hw
/-- a piece of work on an RX -/
theorem wkX {d s a U : Nat} {T : List Int32} {q r : Int32} (hn : n ≤ 80) (hE : EOK EVp) (hx : RX EVp v0 n 1 d (s + 1) a U T w) (er : gA w 14 s = r) (ho : isOp r = true) (hq : oB q ∨ q = 60 ∨ q = 62) : ∃ y : SS, f_X10_work q w = some y ∧ gI y 9 = nI (s + 1) ∧ RX EVp v0 n 1 d s a U (T ++ [-q]) (sI y 9 (nI s)) ∧ gA y 14 = gA w 14 := by
  obtain ⟨⟨h, hw⟩, e10, e14, ev⟩ := hx
  obtain ⟨m, nm, b13, e12, e8, e9, e11, hs, ha, st, eh⟩ := hw
  rw [sg_t (by rw [er]; exact ho)] at eh
  have sl := sg_le (gA w 14) s
  obtain ⟨h0, rfl⟩ : ∃ h0, h = h0 + 2 := ⟨h - 2, by omega⟩
  obtain ⟨y, ey, hy⟩ := wkT (by omega) q e8 b13 st
  have ev2 := hE.2.2.2 T w y q h0 hq (by omega) e8 b13 st ev ey
  obtain ⟨⟨f1, f2, f3, f4⟩, g8, g13, gs⟩ := hy
  refine ⟨y, ey, by rw [f1 9 (by decide) (by decide)]; exact e9, ⟨⟨h0 + 1, ?_⟩, ?_, ?_, ?_⟩, f2 14⟩
  · refine ⟨PK_I (by unfold kPI; omega) (PK_t m ⟨fun i hi => f1 i (by unfold kPI at hi; omega) (by unfold kPI at hi; omega), fun a _ => f2 a⟩), fun j hj => ?_, ?_, ?_, ?_, sIe, ?_, by omega, ha, gs, ?_⟩
    · rw [gL_sI, gL_sI, f3, f4]; exact nm j hj
    · rw [sIn (by decide)]; exact g13
    · rw [sIn (by decide), f1 12 (by decide) (by decide)]; exact e12
    · rw [sIn (by decide)]; exact g8
    · rw [sIn (by decide), f1 11 (by decide) (by decide)]; exact e11
    · rw [gA_sI, f2 14]; omega
  · rw [sIn (by decide), f1 10 (by decide) (by decide)]; exact e10
  · rw [sIn (by decide), f1 14 (by decide) (by decide)]; exact e14
  · exact hE.1 _ y _ (sIn (by decide)) (sIn (by decide)) (fun a => rfl) ev2
/-- signs that wait, the upmost first, above s -/
def prw (w : SS) (s : Nat) : List Int32 → Prop
  | [] => True
  | q :: R => gA w 14 (s + R.length) = q ∧ prw w s R
theorem prw_e {s : Nat} : ∀ {R : List Int32}, gA y 14 = gA w 14 → prw w s R → prw y s R
  | [], _, _ => trivial
  | q :: R, e, h => ⟨by rw [e]; exact h.1, prw_e e h.2⟩
def al (b q : Int32) : Prop := q = 42 ∨ q = 47 ∨ (¬ b = 0 ∧ (q = 43 ∨ q = 45))
theorem al_B {b q : Int32} (h : al b q) : oB q := h.elim Or.inl (fun h => h.elim (fun z => Or.inr (Or.inl z)) (fun z => z.2.elim (fun z => Or.inr (Or.inr (Or.inl z))) (fun z => Or.inr (Or.inr (Or.inr z)))))
theorem seX {d s a U : Nat} (hn : n ≤ 80) (hE : EOK EVp) (b : Int32) : ∀ (R : List Int32) (F : Nat) (T : List Int32) (w : SS), (∀ q ∈ R, al b q) → prw w s R → (s = 0 ∨ ¬ al b (gA w 14 (s - 1))) → R.length < F → RX EVp v0 n 1 d (s + R.length) a U T w → ∃ y : SS, f_X10_settle_L0 F b w = some y ∧ RX EVp v0 n 1 d s a U (T ++ R.map (fun q => -q)) y ∧ gA y 14 = gA w 14 := by
  intro R
  induction R with
  | nil =>
    intro F T w hR hp hs hF hx
    have hx : RX EVp v0 n 1 d s a U T w := hx
    match F, hF with
    | F + 1, _ =>
      obtain ⟨r, er, hr⟩ := tpX hn hx
      have na : ¬ al b r := by
        intro z
        rcases hr with ⟨-, q⟩ | ⟨q1, q2⟩
        · rw [q] at z; exact oB_0 (al_B z)
        · rcases hs with q | q
          · omega
          · rw [q2] at z; exact q z
      show ∃ y, b_X10_settle_L0 (f_X10_settle_L0 F) b w = some y ∧ _
      unfold b_X10_settle_L0
      simp only [er, ob_s]
      rw [if_neg (fun z => na (Or.inl z)), if_neg (fun z => na (Or.inr (Or.inl z)))]
      refine ⟨w, ?_, by rw [List.map_nil, List.append_nil]; exact hx, rfl⟩
      by_cases b0 : b = 0
      · rw [if_pos b0]
      · rw [if_neg b0, if_neg (fun z => na (Or.inr (Or.inr ⟨b0, Or.inl z⟩))), if_neg (fun z => na (Or.inr (Or.inr ⟨b0, Or.inr z⟩)))]
  | cons q R ih =>
    intro F T w hR hp hs hF hx
    have hF : R.length + 1 < F := hF
    have hx : RX EVp v0 n 1 d (s + R.length + 1) a U T w := hx
    match F, hF with
    | F + 1, hF =>
      have hq := hR q List.mem_cons_self
      obtain ⟨r, er, hr⟩ := tpX hn hx
      have e : r = q := by
        rcases hr with ⟨z, -⟩ | ⟨-, z⟩
        · omega
        · rw [z, show s + R.length + 1 - 1 = s + R.length by omega]; exact hp.1
      subst e
      obtain ⟨y, ey, e9, hy, e14⟩ := wkX hn hE hx hp.1 (oB_op (al_B hq)) (Or.inl (al_B hq))
      have e14' : gA (sI y 9 (nI (s + R.length))) 14 = gA w 14 := e14
      obtain ⟨z, ez, hz, ez14⟩ := ih F (T ++ [-r]) (sI y 9 (nI (s + R.length))) (fun q hq => hR q (List.mem_cons_of_mem _ hq)) (prw_e e14' hp.2) (by rw [e14']; exact hs) (by omega) hy
      refine ⟨z, ?_, by rw [List.map_cons, List.append_cons]; exact hz, ez14.trans e14'⟩
      show b_X10_settle_L0 (f_X10_settle_L0 F) b w = some z
      unfold b_X10_settle_L0 f_X10_settle_L40
      simp only [er, ob_s]
      have g : (ov (f_X10_work r w) fun u8 => lt (sI u8 9 ((gI u8 9) - (1 : Int32))) fun u9 => f_X10_settle_L0 F b u9) = some z := by
        rw [ey, ov_s, e9, nI_pred, lt_e]; exact ez
      rw [g]
      rcases hq with c | c | ⟨b0, c⟩
      · rw [if_pos c]
      · rw [if_neg (by rw [c]; decide), if_pos c]
      · rcases c with c | c
        · rw [if_neg (by rw [c]; decide), if_neg (by rw [c]; decide), if_neg b0, if_pos c]
        · rw [if_neg (by rw [c]; decide), if_neg (by rw [c]; decide), if_neg b0, if_neg (by rw [c]; decide), if_pos c]
/-- signs of a kind wait above s; with them the codes are D -/
def RP (EVp : List Int32 → SS → Prop) (ok : Int32 → Prop) (v0 : SS) (n d s a U : Nat) (D : List Int32) (w : SS) : Prop := ∃ (R T : List Int32), RX EVp v0 n 1 d (s + R.length) a U T w ∧ prw w s R ∧ (∀ q ∈ R, ok q) ∧ D = T ++ R.map (fun q => -q)
theorem RP_0 {ok : Int32 → Prop} {d s a U : Nat} {D : List Int32} (h : RX EVp v0 n 1 d s a U D w) : RP EVp ok v0 n d s a U D w := ⟨[], D, h, trivial, fun q hq => absurd hq List.not_mem_nil, by rw [List.map_nil, List.append_nil]⟩
theorem RP_B {d s a U : Nat} {D : List Int32} (h : RP EVp oA v0 n d s a U D w) : RP EVp oB v0 n d s a U D w := by
  obtain ⟨R, T, h1, h2, h3, h4⟩ := h
  exact ⟨R, T, h1, h2, fun q hq => oA_B (h3 q hq), h4⟩
theorem RP_o {ok : Int32 → Prop} {d s a U : Nat} {D : List Int32} (h : RP EVp ok v0 n d s a U D w) : PK v0 w ∧ gI w 12 = 0 ∧ gI w 11 = nI a ∧ s ≤ a ∧ a ≤ n := by
  obtain ⟨R, T, h1, -⟩ := h
  obtain ⟨a1, a2, a3, a4, a5, a6⟩ := RX_o h1
  exact ⟨a1, a2, a4, by omega, a6⟩
theorem se1 {d s a U : Nat} {D : List Int32} (hn : n ≤ 80) (hE : EOK EVp) (h : RP EVp oB v0 n d s a U D w) (hs : s = 0 ∨ ¬ oB (gA w 14 (s - 1))) : ∃ y : SS, f_X10_settle 1 w = some y ∧ RX EVp v0 n 1 d s a U D y ∧ gA y 14 = gA w 14 := by
  obtain ⟨R, T, h1, h2, h3, h4⟩ := h
  obtain ⟨-, -, -, -, l1, l2⟩ := RX_o h1
  have ab : ∀ q, oB q → al 1 q := fun q z => z.elim Or.inl (fun z => z.elim (fun z => Or.inr (Or.inl z)) (fun z => Or.inr (Or.inr ⟨nz_1, z⟩)))
  obtain ⟨y, ey, hy, e14⟩ := seX hn hE 1 R FU T w (fun q hq => ab q (h3 q hq)) h2 (hs.elim Or.inl (fun z => Or.inr (fun q => z (al_B q)))) (Nat.lt_trans (show R.length < 1000 by omega) FU_ge) h1
  exact ⟨y, ey, by rw [h4]; exact hy, e14⟩
theorem se0 {d s a U : Nat} {D : List Int32} (hn : n ≤ 80) (hE : EOK EVp) (h : RP EVp oA v0 n d s a U D w) (hs : s = 0 ∨ ¬ oA (gA w 14 (s - 1))) : ∃ y : SS, f_X10_settle 0 w = some y ∧ RX EVp v0 n 1 d s a U D y ∧ gA y 14 = gA w 14 := by
  obtain ⟨R, T, h1, h2, h3, h4⟩ := h
  obtain ⟨-, -, -, -, l1, l2⟩ := RX_o h1
  have ab : ∀ q, oA q → al 0 q := fun q z => z.elim Or.inl (fun z => Or.inr (Or.inl z))
  obtain ⟨y, ey, hy, e14⟩ := seX hn hE 0 R FU T w (fun q hq => ab q (h3 q hq)) h2 (hs.elim Or.inl (fun z => Or.inr (fun q => z (q.elim Or.inl (fun q => q.elim Or.inr (fun q => absurd rfl q.1)))))) (Nat.lt_trans (show R.length < 1000 by omega) FU_ge) h1
  exact ⟨y, ey, by rw [h4]; exact hy, e14⟩
/-- a sign is put on -/
theorem putX {d s a U : Nat} {D : List Int32} {c : Int32} (hn : n ≤ 80) (hE : EOK EVp) (ha : a < n) (hc : isOp c = true) (hx : RX EVp v0 n 1 d s a U D w) : RX EVp v0 n 0 d (s + 1) (a + 1) U D (sI (sI (tA w 14 (nI s) c) 9 (nI (s + 1))) 11 (nI (a + 1))) := by
  obtain ⟨⟨h, hw⟩, e10, e14, ev⟩ := hx
  refine ⟨⟨h, put1 hn ha hw (by rw [hc]; exact hw.2.2.2.2.2.2.2.2.2.2)⟩, e10, e14, ?_⟩
  refine hE.1 _ w _ ?_ ?_ (fun a => rfl) ev
  · rw [sIn (by decide), sIn (by decide)]; rfl
  · rw [sIn (by decide), sIn (by decide)]; rfl
theorem row_p {s a : Nat} {c : Int32} (hs : s < 2 ^ 31) : gA (sI (sI (tA w 14 (nI s) c) 9 (nI (s + 1))) 11 (nI (a + 1))) 14 s = c ∧ ∀ j, j < s → gA (sI (sI (tA w 14 (nI s) c) 9 (nI (s + 1))) 11 (nI (a + 1))) 14 j = gA w 14 j := by
  rw [gA_sI, gA_sI, tAe, nI_clamp hs]
  exact ⟨upd_s _ _ _, fun j hj => upd_n _ _ (by omega)⟩
/-- + or - -/
theorem rsB1 {d s a U : Nat} {D : List Int32} {c : Int32} (hn : n ≤ 80) (hE : EOK EVp) (ha : a < n) (hc : c = 43 ∨ c = 45) (h : RP EVp oB v0 n d s a U D w) (hs : s = 0 ∨ ¬ oB (gA w 14 (s - 1))) : ∃ z : SS, f_X10_readSign c w = some (1, z) ∧ RX EVp v0 n 0 d (s + 1) (a + 1) U D z ∧ gA z 14 s = c ∧ ∀ j, j < s → gA z 14 j = gA w 14 j := by
  have ho : isOp c = true := by rcases hc with z | z <;> rw [z] <;> decide
  obtain ⟨y, ey, hy, e14⟩ := se1 hn hE h hs
  obtain ⟨hh, hw⟩ := hy.1
  have e : f_X10_readSign c w = f_X10_readSign_L42 c 1 w := by
    unfold f_X10_readSign f_X10_readSign_L24 f_X10_readSign_L37
    rcases hc with z | z
    · rw [if_neg (by rw [z]; decide), if_neg (by rw [z]; decide), if_pos z, if_pos z]
    · rw [if_neg (by rw [z]; decide), if_neg (by rw [z]; decide), if_neg (by rw [z]; decide), if_pos z, if_neg (by rw [z]; decide), if_pos z]
  have l := RX_o hy
  rw [e]
  unfold f_X10_readSign_L42
  rw [ey, ov_s, eq42 hn hw]
  obtain ⟨r1, r2⟩ := row_p (w := y) (s := s) (a := a) (c := c) (by omega)
  exact ⟨_, rfl, putX hn hE ha ho hy, r1, fun j hj => by rw [r2 j hj, e14]⟩
/-- * or / -/
theorem rsA1 {d s a U : Nat} {D : List Int32} {c : Int32} (hn : n ≤ 80) (hE : EOK EVp) (ha : a < n) (hc : oA c) (h : RP EVp oA v0 n d s a U D w) (hs : s = 0 ∨ ¬ oA (gA w 14 (s - 1))) : ∃ z : SS, f_X10_readSign c w = some (1, z) ∧ RX EVp v0 n 0 d (s + 1) (a + 1) U D z ∧ gA z 14 s = c ∧ ∀ j, j < s → gA z 14 j = gA w 14 j := by
  have ho : isOp c = true := by rcases hc with z | z <;> rw [z] <;> decide
  obtain ⟨y, ey, hy, e14⟩ := se0 hn hE h hs
  obtain ⟨hh, hw⟩ := hy.1
  have e : f_X10_readSign c w = f_X10_readSign_L42 c 0 w := by
    unfold f_X10_readSign f_X10_readSign_L24 f_X10_readSign_L37
    rcases hc with z | z
    · rw [if_pos z, if_neg (by rw [z]; decide), if_neg (by rw [z]; decide)]
    · rw [if_neg (by rw [z]; decide), if_pos z, if_neg (by rw [z]; decide), if_neg (by rw [z]; decide)]
  have l := RX_o hy
  rw [e]
  unfold f_X10_readSign_L42
  rw [ey, ov_s, eq42 hn hw]
  obtain ⟨r1, r2⟩ := row_p (w := y) (s := s) (a := a) (c := c) (by omega)
  exact ⟨_, rfl, putX hn hE ha ho hy, r1, fun j hj => by rw [r2 j hj, e14]⟩
/-- bad at p -/
def Bd (p : Nat) (w : SS) : Prop := gI w 12 = 1 ∧ gI w 11 = nI p
/-- a sign that can't stand there -/
theorem rsXb {d s a U : Nat} {D : List Int32} {c : Int32} (hn : n ≤ 80) (hE : EOK EVp) (h : RP EVp oB v0 n d s a U D w) (hs : s = 0 ∨ ¬ oB (gA w 14 (s - 1))) (hc : ¬ oB c) (h41 : c = 41 → s = 0 ∨ ¬ (gA w 14 (s - 1) = 40 ∨ gA w 14 (s - 1) = 1 ∨ gA w 14 (s - 1) = 2)) (h44 : c = 44 → s = 0 ∨ ¬ (gA w 14 (s - 1) = 60 ∨ gA w 14 (s - 1) = 62)) : ∃ (r : Int32) (z : SS), f_X10_readSign c w = some (r, z) ∧ Bd a z := by
  obtain ⟨-, -, e11, -, -⟩ := RP_o h
  unfold f_X10_readSign
  rw [if_neg (fun z => hc (Or.inl z)), if_neg (fun z => hc (Or.inr (Or.inl z))), if_neg (fun z => hc (Or.inr (Or.inr (Or.inl z)))), if_neg (fun z => hc (Or.inr (Or.inr (Or.inr z))))]
  obtain ⟨y, ey, hy, e14⟩ := se1 hn hE h hs
  obtain ⟨r, er, hr⟩ := tpX hn hy
  have y11 : gI y 11 = nI a := (RX_o hy).2.2.2.1
  rw [e14] at hr
  by_cases c44 : c = 44
  · rw [if_pos c44, ey, ov_s]
    simp only [er, ob_s]
    have nr : ¬ r = 60 ∧ ¬ r = 62 := by
      rcases h44 c44 with z | z
      · rcases hr with ⟨-, q⟩ | ⟨q, -⟩
        · rw [q]; exact ⟨by decide, by decide⟩
        · omega
      · rcases hr with ⟨-, q⟩ | ⟨-, q⟩
        · rw [q]; exact ⟨by decide, by decide⟩
        · rw [q]; exact ⟨fun q => z (Or.inl q), fun q => z (Or.inr q)⟩
    rw [if_neg nr.1, if_neg nr.2]
    unfold f_X10_readSign_L112
    rw [if_neg (fun z => z (Or.inr rfl)), lt_e, sIe, if_neg nz_1]
    exact ⟨_, _, rfl, sIe, by rw [sIn (by decide)]; exact y11⟩
  rw [if_neg c44]
  by_cases c41 : c = 41
  · rw [if_pos c41, ey, ov_s]
    simp only [er, ob_s]
    have nr : ¬ r = 40 ∧ ¬ r = 1 ∧ ¬ r = 2 := by
      rcases h41 c41 with z | z
      · rcases hr with ⟨-, q⟩ | ⟨q, -⟩
        · rw [q]; exact ⟨by decide, by decide, by decide⟩
        · omega
      · rcases hr with ⟨-, q⟩ | ⟨-, q⟩
        · rw [q]; exact ⟨by decide, by decide, by decide⟩
        · rw [q]; exact ⟨fun q => z (Or.inl q), fun q => z (Or.inr (Or.inl q)), fun q => z (Or.inr (Or.inr q))⟩
    rw [if_neg nr.1, if_neg nr.2.1, if_neg nr.2.2]
    unfold f_X10_readSign_L197
    rw [if_neg (fun z => z (Or.inr rfl)), lt_e, sIe, if_neg nz_1]
    exact ⟨_, _, rfl, sIe, by rw [sIn (by decide)]; exact y11⟩
  · rw [if_neg c41, lt_e]
    exact ⟨_, _, rfl, sIe, by rw [sIn (by decide)]; exact e11⟩
/-- a comma where one is due: of < and > -/
theorem rsC1 {d s a U : Nat} {D : List Int32} {c : Int32} (hn : n ≤ 80) (hE : EOK EVp) (ha : a < n) (hc : c = 60 ∨ c = 62) (er0 : gA w 14 s = c) (h : RP EVp oB v0 n d (s + 1) a U D w) : ∃ z : SS, f_X10_readSign 44 w = some (1, z) ∧ RX EVp v0 n 0 d (s + 1) (a + 1) U D z ∧ gA z 14 s = (if c = 60 then 1 else 2) ∧ ∀ j, j < s → gA z 14 j = gA w 14 j := by
  have no : ¬ oB (gA w 14 (s + 1 - 1)) := by
    rw [show s + 1 - 1 = s by omega, er0]
    intro z
    rcases hc with q | q <;> rw [q] at z <;> rcases z with z | z | z | z <;> exact absurd z (by decide)
  obtain ⟨y, ey, hy, e14⟩ := se1 hn hE h (Or.inr no)
  obtain ⟨r, er, hr⟩ := tpX hn hy
  have er2 : r = c := by
    rcases hr with ⟨z, -⟩ | ⟨-, z⟩
    · omega
    · rw [z, show s + 1 - 1 = s by omega, e14]; exact er0
  subst er2
  obtain ⟨⟨hh, hw⟩, e10, e14U, ev⟩ := hy
  obtain ⟨m, nm, b13, e12, e8, e9, e11, hs2, ha2, st, eh⟩ := id hw
  have ew : sI y 12 0 = y := sI_same e12
  have fin : ∀ p : Int32, isOp p = true → ∃ z : SS, f_X10_readSign_L146 p ((gI y 9) - (1 : Int32)) y = some (1, z) ∧ RX EVp v0 n 0 d (s + 1) (a + 1) U D z ∧ gA z 14 s = p ∧ ∀ j, j < s → gA z 14 j = gA w 14 j := by
    intro p hp
    unfold f_X10_readSign_L146
    rw [e9, nI_pred, oi_nI (by decide) (show s < 100 by omega), lt_e, gI_tA, e11, nI_1, lt_e]
    refine ⟨_, rfl, ⟨⟨hh, PK_I (by unfold kPI; omega) (PK_A (by unfold kPA; omega) m), nm, b13, e12, e8, e9, sIe, by omega, by omega, st, ?_⟩, ?_, ?_, ?_⟩, ?_, fun j hj => ?_⟩
    · rw [gA_sI, tAe, nI_clamp (by omega)]
      rw [sg_f (by rw [e14, er0]; rcases hc with z | z <;> rw [z] <;> decide)] at eh
      show hh = sg (upd (gA y 14) s p) s + (if isOp (upd (gA y 14) s p s) then 1 else 0) + 0
      rw [sg_u (Nat.le_refl _), upd_s, hp]
      exact eh
    · rw [sIn (by decide)]; exact e10
    · rw [sIn (by decide)]; exact e14U
    · refine hE.1 _ y _ ?_ ?_ (fun a => rfl) ev
      · rw [sIn (by decide)]; rfl
      · rw [sIn (by decide)]; rfl
    · rw [gA_sI, tAe, nI_clamp (by omega), upd_s]
    · rw [gA_sI, tAe, nI_clamp (by omega), upd_n _ _ (by omega), e14]
  have L : f_X10_readSign_L112 0 y = (if r = (60 : Int32) then (f_X10_readSign_L146 (1 : Int32) ((gI y 9) - (1 : Int32)) y) else (f_X10_readSign_L146 (2 : Int32) ((gI y 9) - (1 : Int32)) y)) := by
    unfold f_X10_readSign_L112
    rw [if_neg (fun z => z (Or.inl rfl)), lt_e, sIe, if_pos rfl, ew, er, ob_s]
  unfold f_X10_readSign f_X10_readSign_L111
  rw [if_neg (by decide), if_neg (by decide), if_neg (by decide), if_neg (by decide), if_pos rfl, ey, ov_s]
  simp only [er, ob_s]
  rcases hc with z | z
  · rw [if_pos z, L, if_pos z, if_pos z]; exact fin 1 (by decide)
  · rw [if_neg (by rw [z]; decide), if_pos z, L, if_neg (by rw [z]; decide), if_neg (by rw [z]; decide)]; exact fin 2 (by decide)
/-- a closing bracket where one is due -/
theorem rsP1 {d s a U : Nat} {D : List Int32} {c : Int32} (hn : n ≤ 80) (hE : EOK EVp) (ha : a < n) (hc : c = 40 ∨ c = 1 ∨ c = 2) (er0 : gA w 14 s = c) (h : RP EVp oB v0 n (d + 1) (s + 1) a U D w) : ∃ z : SS, f_X10_readSign 41 w = some (0, z) ∧ RX EVp v0 n 1 d s (a + 1) U (if c = 40 then D else if c = 1 then D ++ [-60] else D ++ [-62]) z ∧ ∀ j, j < s → gA z 14 j = gA w 14 j := by
  have no : ¬ oB (gA w 14 (s + 1 - 1)) := by
    rw [show s + 1 - 1 = s by omega, er0]
    intro z
    rcases hc with q | q | q <;> rw [q] at z <;> rcases z with z | z | z | z <;> exact absurd z (by decide)
  obtain ⟨y, ey, hy, e14⟩ := se1 hn hE h (Or.inr no)
  obtain ⟨r, er, hr⟩ := tpX hn hy
  have er2 : r = c := by
    rcases hr with ⟨z, -⟩ | ⟨-, z⟩
    · omega
    · rw [z, show s + 1 - 1 = s by omega, e14]; exact er0
  subst er2
  obtain ⟨⟨hh, hw⟩, e10, e14U, ev⟩ := id hy
  obtain ⟨m, nm, b13, e12, e8, e9, e11, hs2, ha2, st, eh⟩ := id hw
  have ew : sI y 12 0 = y := sI_same e12
  have ers : gA y 14 s = r := by rw [e14]; exact er0
  have e10' : gI y 10 - 1 = nI d := by rw [e10]; exact nI_pred d
  have L : f_X10_readSign_L197 r 0 y = (if r = (40 : Int32) then (some ((0 : Int32), sI (sI (sI y 9 (nI s)) 10 (nI d)) 11 (nI (a + 1)))) else (if r = (1 : Int32) then (f_X10_readSign_L256 (60 : Int32) (sI (sI (sI y 9 (nI s)) 10 (nI d)) 11 (nI (a + 1)))) else (f_X10_readSign_L256 (62 : Int32) (sI (sI (sI y 9 (nI s)) 10 (nI d)) 11 (nI (a + 1)))))) := by
    unfold f_X10_readSign_L197
    rw [if_neg (fun z => z (Or.inl rfl)), lt_e, sIe, if_pos rfl, ew, eq197 hw, e10']
  have base : PK v0 (sI (sI (sI y 9 (nI s)) 10 (nI d)) 11 (nI (a + 1))) := PK_I (by unfold kPI; omega) (PK_I (by unfold kPI; omega) (PK_I (by unfold kPI; omega) m))
  have wrk : ∀ p : Int32, p = 60 ∨ p = 62 → isOp r = true → ∃ z : SS, f_X10_readSign_L256 p (sI (sI (sI y 9 (nI s)) 10 (nI d)) 11 (nI (a + 1))) = some (0, z) ∧ RX EVp v0 n 1 d s (a + 1) U (D ++ [-p]) z ∧ ∀ j, j < s → gA z 14 j = gA w 14 j := by
    intro p hp hop
    unfold f_X10_readSign_L256
    rw [sg_t (by rw [ers]; exact hop)] at eh
    have sl := sg_le (gA y 14) s
    obtain ⟨h0, rfl⟩ : ∃ h0, hh = h0 + 2 := ⟨hh - 2, by omega⟩
    obtain ⟨z, ez, hz⟩ := wkT (w := sI (sI (sI y 9 (nI s)) 10 (nI d)) 11 (nI (a + 1))) (h := h0) (by omega) p e8 b13 st
    have ev1 : EVp D (sI (sI (sI y 9 (nI s)) 10 (nI d)) 11 (nI (a + 1))) := by
      refine hE.1 _ y _ ?_ ?_ (fun a => rfl) ev
      · rw [sIn (by decide), sIn (by decide), sIn (by decide)]
      · rw [sIn (by decide), sIn (by decide), sIn (by decide)]
    have ev2 := hE.2.2.2 D (sI (sI (sI y 9 (nI s)) 10 (nI d)) 11 (nI (a + 1))) z p h0 (Or.inr hp) (by omega) e8 b13 st ev1 ez
    rw [ez, ov_s]
    refine ⟨z, rfl, ⟨⟨h0 + 1, wx_w base nm ?_ sIe (by omega) (by omega) ?_ ?_ hz⟩, ?_, ?_, ev2⟩, fun j hj => ?_⟩
    · rw [sIn (by decide), sIn (by decide), sIn (by decide)]; exact e12
    · rw [sIn (by decide), sIn (by decide), sIe]
    · rw [gA_sI, gA_sI, gA_sI]; omega
    · rw [hz.1.1 10 (by decide) (by decide), sIn (by decide), sIe]
    · rw [hz.1.1 14 (by decide) (by decide), sIn (by decide), sIn (by decide), sIn (by decide)]; exact e14U
    · rw [hz.1.2.1 14, gA_sI, gA_sI, gA_sI, e14]
  unfold f_X10_readSign f_X10_readSign_L196
  rw [if_neg (by decide), if_neg (by decide), if_neg (by decide), if_neg (by decide), if_neg (by decide), if_pos rfl, ey, ov_s]
  simp only [er, ob_s]
  rcases hc with z | z | z
  · rw [if_pos z, L, if_pos z, if_pos z]
    refine ⟨_, rfl, ⟨⟨hh, base, nm, b13, e12, e8, ?_, sIe, by omega, by omega, st, ?_⟩, ?_, ?_, ?_⟩, fun j hj => by rw [gA_sI, gA_sI, gA_sI, e14]⟩
    · rw [sIn (by decide), sIn (by decide), sIe]
    · rw [gA_sI, gA_sI, gA_sI]
      rw [sg_f (by rw [ers, z]; decide)] at eh
      exact eh
    · rw [sIn (by decide), sIe]
    · rw [sIn (by decide), sIn (by decide), sIn (by decide)]; exact e14U
    · refine hE.1 _ y _ ?_ ?_ (fun a => rfl) ev
      · rw [sIn (by decide), sIn (by decide), sIn (by decide)]
      · rw [sIn (by decide), sIn (by decide), sIn (by decide)]
  · rw [if_neg (by rw [z]; decide), if_pos z, L, if_neg (by rw [z]; decide), if_pos z, if_neg (by rw [z]; decide), if_pos z]
    exact wrk 60 (Or.inl rfl) (by rw [z]; decide)
  · rw [if_neg (by rw [z]; decide), if_neg (by rw [z]; decide), if_pos z, L, if_neg (by rw [z]; decide), if_neg (by rw [z]; decide), if_neg (by rw [z]; decide), if_neg (by rw [z]; decide)]
    exact wrk 62 (Or.inr rfl) (by rw [z]; decide)
/-- a fraction is pushed -/
theorem phX {d s a U : Nat} {T T2 : List Int32} {t m : Int64} (hn : n ≤ 80) (hq : QE t m) (hx : RX EVp v0 n 0 d s a U T w) (he : ∀ y : SS, f_X10_push t m w = some y → EVp T2 y) : ∃ y : SS, f_X10_push t m w = some y ∧ RX EVp v0 n 1 d s a (U + 1) T2 y ∧ gA y 14 = gA w 14 := by
  obtain ⟨⟨h, hw⟩, e10, e14, ev⟩ := hx
  obtain ⟨y, ey, hy⟩ := phM hn hw hq
  have ev2 := he y ey
  refine ⟨y, ey, ⟨⟨h + 1, hy⟩, ?_, ?_, ev2⟩, ?_⟩
  all_goals
    obtain ⟨m, nm, b13, e12, e8, e9, e11, hs, ha, st, eh⟩ := hw
    have sl := sg_le (gA w 14) s
    unfold f_X10_push at ey
    rw [e8, oi_nI (by decide) (show h < 100 by omega), lt_e, gI_tL, e8, oi_nI (by decide) (show h < 100 by omega), lt_e, gI_tL, gI_tL, e8, nI_1, lt_e, lt_e] at ey
    have ey := Option.some.inj ey
    subst ey
  · rw [sIn (by decide), sIn (by decide)]; exact e10
  · rw [sIe, sIn (by decide)]
    show gI w 14 + 1 = _
    rw [e14, nI_1]
  · rfl
/-- a bracket is opened -/
theorem opX {d s a U : Nat} {D : List Int32} {c : Int32} (hn : n ≤ 80) (hE : EOK EVp) (ha : a < n) (hc : isOp c = false) (hd : d < 6) (hx : RX EVp v0 n 0 d s a U D w) : ∃ z : SS, f_X10_open c w = some z ∧ RX EVp v0 n 0 (d + 1) (s + 1) (a + 1) U D z ∧ gA z 14 s = c ∧ ∀ j, j < s → gA z 14 j = gA w 14 j := by
  obtain ⟨⟨h, hw⟩, e10, e14, ev⟩ := hx
  have l1 : s ≤ a := hw.2.2.2.2.2.2.2.1
  have n6 : ¬ gI w 10 = 6 := by
    rw [e10]
    exact fun z => by have := (nI_eq (b := 6) (by omega) (by decide)).mp z; omega
  rw [eqOp hn hw n6, e10, nI_1]
  have hx2 : WX n 0 h s a v0 (sI w 10 (nI (d + 1))) := by
    obtain ⟨m, nm, b13, e12, e8, e9, e11, hs, ha, st, eh⟩ := hw
    exact ⟨PK_I (by unfold kPI; omega) m, nm, b13, e12, e8, e9, e11, hs, ha, st, eh⟩
  refine ⟨_, rfl, ⟨⟨h, put1 (q := c) hn ha hx2 (by rw [hc]; exact hx2.2.2.2.2.2.2.2.2.2.2)⟩, ?_, ?_, ?_⟩, ?_⟩
  · rw [sIn (by decide), sIn (by decide), gI_tA, sIe]
  · rw [sIn (by decide), sIn (by decide), gI_tA, sIn (by decide)]; exact e14
  · refine hE.1 _ w _ ?_ ?_ (fun a => rfl) ev
    · rw [sIn (by decide), sIn (by decide), gI_tA, sIn (by decide)]
    · rw [sIn (by decide), sIn (by decide), gI_tA, sIn (by decide)]
  · exact row_p (w := sI w 10 (nI (d + 1))) (s := s) (a := a) (c := c) (by omega)
theorem op6X {d s a U : Nat} {D : List Int32} (c : Int32) (hd : d = 6) (hx : RX EVp v0 n 0 d s a U D w) : ∃ z : SS, f_X10_open c w = some z ∧ Bd a z := by
  unfold f_X10_open
  have e : gI w 10 = 6 := by rw [hx.2.1, hd]; rfl
  rw [if_pos e, lt_e]
  exact ⟨_, rfl, sIe, by rw [sIn (by decide)]; exact (RX_o hx).2.2.2.1⟩
theorem RX_at {e d s a a2 U : Nat} {D : List Int32} (hE : EOK EVp) (h1 : a ≤ a2) (h2 : a2 ≤ n) (hx : RX EVp v0 n e d s a U D w) : RX EVp v0 n e d s a2 U D (sI w 11 (nI a2)) := by
  obtain ⟨⟨h, hw⟩, e10, e14, ev⟩ := hx
  refine ⟨⟨h, WX_at h1 h2 hw⟩, ?_, ?_, ?_⟩
  · rw [sIn (by decide)]; exact e10
  · rw [sIn (by decide)]; exact e14
  · exact hE.1 _ w _ (sIn (by decide)) (sIn (by decide)) (fun a => rfl) ev
end ST34
