section ST3513
variable {k n : Nat} {u v v0 w x y c : SS} {EVp : List Int32 → SS → Prop} {kS : Int32 → SS → Option SS}
/-! the two readers side by side: the class's over its tape, the reference's over row 12 -/
theorem byX13 {a : Nat} (hn : n ≤ 80) (hB : ∀ p, p < n → gA v0 12 p = gA u 14 p) (ha : a ≤ n) (m : PK v0 w) : f_X10_byteAt_13 (nI n) (nI a) w = some (chr (gA u 14) n a, w) := by
  unfold f_X10_byteAt_13
  by_cases c : a < n
  · rw [if_neg (nI_ge c (by omega)), oi_nI (by decide) (show a < 80 by omega), nI_clamp (by omega), m.2 12 (by unfold kPA; omega), hB a c, chr_t c]
  · rw [if_pos (nI_le (by omega) (by omega)), chr_f c]
theorem rmL13 {d s U : Nat} {T : List Int32} (hn : n ≤ 80) (hE : EOK EVp) (hB : ∀ p, p < n → gA v0 12 p = gA u 14 p) : ∀ (m F i a t : Nat) (w : SS), i + m = 6 → m < F → RX EVp v0 n 0 d s a U T w → ∃ y : SS, f_X10_readUnit_13_L136 F (nI n) (lN t) (nI i) w = f_X10_readUnit_13_L197 (lN (nr (gA u 14) n m a t).2) y ∧ RX EVp v0 n 0 d s (nr (gA u 14) n m a t).1 U T y ∧ gA y 14 = gA w 14 := by
  intro m
  induction m with
  | zero =>
    intro F i a t w h1 h2 h
    match F, h2 with
    | F + 1, _ =>
      show ∃ y, b_X10_readUnit_13_L136 (f_X10_readUnit_13_L136 F) (nI n) (lN t) (nI i) w = _ ∧ _
      have e : i = 6 := by omega
      subst e
      unfold b_X10_readUnit_13_L136
      rw [if_pos (show (6 : Int32) ≤ nI 6 by decide)]
      exact ⟨w, rfl, h, rfl⟩
  | succ m ih =>
    intro F i a t w h1 h2 h
    match F, h2 with
    | F + 1, h2 =>
      show ∃ y, b_X10_readUnit_13_L136 (f_X10_readUnit_13_L136 F) (nI n) (lN t) (nI i) w = _ ∧ _
      unfold b_X10_readUnit_13_L136
      obtain ⟨mk, -, -, e11, -, ha⟩ := RX_o h
      rw [if_neg (show ¬ (6 : Int32) ≤ nI i from nI_ge (b := 6) (by omega) (by decide)), e11, byX13 hn hB ha mk, ob_s]
      rcases dgM (chr (gA u 14) n a) w with ⟨q, e⟩ | ⟨q, e⟩
      · rw [e, ob_s, if_neg nz_1, e11, byX13 hn hB ha mk, ob_s, nr_d q]
        obtain ⟨d2, hd, ed⟩ := isD_e q
        rw [ed, dgv t d2 hd, lt_e, e11, nI_1 a, lt_e, nI_1 i, lt_e, dgN_e hd]
        have hl := isD_lt q
        obtain ⟨y, ey, hy, e14⟩ := ih F (i + 1) (a + 1) (10 * t + d2) (sI w 11 (nI (a + 1))) (by omega) (by omega) (RX_at hE (by omega) (by omega) h)
        exact ⟨y, ey, hy, e14⟩
      · rw [e, ob_s, if_pos rfl, nr_n q]
        exact ⟨w, rfl, h, rfl⟩
/-- the reference goes on from a to a2; or ends bad at p -/
def GB13 (n a : Nat) (b : Int32) (w : SS) (a2 : Nat) (b2 : Int32) (Q : SS → Prop) : Prop := ∀ (P : SS → Prop) (F : Nat), n + 2 ≤ F + a → (∀ (F2 : Nat) (y : SS), n + 2 ≤ F2 + a2 → Q y → TO P (f_X10_workText_13_L37 F2 (nI n) b2 y)) → TO P (f_X10_workText_13_L37 F (nI n) b w)
def FB13 (n a : Nat) (b : Int32) (w : SS) (p : Nat) : Prop := ∀ (P : SS → Prop) (F : Nat), n + 2 ≤ F + a → (∀ y : SS, Bd p y → P y) → TO P (f_X10_workText_13_L37 F (nI n) b w)
theorem GB_t13 {a a2 a3 : Nat} {b b2 b3 : Int32} {Q Q3 : SS → Prop} (h1 : GB13 n a b w a2 b2 Q) (h2 : ∀ y, Q y → GB13 n a2 b2 y a3 b3 Q3) : GB13 n a b w a3 b3 Q3 := fun P F hF hk => h1 P F hF (fun F2 y hF2 hy => h2 y hy P F2 hF2 hk)
theorem FB_t13 {a a2 p : Nat} {b b2 : Int32} {Q : SS → Prop} (h1 : GB13 n a b w a2 b2 Q) (h2 : ∀ y, Q y → FB13 n a2 b2 y p) : FB13 n a b w p := fun P F hF hk => h1 P F hF (fun F2 y hF2 hy => h2 y hy P F2 hF2 hk)
theorem GB_r13 {a : Nat} {b : Int32} {Q : SS → Prop} (h : Q w) : GB13 n a b w a b Q := fun _ F hF hk => hk F w hF h
theorem GB_w13 {a a2 : Nat} {b b2 : Int32} {Q Q2 : SS → Prop} (h1 : GB13 n a b w a2 b2 Q) (h2 : ∀ y, Q y → Q2 y) : GB13 n a b w a2 b2 Q2 := fun P F hF hk => h1 P F hF (fun F2 y hF2 hy => hk F2 y hF2 (h2 y hy))
theorem bdE13 {p F : Nat} {b : Int32} {P : SS → Prop} (hF : 1 ≤ F) (hb : Bd p w) (hk : P w) : TO P (f_X10_workText_13_L37 F (nI n) b w) := by
  match F, hF with
  | F + 1, _ =>
    show TO P (b_X10_workText_13_L37 (f_X10_workText_13_L37 F) (nI n) b w)
    unfold b_X10_workText_13_L37
    rw [hb.1, if_neg nz_1]
    unfold f_X10_workText_13_L83
    rw [hb.1, if_neg nz_1]
    exact to_s hk
theorem ru113 {a F : Nat} {r : Int32} {z : SS} (e12 : gI w 12 = 0) (hF : n + 2 ≤ F + a) (ha : a ≤ n) (h : f_X10_readUnit_13 (nI n) w = some (r, z)) : ∃ F2 : Nat, F = F2 + 1 ∧ f_X10_workText_13_L37 F (nI n) 1 w = f_X10_workText_13_L37 F2 (nI n) r z := by
  obtain ⟨F2, rfl⟩ : ∃ F2, F = F2 + 1 := ⟨F - 1, by omega⟩
  refine ⟨F2, rfl, ?_⟩
  show b_X10_workText_13_L37 (f_X10_workText_13_L37 F2) (nI n) 1 w = _
  unfold b_X10_workText_13_L37 f_X10_workText_13_L56 f_X10_workText_13_L79
  rw [e12, if_pos rfl, if_neg nz_1, if_neg nz_1, h, ob_s]
theorem GBu13 {a a2 : Nat} {r : Int32} {z : SS} {Q : SS → Prop} (e12 : gI w 12 = 0) (ha : a ≤ n) (h : f_X10_readUnit_13 (nI n) w = some (r, z)) (h2 : a < a2) (hQ : Q z) : GB13 n a 1 w a2 r Q := by
  intro P F hF hk
  obtain ⟨F2, rfl, e⟩ := ru113 e12 hF ha h
  rw [e]; exact hk F2 z (by omega) hQ
theorem FBu13 {a p : Nat} {r : Int32} {z : SS} (e12 : gI w 12 = 0) (ha : a ≤ n) (h : f_X10_readUnit_13 (nI n) w = some (r, z)) (hb : Bd p z) : FB13 n a 1 w p := by
  intro P F hF hk
  obtain ⟨F2, rfl, e⟩ := ru113 e12 hF ha h
  rw [e]; exact bdE13 (by omega) hb (hk z hb)
theorem rs113 {a F : Nat} {r : Int32} {z : SS} (hn : n ≤ 80) (hB : ∀ p, p < n → gA v0 12 p = gA u 14 p) (m : PK v0 w) (e12 : gI w 12 = 0) (e11 : gI w 11 = nI a) (hF : n + 2 ≤ F + a) (ha : a < n) (h : f_X10_readSign (chr (gA u 14) n a) w = some (r, z)) : ∃ F2 : Nat, F = F2 + 1 ∧ f_X10_workText_13_L37 F (nI n) 0 w = f_X10_workText_13_L37 F2 (nI n) r z := by
  obtain ⟨F2, rfl⟩ : ∃ F2, F = F2 + 1 := ⟨F - 1, by omega⟩
  refine ⟨F2, rfl, ?_⟩
  rw [chr_t ha, ← hB a ha, ← m.2 12 (by unfold kPA; omega)] at h
  show b_X10_workText_13_L37 (f_X10_workText_13_L37 F2) (nI n) 0 w = _
  unfold b_X10_workText_13_L37 f_X10_workText_13_L56 f_X10_workText_13_L79
  rw [e12, if_pos rfl, if_pos rfl, e11, if_neg (nI_ge ha (by omega)), if_pos rfl, oi_nI (by decide) (show a < 80 by omega), nI_clamp (by omega), h, ob_s]
theorem GBs13 {a a2 : Nat} {r : Int32} {z : SS} {Q : SS → Prop} (hn : n ≤ 80) (hB : ∀ p, p < n → gA v0 12 p = gA u 14 p) (m : PK v0 w) (e12 : gI w 12 = 0) (e11 : gI w 11 = nI a) (ha : a < n) (h : f_X10_readSign (chr (gA u 14) n a) w = some (r, z)) (h2 : a < a2) (hQ : Q z) : GB13 n a 0 w a2 r Q := by
  intro P F hF hk
  obtain ⟨F2, rfl, e⟩ := rs113 hn hB m e12 e11 hF ha h
  rw [e]; exact hk F2 z (by omega) hQ
theorem FBs13 {a p : Nat} {r : Int32} {z : SS} (hn : n ≤ 80) (hB : ∀ p, p < n → gA v0 12 p = gA u 14 p) (m : PK v0 w) (e12 : gI w 12 = 0) (e11 : gI w 11 = nI a) (ha : a < n) (h : f_X10_readSign (chr (gA u 14) n a) w = some (r, z)) (hb : Bd p z) : FB13 n a 0 w p := by
  intro P F hF hk
  obtain ⟨F2, rfl, e⟩ := rs113 hn hB m e12 e11 hF ha h
  rw [e]; exact bdE13 (by omega) hb (hk z hb)
/-- something lacks at the end, or a sign can't stand: bad there -/
theorem FBx13 {d s a U : Nat} {D : List Int32} (hn : n ≤ 80) (hE : EOK EVp) (hB : ∀ p, p < n → gA v0 12 p = gA u 14 p) (h : RP EVp oB v0 n d (s + 1) a U D w) (hs : ¬ oB (gA w 14 s)) (hc : ¬ oB (chr (gA u 14) n a)) (h41 : chr (gA u 14) n a = 41 → ¬ (gA w 14 s = 40 ∨ gA w 14 s = 1 ∨ gA w 14 s = 2)) (h44 : chr (gA u 14) n a = 44 → ¬ (gA w 14 s = 60 ∨ gA w 14 s = 62)) : FB13 n a 0 w a := by
  obtain ⟨m, e12, e11, -, ha⟩ := RP_o h
  have es : s + 1 - 1 = s := by omega
  by_cases c : a < n
  · obtain ⟨r, z, ez, hz⟩ := rsXb hn hE h (Or.inr (by rw [es]; exact hs)) hc (fun q => Or.inr (by rw [es]; exact h41 q)) (fun q => Or.inr (by rw [es]; exact h44 q))
    exact FBs13 hn hB m e12 e11 c ez hz
  · intro P F hF hk
    obtain ⟨F2, rfl⟩ : ∃ F2, F = F2 + 1 := ⟨F - 1, by omega⟩
    show TO P (b_X10_workText_13_L37 (f_X10_workText_13_L37 F2) (nI n) 0 w)
    unfold b_X10_workText_13_L37
    rw [e12, if_pos rfl, if_pos rfl, e11, if_pos (nI_le (by omega) (by omega))]
    unfold f_X10_workText_13_L83
    obtain ⟨y, ey, hy, -⟩ := se1 hn hE h (Or.inr (by rw [es]; exact hs))
    obtain ⟨-, -, y9, y11, ys, -⟩ := RX_o hy
    rw [e12, if_pos rfl, ey, ov_s, y9, if_neg (show ¬ nI (s + 1) ≤ (0 : Int32) from nI_ge (a := 0) (by omega) (by omega)), lt_e]
    exact to_s (hk _ ⟨sIe, by rw [sIn (by decide)]; exact y11⟩)
/-- what the recursion gives: a sum -/
def SPX13 (EVp : List Int32 → SS → Prop) (u v0 : SS) (n d : Nat) (kS : Int32 → SS → Option SS) : Prop := ∀ (a U q : Nat) (D : List Int32) (c : SS), CLr u n a U D c → D.length + q ≤ a → ∃ c2 : SS, kS (nI d) c = some c2 ∧ ((∃ p : Nat, CFr u n p c2 ∧ ∀ (s : Nat) (w : SS), RX EVp v0 n 0 d s a U D w → (s = 0 ∨ ¬ oB (gA w 14 (s - 1))) → FB13 n a 1 w p) ∨ (∃ (a2 U2 : Nat) (D2 : List Int32), CLr u n a2 U2 D2 c2 ∧ a < a2 ∧ D2.length + q ≤ a2 ∧ ¬ oB (chr (gA u 14) n a2) ∧ ∀ (s : Nat) (w : SS), RX EVp v0 n 0 d s a U D w → (s = 0 ∨ ¬ oB (gA w 14 (s - 1))) → GB13 n a 1 w a2 0 (fun y => RP EVp oB v0 n d s a2 U2 D2 y ∧ ∀ j, j < s → gA y 14 j = gA w 14 j)))
theorem n4013 : ¬ oB 40 := by
  intro z
  rcases z with z | z | z | z <;> exact absurd z (by decide)
theorem n6013 {q : Int32} (h : q = 60 ∨ q = 62 ∨ q = 1 ∨ q = 2) : ¬ oB q := by
  intro z
  rcases h with h | h | h | h <;> rw [h] at z <;> rcases z with z | z | z | z <;> exact absurd z (by decide)
theorem ne_lt13 {f : Nat → Int32} {a : Nat} {q : Int32} (h : chr f n a = q) (hq : ¬ (-1 : Int32) = q) : a < n := by
  rcases Nat.lt_or_ge a n with z | z
  · exact z
  · rw [chr_f (by omega)] at h; exact absurd h hq
/-- what reading a unit comes to -/
def UO13 (EVp : List Int32 → SS → Prop) (u v0 : SS) (n d a U q : Nat) (D : List Int32) (o : Option SS) : Prop := ∃ c2 : SS, o = some c2 ∧ ((∃ p : Nat, CFr u n p c2 ∧ ∀ (s : Nat) (w : SS), RX EVp v0 n 0 d s a U D w → FB13 n a 1 w p) ∨ (∃ (a2 U2 : Nat) (D2 : List Int32), CLr u n a2 U2 D2 c2 ∧ a < a2 ∧ D2.length + q ≤ a2 ∧ ∀ (s : Nat) (w : SS), RX EVp v0 n 0 d s a U D w → GB13 n a 1 w a2 0 (fun y => RX EVp v0 n 1 d s a2 U2 D2 y ∧ ∀ j, j < s → gA y 14 j = gA w 14 j)))
/-- brackets -/
theorem brX13 {a U q d : Nat} {D : List Int32} (hn : n ≤ 80) (hE : EOK EVp) (hB : ∀ p, p < n → gA v0 12 p = gA u 14 p) (hd : d ≤ 6) (hS : d < 6 → SPX13 EVp u v0 n (d + 1) kS) (hc : CLr u n a U D c) (hq : D.length + q ≤ a) (hch : chr (gA u 14) n a = 40) : UO13 EVp u v0 n d a U q D (f_X2_readBracket kS (nI d) 0 c) := by
  have ha := ne_lt13 hch (by decide)
  have rU : ∀ (s : Nat) (w : SS), RX EVp v0 n 0 d s a U D w → f_X10_readUnit_13 (nI n) w = (ov (f_X10_open (40 : Int32) w) fun u42 => some ((1 : Int32), u42)) := by
    intro s w hx
    obtain ⟨m, e12, -, e11, -, -⟩ := RX_o hx
    unfold f_X10_readUnit_13
    rw [e11, byX13 hn hB (by omega) m, ob_s, hch, if_neg (by decide), if_neg (by decide), if_pos rfl]
  unfold f_X2_readBracket f_X2_readBracket_L15 f_X2_readBracket_L62
  rw [pkE hn hc, ob_s, if_pos hch]
  by_cases d6 : d < 6
  · rw [if_pos (show nI d < (6 : Int32) from nI_lt (b := 6) d6 (by decide)), lt_e, nI_1 d]
    have G1 : ∀ (s : Nat) (w : SS), RX EVp v0 n 0 d s a U D w → ∃ z : SS, RX EVp v0 n 0 (d + 1) (s + 1) (a + 1) U D z ∧ gA z 14 s = 40 ∧ (∀ j, j < s → gA z 14 j = gA w 14 j) ∧ GB13 n a 1 w (a + 1) 1 (fun y => y = z) := by
      intro s w hx
      obtain ⟨z, ez, hz, r1, r2⟩ := opX (c := 40) hn hE ha (by decide) d6 hx
      have rU := rU s w hx
      rw [ez, ov_s] at rU
      exact ⟨z, hz, r1, r2, GBu13 (RX_o hx).2.1 (by omega) rU (by omega) rfl⟩
    obtain ⟨c3, e3, h3⟩ := hS d6 (a + 1) U q D _ (adE ha hc) (by omega)
    have bs : ∀ {s : Nat} {z : SS}, gA z 14 s = 40 → (s + 1 = 0 ∨ ¬ oB (gA z 14 (s + 1 - 1))) := fun {s z} r1 => Or.inr (by rw [show s + 1 - 1 = s by omega, r1]; exact n4013)
    rw [e3, ov_s, if_pos rfl]
    rcases h3 with ⟨p, hp, fb⟩ | ⟨a2, U2, D2, hc3, h12, hq2, hno, gb⟩
    · rw [exF hn _ hp, ov_s]
      refine ⟨c3, rfl, Or.inl ⟨p, hp, fun s w hx => ?_⟩⟩
      obtain ⟨z, hz, r1, r2, g1⟩ := G1 s w hx
      exact FB_t13 g1 (fun y hy => by rw [hy]; exact fb (s + 1) z hz (bs r1))
    rcases exE hn (c := 41) (by decide) hc3 with ⟨e41, l2, c4, e4, hc4⟩ | ⟨n41, c4, e4, hc4⟩
    · rw [e4, ov_s]
      refine ⟨c4, rfl, Or.inr ⟨a2 + 1, U2, D2, hc4, by omega, by omega, fun s w hx => ?_⟩⟩
      obtain ⟨z, hz, r1, r2, g1⟩ := G1 s w hx
      refine GB_t13 (GB_t13 g1 (fun y hy => by rw [hy]; exact gb (s + 1) z hz (bs r1))) (fun y hy => ?_)
      obtain ⟨hy, ry⟩ := hy
      obtain ⟨my, y12, y11, -, -⟩ := RP_o hy
      obtain ⟨z2, ez2, hz2, rz2⟩ := rsP1 hn hE l2 (Or.inl rfl) ((ry s (by omega)).trans r1) hy
      rw [if_pos rfl] at hz2
      rw [← e41] at ez2
      exact GBs13 hn hB my y12 y11 l2 ez2 (by omega) ⟨hz2, fun j hj => (rz2 j hj).trans ((ry j (by omega)).trans (r2 j hj))⟩
    · rw [e4, ov_s]
      refine ⟨c4, rfl, Or.inl ⟨a2, hc4, fun s w hx => ?_⟩⟩
      obtain ⟨z, hz, r1, r2, g1⟩ := G1 s w hx
      refine FB_t13 (GB_t13 g1 (fun y hy => by rw [hy]; exact gb (s + 1) z hz (bs r1))) (fun y hy => ?_)
      obtain ⟨hy, ry⟩ := hy
      have ty := (ry s (by omega)).trans r1
      exact FBx13 hn hE hB hy (by rw [ty]; exact n4013) hno (fun z => absurd z n41) (fun _ => by rw [ty]; decide)
  · rw [if_neg (show ¬ nI d < (6 : Int32) from nI_nlt (b := 6) (by omega) (by omega))]
    obtain ⟨c3, e3, h3⟩ := ffE hc
    rw [e3, ov_s]
    refine ⟨c3, rfl, Or.inl ⟨a, h3, fun s w hx => ?_⟩⟩
    obtain ⟨z, ez, hz⟩ := op6X 40 (show d = 6 by omega) hx
    have rU := rU s w hx
    rw [ez, ov_s] at rU
    exact FBu13 (RX_o hx).2.1 (by omega) rU hz
/-- the less, the greater -/
theorem prX13 {a U q d : Nat} {D : List Int32} {g : Int32} (hn : n ≤ 80) (hE : EOK EVp) (hB : ∀ p, p < n → gA v0 12 p = gA u 14 p) (hd : d ≤ 6) (hS : d < 6 → SPX13 EVp u v0 n (d + 1) kS) (hg : g = 60 ∨ g = 62) (hch : chr (gA u 14) n a = g) (hc : CLr u n (a + 1) U D c) (hq : D.length + q ≤ a) : ∃ c2 : SS, f_X2_readBracket kS (nI d) 1 c = some c2 ∧ ((∃ p : Nat, CFr u n p c2 ∧ ∀ (s : Nat) (w : SS), RX EVp v0 n 0 d s a U D w → FB13 n a 1 w p) ∨ (∃ (a2 U2 : Nat) (D2 : List Int32), CLr u n a2 U2 D2 c2 ∧ a < a2 ∧ D2.length + 1 + q ≤ a2 ∧ ∀ (s : Nat) (w : SS), RX EVp v0 n 0 d s a U D w → GB13 n a 1 w a2 0 (fun y => RX EVp v0 n 1 d s a2 U2 (D2 ++ [-g]) y ∧ ∀ j, j < s → gA y 14 j = gA w 14 j))) := by
  have ha := ne_lt13 hch (by rcases hg with z | z <;> rw [z] <;> decide)
  have rU : ∀ (s : Nat) (w : SS), RX EVp v0 n 0 d s a U D w → f_X10_readUnit_13 (nI n) w = (if chr (gA u 14) n (a + 1) = (40 : Int32) then (ov (f_X10_open g (sI w 11 (nI (a + 1)))) fun u10 => some ((1 : Int32), u10)) else (lt (sI (sI w 11 (nI (a + 1))) 12 (1 : Int32)) fun u8 => some ((1 : Int32), u8))) := by
    intro s w hx
    obtain ⟨m, e12, -, e11, -, -⟩ := RX_o hx
    have hx1 := RX_at (a2 := a + 1) hE (by omega) (by omega) hx
    have e : f_X10_readUnit_13 (nI n) w = f_X10_readUnit_13_L22 (nI n) g w := by
      unfold f_X10_readUnit_13
      rw [e11, byX13 hn hB (by omega) m, ob_s, hch]
      rcases hg with z | z
      · rw [if_pos z]
      · rw [if_neg (by rw [z]; decide), if_pos z]
    rw [e]
    unfold f_X10_readUnit_13_L22
    rw [e11, nI_1 a, lt_e, sIe, byX13 hn hB (show a + 1 ≤ n by omega) (RX_o hx1).1, ob_s]
  unfold f_X2_readBracket f_X2_readBracket_L15 f_X2_readBracket_L62
  rw [pkE hn hc, ob_s]
  have ng : isOp g = false := by rcases hg with z | z <;> rw [z] <;> decide
  by_cases c40 : chr (gA u 14) n (a + 1) = 40
  rotate_left
  · rw [if_neg c40]
    obtain ⟨c3, e3, h3⟩ := ffE hc
    rw [e3, ov_s]
    refine ⟨c3, rfl, Or.inl ⟨a + 1, h3, fun s w hx => ?_⟩⟩
    have rU := rU s w hx
    rw [if_neg c40, lt_e] at rU
    exact FBu13 (RX_o hx).2.1 (by omega) rU ⟨sIe, by rw [sIn (by decide)]; exact sIe⟩
  rw [if_pos c40]
  have ha1 := ne_lt13 c40 (by decide)
  by_cases d6 : d < 6
  rotate_left
  · rw [if_neg (show ¬ nI d < (6 : Int32) from nI_nlt (b := 6) (by omega) (by omega))]
    obtain ⟨c3, e3, h3⟩ := ffE hc
    rw [e3, ov_s]
    refine ⟨c3, rfl, Or.inl ⟨a + 1, h3, fun s w hx => ?_⟩⟩
    have rU := rU s w hx
    obtain ⟨z, ez, hz⟩ := op6X g (show d = 6 by omega) (RX_at (a2 := a + 1) hE (by omega) (by omega) hx)
    rw [if_pos c40, ez, ov_s] at rU
    exact FBu13 (RX_o hx).2.1 (by omega) rU hz
  rw [if_pos (show nI d < (6 : Int32) from nI_lt (b := 6) d6 (by decide)), lt_e, nI_1 d]
  have G1 : ∀ (s : Nat) (w : SS), RX EVp v0 n 0 d s a U D w → ∃ z : SS, RX EVp v0 n 0 (d + 1) (s + 1) (a + 1 + 1) U D z ∧ gA z 14 s = g ∧ (∀ j, j < s → gA z 14 j = gA w 14 j) ∧ GB13 n a 1 w (a + 1 + 1) 1 (fun y => y = z) := by
    intro s w hx
    obtain ⟨z, ez, hz, r1, r2⟩ := opX hn hE ha1 ng d6 (RX_at (a2 := a + 1) hE (by omega) (by omega) hx)
    have rU := rU s w hx
    rw [if_pos c40, ez, ov_s] at rU
    exact ⟨z, hz, r1, r2, GBu13 (RX_o hx).2.1 (by omega) rU (by omega) rfl⟩
  have ngB : ¬ oB g := n6013 (hg.elim Or.inl (fun z => Or.inr (Or.inl z)))
  have bs : ∀ {s : Nat} {z : SS} {t : Int32}, ¬ oB t → gA z 14 s = t → (s + 1 = 0 ∨ ¬ oB (gA z 14 (s + 1 - 1))) := fun {s z t} ht r1 => Or.inr (by rw [show s + 1 - 1 = s by omega, r1]; exact ht)
  obtain ⟨c3, e3, h3⟩ := hS d6 (a + 1 + 1) U (q + 1) D _ (adE ha1 hc) (by omega)
  rw [e3, ov_s, if_neg nz_1]
  rcases h3 with ⟨p, hp, fb⟩ | ⟨a2, U2, D2, hc3, h12, hq2, hno, gb⟩
  · rw [exF hn _ hp, ov_s, if_neg (CFr_ne hn hp), exF hn _ hp, ov_s]
    refine ⟨c3, rfl, Or.inl ⟨p, hp, fun s w hx => ?_⟩⟩
    obtain ⟨z, hz, r1, r2, g1⟩ := G1 s w hx
    exact FB_t13 g1 (fun y hy => by rw [hy]; exact fb (s + 1) z hz (bs ngB r1))
  have G2 : ∀ (s : Nat) (w : SS), RX EVp v0 n 0 d s a U D w → GB13 n a 1 w a2 0 (fun y => RP EVp oB v0 n (d + 1) (s + 1) a2 U2 D2 y ∧ gA y 14 s = g ∧ ∀ j, j < s → gA y 14 j = gA w 14 j) := by
    intro s w hx
    obtain ⟨z, hz, r1, r2, g1⟩ := G1 s w hx
    refine GB_t13 g1 (fun y hy => ?_)
    rw [hy]
    exact GB_w13 (gb (s + 1) z hz (bs ngB r1)) (fun y2 h2 => ⟨h2.1, (h2.2 s (by omega)).trans r1, fun j hj => (h2.2 j (by omega)).trans (r2 j hj)⟩)
  rcases exE hn (c := 44) (by decide) hc3 with ⟨e44, l2, c4, e4, hc4⟩ | ⟨n44, c4, e4, hc4⟩
  rotate_left
  · rw [e4, ov_s, if_neg (CFr_ne hn hc4), exF hn _ hc4, ov_s]
    refine ⟨c4, rfl, Or.inl ⟨a2, hc4, fun s w hx => FB_t13 (G2 s w hx) (fun y hy => ?_)⟩⟩
    obtain ⟨hy, ty, ry⟩ := hy
    exact FBx13 hn hE hB hy (by rw [ty]; exact ngB) hno (fun _ => by rw [ty]; rcases hg with z | z <;> rw [z] <;> decide) (fun z => absurd z n44)
  rw [e4, ov_s, if_pos hc4.2.2.2.2.1]
  have t12 : ¬ oB (if g = 60 then (1 : Int32) else 2) := by
    rcases hg with z | z
    · rw [if_pos z]; exact n6013 (Or.inr (Or.inr (Or.inl rfl)))
    · rw [if_neg (by rw [z]; decide)]; exact n6013 (Or.inr (Or.inr (Or.inr rfl)))
  have G3 : ∀ (s : Nat) (w : SS), RX EVp v0 n 0 d s a U D w → GB13 n a 1 w (a2 + 1) 1 (fun z => RX EVp v0 n 0 (d + 1) (s + 1) (a2 + 1) U2 D2 z ∧ gA z 14 s = (if g = 60 then 1 else 2) ∧ ∀ j, j < s → gA z 14 j = gA w 14 j) := by
    intro s w hx
    refine GB_t13 (G2 s w hx) (fun y hy => ?_)
    obtain ⟨hy, ty, ry⟩ := hy
    obtain ⟨my, y12, y11, -, -⟩ := RP_o hy
    obtain ⟨z3, ez3, hz3, t1, t2⟩ := rsC1 hn hE l2 hg ty hy
    rw [← e44] at ez3
    exact GBs13 hn hB my y12 y11 l2 ez3 (by omega) ⟨hz3, t1, fun j hj => (t2 j hj).trans (ry j hj)⟩
  obtain ⟨c5, e5, h5⟩ := hS d6 (a2 + 1) U2 (q + 1) D2 _ hc4 (by omega)
  rw [e5, ov_s]
  rcases h5 with ⟨p, hp, fb⟩ | ⟨a3, U3, D3, hc5, h23, hq3, hno3, gb3⟩
  · rw [exF hn _ hp, ov_s]
    exact ⟨c5, rfl, Or.inl ⟨p, hp, fun s w hx => FB_t13 (G3 s w hx) (fun y hy => fb (s + 1) y hy.1 (bs t12 hy.2.1))⟩⟩
  have G5 : ∀ (s : Nat) (w : SS), RX EVp v0 n 0 d s a U D w → GB13 n a 1 w a3 0 (fun y => RP EVp oB v0 n (d + 1) (s + 1) a3 U3 D3 y ∧ gA y 14 s = (if g = 60 then 1 else 2) ∧ ∀ j, j < s → gA y 14 j = gA w 14 j) := by
    intro s w hx
    refine GB_t13 (G3 s w hx) (fun y hy => ?_)
    exact GB_w13 (gb3 (s + 1) y hy.1 (bs t12 hy.2.1)) (fun y2 h2 => ⟨h2.1, (h2.2 s (by omega)).trans hy.2.1, fun j hj => (h2.2 j (by omega)).trans (hy.2.2 j hj)⟩)
  rcases exE hn (c := 41) (by decide) hc5 with ⟨e41, l3, c6, e6, hc6⟩ | ⟨n41, c6, e6, hc6⟩
  · rw [e6, ov_s]
    refine ⟨c6, rfl, Or.inr ⟨a3 + 1, U3, D3, hc6, by omega, by omega, fun s w hx => GB_t13 (G5 s w hx) (fun y hy => ?_)⟩⟩
    obtain ⟨hy, ty, ry⟩ := hy
    obtain ⟨my, y12, y11, -, -⟩ := RP_o hy
    have c12 : (if g = 60 then (1 : Int32) else 2) = 40 ∨ (if g = 60 then (1 : Int32) else 2) = 1 ∨ (if g = 60 then (1 : Int32) else 2) = 2 := by
      rcases hg with q | q
      · rw [if_pos q]; exact Or.inr (Or.inl rfl)
      · rw [if_neg (by rw [q]; decide)]; exact Or.inr (Or.inr rfl)
    obtain ⟨z4, ez4, hz4, rz4⟩ := rsP1 hn hE l3 c12 ty hy
    rw [← e41] at ez4
    have hz5 : RX EVp v0 n 1 d s (a3 + 1) U3 (D3 ++ [-g]) z4 := by
      rcases hg with q | q
      · subst q; exact hz4
      · subst q; exact hz4
    exact GBs13 hn hB my y12 y11 l3 ez4 (by omega) ⟨hz5, fun j hj => (rz4 j hj).trans (ry j hj)⟩
  · rw [e6, ov_s]
    refine ⟨c6, rfl, Or.inl ⟨a3, hc6, fun s w hx => FB_t13 (G5 s w hx) (fun y hy => ?_)⟩⟩
    obtain ⟨hy, ty, ry⟩ := hy
    exact FBx13 hn hE hB hy (by rw [ty]; exact t12) hno3 (fun z => absurd z n41) (fun _ => by rw [ty]; rcases hg with q | q <;> rw [q] <;> decide)
/-- a unit -/
theorem unX13 {a U q d : Nat} {D : List Int32} (hn : n ≤ 80) (hE : EOK EVp) (hB : ∀ p, p < n → gA v0 12 p = gA u 14 p) (hd : d ≤ 6) (hS : d < 6 → SPX13 EVp u v0 n (d + 1) kS) (hc : CLr u n a U D c) (hq : D.length + q ≤ a) : UO13 EVp u v0 n d a U q D (f_X2_readUnit kS (nI d) c) := by
  have an : a ≤ n := hc.2.2.1
  unfold f_X2_readUnit f_X2_readUnit_L82
  rw [pkE hn hc, ob_s]
  rcases dgE (chr (gA u 14) n a) c with ⟨hD, e⟩ | ⟨hD, e⟩
  · rw [e, ob_s, if_neg nz_1]
    obtain ⟨c2, e2, h2⟩ := rnE (D := D) hn hD (by omega) hc
    obtain ⟨b1, b2, b3⟩ := nr_1 hD
    rw [e2, ov_s]
    refine ⟨c2, rfl, Or.inr ⟨_, _, _, h2, b1, by rw [List.length_append]; show D.length + 1 + q ≤ _; omega, fun s w hx => ?_⟩⟩
    obtain ⟨m, e12, -, e11, -, -⟩ := RX_o hx
    have c60 : ¬ chr (gA u 14) n a = 60 := fun z => by rw [z] at hD; exact absurd hD.2 (by decide)
    have c62 : ¬ chr (gA u 14) n a = 62 := fun z => by rw [z] at hD; exact absurd hD.2 (by decide)
    have c40 : ¬ chr (gA u 14) n a = 40 := fun z => by rw [z] at hD; exact absurd hD.1 (by decide)
    obtain ⟨y, ey, hy, y14⟩ := rmL13 (u := u) (T := D) hn hE hB 6 FU 0 a 0 w rfl (Nat.lt_trans (by decide) FU_ge) hx
    have qe := QE_i (z := ((nr (gA u 14) n 6 a 0).2 : Int)) (m := 1) (by omega) (by omega) (by decide) (by decide)
    rw [iL_n] at qe
    obtain ⟨z, ez, hz, z14⟩ := phX (T2 := D ++ [nI (nr (gA u 14) n 6 a 0).2]) hn qe hy (fun y2 e2 => hE.2.1 D y y2 _ b3 hy.2.2.2 e2)
    have rU : f_X10_readUnit_13 (nI n) w = some (0, z) := by
      unfold f_X10_readUnit_13
      rw [e11, byX13 hn hB an m, ob_s, if_neg c60, if_neg c62, if_neg c40]
      rcases nmE (chr (gA u 14) n a) w w with ⟨r, -, -, -, -, nd, -⟩ | ⟨eN, -⟩
      · exact absurd hD nd
      rw [eN, ob_s, if_pos lt_m1]
      rcases dgM (chr (gA u 14) n a) w with ⟨-, e4⟩ | ⟨nd, -⟩
      · rw [e4, ob_s, if_neg nz_1]
        show f_X10_readUnit_13_L136 FU (nI n) (lN 0) (nI 0) w = _
        rw [ey]
        unfold f_X10_readUnit_13_L197
        have ez : f_X10_push (lN (nr (gA u 14) n 6 a 0).2) (1 : Int64) y = some z := ez
        rw [ez, ov_s]
      · exact absurd hD nd
    exact GBu13 e12 an rU b1 ⟨hz, fun j hj => by rw [z14, y14]⟩
  rw [e, ob_s, if_pos rfl]
  rcases nmE (chr (gA u 14) n a) v0 c with ⟨r, hr, -, eC, n1, nd, c40, c60, c62⟩ | ⟨-, eC⟩
  · rw [eC, ob_s, if_neg nz_1]
    have ha : a < n := by
      rcases Nat.lt_or_ge a n with z | z
      · exact z
      · exact absurd (chr_f (by omega)) n1
    rw [lt_e, lt_e]
    have h7 : CLr u n (a + 1) (U + 1) D (sI (sI c 8 (gI c 8 + 1)) 7 (gI (sI c 8 (gI c 8 + 1)) 7 + 1)) := by
      obtain ⟨f, e5, ha, e8, e9, e7, hD, e6, hd⟩ := adE ha hc
      refine ⟨FrB_I (by unfold kBI; omega) f, ?_, ha, ?_, ?_, ?_, hD, ?_, hd⟩
      · rw [sIn (by decide)]; exact e5
      · rw [sIn (by decide)]; exact e8
      · rw [sIn (by decide)]; exact e9
      · rw [sIe, e7, nI_1]
      · rw [sIn (by decide)]; exact e6
    obtain ⟨c2, e2, h2⟩ := emE (-(chr (gA u 14) n a)) (by omega) h7
    rw [e2, ov_s]
    refine ⟨c2, rfl, Or.inr ⟨_, _, _, h2, by omega, by rw [List.length_append]; show D.length + 1 + q ≤ _; omega, fun s w hx => ?_⟩⟩
    obtain ⟨m, e12, -, e11, -, -⟩ := RX_o hx
    rcases nmE (chr (gA u 14) n a) w c with ⟨r, hr, eN, -⟩ | ⟨-, eC2⟩
    rotate_left
    · rw [eC] at eC2
      exact absurd (Prod.mk.inj (Option.some.inj eC2)).1 nz_1
    have nm : NMI w := by
      obtain ⟨⟨h, hw⟩, -⟩ := hx
      exact hw.2.1
    obtain ⟨z, ez, hz, z14⟩ := phX (T2 := D ++ [-(chr (gA u 14) n a)]) hn (nm r hr) hx (fun y2 e2 => hE.2.2.1 D w y2 _ r hr eN nm hx.2.2.2 e2)
    have rU : f_X10_readUnit_13 (nI n) w = some (0, sI z 11 (nI (a + 1))) := by
      unfold f_X10_readUnit_13
      rw [e11, byX13 hn hB an m, ob_s, if_neg c60, if_neg c62, if_neg c40, eN, ob_s, if_neg (nI_pos (by omega)), eN, ob_s, oi_nI (by decide) hr, eN, ob_s, oi_nI (by decide) hr, nI_clamp (by omega), ez, ov_s, (RX_o hz).2.2.2.1, nI_1, lt_e]
    exact GBu13 e12 an rU (by omega) ⟨RX_at hE (by omega) (by omega) hz, fun j hj => by rw [gA_sI, z14]⟩
  rw [eC, ob_s, if_pos rfl]
  by_cases c40 : chr (gA u 14) n a = 40
  · rw [if_pos c40]
    obtain ⟨c2, e2, h2⟩ := brX13 (q := q) hn hE hB hd hS hc hq c40
    rw [e2, ov_s]
    exact ⟨c2, rfl, h2⟩
  rw [if_neg c40]
  have L : ∀ g : Int32, (g = 60 ∨ g = 62) → chr (gA u 14) n a = g → UO13 EVp u v0 n d a U q D (lt (sI c 8 ((gI c 8) + (1 : Int32))) fun u10 => ov (f_X2_readBracket kS (nI d) (1 : Int32) u10) fun u12 => ov (f_X2_emit (-(chr (gA u 14) n a)) u12) fun u14 => some u14) := by
    intro g hg hch
    have ha := ne_lt13 hch (by rcases hg with z | z <;> rw [z] <;> decide)
    rw [lt_e]
    obtain ⟨c2, e2, h2⟩ := prX13 (q := q) hn hE hB hd hS hg hch (adE ha hc) hq
    rw [e2, ov_s]
    rcases h2 with ⟨p, hp, fb⟩ | ⟨a2, U2, D2, hc2, h12, hq2, gb⟩
    · obtain ⟨c3, e3, h3⟩ := emF (-(chr (gA u 14) n a)) hp
      rw [e3, ov_s]
      exact ⟨c3, rfl, Or.inl ⟨p, h3, fb⟩⟩
    · obtain ⟨c3, e3, h3⟩ := emE (-(chr (gA u 14) n a)) (by have := hc2.2.2.1; omega) hc2
      rw [e3, ov_s]
      rw [hch] at h3
      exact ⟨c3, rfl, Or.inr ⟨a2, U2, _, h3, h12, by rw [List.length_append]; exact hq2, gb⟩⟩
  by_cases c60 : chr (gA u 14) n a = 60
  · rw [if_pos c60]; exact L 60 (Or.inl rfl) c60
  rw [if_neg c60]
  by_cases c62 : chr (gA u 14) n a = 62
  · rw [if_pos c62]; exact L 62 (Or.inr rfl) c62
  rw [if_neg c62]
  obtain ⟨c2, e2, h2⟩ := ffE hc
  rw [e2, ov_s]
  refine ⟨c2, rfl, Or.inl ⟨a, h2, fun s w hx => ?_⟩⟩
  obtain ⟨m, e12, -, e11, -, -⟩ := RX_o hx
  have rU : f_X10_readUnit_13 (nI n) w = some (1, sI w 12 1) := by
    unfold f_X10_readUnit_13
    rw [e11, byX13 hn hB an m, ob_s, if_neg c60, if_neg c62, if_neg c40]
    rcases nmE (chr (gA u 14) n a) w c with ⟨r, -, -, eC2, -⟩ | ⟨eN, -⟩
    · rw [eC] at eC2
      exact absurd (Prod.mk.inj (Option.some.inj eC2)).1 (by decide)
    rw [eN, ob_s, if_pos lt_m1]
    rcases dgM (chr (gA u 14) n a) w with ⟨q, -⟩ | ⟨-, e4⟩
    · exact absurd q hD
    rw [e4, ob_s, if_pos rfl, lt_e]
  exact FBu13 e12 an rU ⟨sIe, by rw [sIn (by decide)]; exact e11⟩
/-- a term's further units -/
theorem teL13 {q d : Nat} (hn : n ≤ 80) (hE : EOK EVp) (hB : ∀ p, p < n → gA v0 12 p = gA u 14 p) (hd : d ≤ 6) (hS : d < 6 → SPX13 EVp u v0 n (d + 1) kS) : ∀ (m i F a U : Nat) (D : List Int32) (c : SS), n ≤ a + m → i ≤ a → i ≤ 80 → 80 < F + i → CLr u n a U D c → D.length + q ≤ a → ∃ c2 : SS, f_X2_readTerm_L7 kS F (nI d) (nI i) c = some c2 ∧ ((∃ p : Nat, CFr u n p c2 ∧ ∀ (s : Nat) (w : SS), RP EVp oA v0 n d s a U D w → (s = 0 ∨ ¬ oA (gA w 14 (s - 1))) → FB13 n a 0 w p) ∨ (∃ (a2 U2 : Nat) (D2 : List Int32), CLr u n a2 U2 D2 c2 ∧ a ≤ a2 ∧ D2.length + q ≤ a2 ∧ ¬ oA (chr (gA u 14) n a2) ∧ ∀ (s : Nat) (w : SS), RP EVp oA v0 n d s a U D w → (s = 0 ∨ ¬ oA (gA w 14 (s - 1))) → GB13 n a 0 w a2 0 (fun y => RP EVp oA v0 n d s a2 U2 D2 y ∧ ∀ j, j < s → gA y 14 j = gA w 14 j))) := by
  intro m
  induction m with
  | zero =>
    intro i F a U D c h1 h2 h3 h4 hc hq
    have an := hc.2.2.1
    have e1 : chr (gA u 14) n a = -1 := chr_f (by omega)
    have no : ¬ oA (chr (gA u 14) n a) := by
      rw [e1]; intro z
      rcases z with z | z <;> exact absurd z (by decide)
    have st : f_X2_readTerm_L7 kS F (nI d) (nI i) c = some c := by
      obtain ⟨F2, rfl⟩ : ∃ F2, F = F2 + 1 := ⟨F - 1, by omega⟩
      show b_X2_readTerm_L7 kS (f_X2_readTerm_L7 kS F2) (nI d) (nI i) c = _
      unfold b_X2_readTerm_L7
      by_cases c8 : (80 : Int32) ≤ nI i
      · rw [if_pos c8]
      · rw [if_neg c8, if_pos hc.2.2.2.2.1, pkE hn hc, ob_s, if_neg (fun z => no (Or.inl z)), if_neg (fun z => no (Or.inr z))]
    exact ⟨c, st, Or.inr ⟨a, U, D, hc, Nat.le_refl _, hq, no, fun s w hx _ => GB_r13 ⟨hx, fun _ _ => rfl⟩⟩⟩
  | succ m ih =>
    intro i F a U D c h1 h2 h3 h4 hc hq
    have an := hc.2.2.1
    obtain ⟨F2, rfl⟩ : ∃ F2, F = F2 + 1 := ⟨F - 1, by omega⟩
    by_cases no : oA (chr (gA u 14) n a)
    rotate_left
    · have st : f_X2_readTerm_L7 kS (F2 + 1) (nI d) (nI i) c = some c := by
        show b_X2_readTerm_L7 kS (f_X2_readTerm_L7 kS F2) (nI d) (nI i) c = _
        unfold b_X2_readTerm_L7
        by_cases c8 : (80 : Int32) ≤ nI i
        · rw [if_pos c8]
        · rw [if_neg c8, if_pos hc.2.2.2.2.1, pkE hn hc, ob_s, if_neg (fun z => no (Or.inl z)), if_neg (fun z => no (Or.inr z))]
      exact ⟨c, st, Or.inr ⟨a, U, D, hc, Nat.le_refl _, hq, no, fun s w hx _ => GB_r13 ⟨hx, fun _ _ => rfl⟩⟩⟩
    have ha : a < n := ne_lt13 rfl (fun z => by rw [← z] at no; rcases no with q | q <;> exact absurd q (by decide))
    have i80 : i < 80 := by omega
    have st : f_X2_readTerm_L7 kS (F2 + 1) (nI d) (nI i) c = (ov (f_X2_readUnit kS (nI d) (sI c 8 (gI c 8 + 1))) fun u8 => ov (f_X2_emit (-(chr (gA u 14) n a)) u8) fun u10 => f_X2_readTerm_L7 kS F2 (nI d) (nI (i + 1)) u10) := by
      show b_X2_readTerm_L7 kS (f_X2_readTerm_L7 kS F2) (nI d) (nI i) c = _
      unfold b_X2_readTerm_L7 f_X2_readTerm_L39
      rw [if_neg (show ¬ (80 : Int32) ≤ nI i from nI_ge (b := 80) i80 (by decide)), if_pos hc.2.2.2.2.1, pkE hn hc, ob_s]
      rcases no with z | z
      · rw [if_pos z, lt_e, nI_1 i]; rfl
      · rw [if_neg (by rw [z]; decide), if_pos z, lt_e, nI_1 i]; rfl
    have G1 : ∀ (s : Nat) (w : SS), RP EVp oA v0 n d s a U D w → (s = 0 ∨ ¬ oA (gA w 14 (s - 1))) → GB13 n a 0 w (a + 1) 1 (fun z => RX EVp v0 n 0 d (s + 1) (a + 1) U D z ∧ gA z 14 s = chr (gA u 14) n a ∧ ∀ j, j < s → gA z 14 j = gA w 14 j) := by
      intro s w hx hs
      obtain ⟨my, y12, y11, -, -⟩ := RP_o hx
      obtain ⟨z, ez, hz, r1, r2⟩ := rsA1 hn hE ha no hx hs
      exact GBs13 hn hB my y12 y11 ha ez (by omega) ⟨hz, r1, r2⟩
    obtain ⟨c2, e2, h2o⟩ := unX13 (q := q + 1) hn hE hB hd hS (adE ha hc) (by omega)
    rw [st, e2, ov_s]
    rcases h2o with ⟨p, hp, fb⟩ | ⟨a2, U2, D2, hc2, h12, hq2, gb⟩
    · obtain ⟨c3, e3, hp3⟩ := emF (-(chr (gA u 14) n a)) hp
      have st2 : f_X2_readTerm_L7 kS F2 (nI d) (nI (i + 1)) c3 = some c3 := by
        obtain ⟨F3, rfl⟩ : ∃ F3, F2 = F3 + 1 := ⟨F2 - 1, by omega⟩
        show b_X2_readTerm_L7 kS (f_X2_readTerm_L7 kS F3) (nI d) (nI (i + 1)) c3 = _
        unfold b_X2_readTerm_L7
        by_cases c8 : (80 : Int32) ≤ nI (i + 1)
        · rw [if_pos c8]
        · rw [if_neg c8, if_neg (CFr_ne hn hp3)]
      rw [e3, ov_s, st2]
      exact ⟨c3, rfl, Or.inl ⟨p, hp3, fun s w hx hs => FB_t13 (G1 s w hx hs) (fun y hy => fb (s + 1) y hy.1)⟩⟩
    · obtain ⟨c3, e3, hc3⟩ := emE (-(chr (gA u 14) n a)) (by have := hc2.2.2.1; omega) hc2
      rw [e3, ov_s]
      have G2 : ∀ (s : Nat) (w : SS), RP EVp oA v0 n d s a U D w → (s = 0 ∨ ¬ oA (gA w 14 (s - 1))) → GB13 n a 0 w a2 0 (fun y => RP EVp oA v0 n d s a2 U2 (D2 ++ [-(chr (gA u 14) n a)]) y ∧ ∀ j, j < s → gA y 14 j = gA w 14 j) := by
        intro s w hx hs
        refine GB_t13 (G1 s w hx hs) (fun z hz => ?_)
        refine GB_w13 (gb (s + 1) z hz.1) (fun y hy => ⟨⟨[chr (gA u 14) n a], D2, hy.1, ⟨(hy.2 s (by omega)).trans hz.2.1, trivial⟩, fun q hq => ?_, rfl⟩, fun j hj => (hy.2 j (by omega)).trans (hz.2.2 j hj)⟩)
        rw [List.mem_singleton.mp hq]; exact no
      obtain ⟨c4, e4, h4o⟩ := ih (i + 1) F2 a2 U2 (D2 ++ [-(chr (gA u 14) n a)]) c3 (by omega) (by omega) (by omega) (by omega) hc3 (by rw [List.length_append]; show D2.length + 1 + q ≤ a2; omega)
      rw [e4]
      have bs : ∀ {s : Nat} {w y : SS}, (∀ j, j < s → gA y 14 j = gA w 14 j) → (s = 0 ∨ ¬ oA (gA w 14 (s - 1))) → (s = 0 ∨ ¬ oA (gA y 14 (s - 1))) := by
        intro s w y hr hs
        rcases Nat.eq_zero_or_pos s with z | z
        · exact Or.inl z
        · rcases hs with q | q
          · omega
          · exact Or.inr (by rw [hr (s - 1) (by omega)]; exact q)
      rcases h4o with ⟨p, hp, fb4⟩ | ⟨a3, U3, D3, hc4, h23, hq3, hno, gb3⟩
      · exact ⟨c4, rfl, Or.inl ⟨p, hp, fun s w hx hs => FB_t13 (G2 s w hx hs) (fun y hy => fb4 s y hy.1 (bs hy.2 hs))⟩⟩
      · exact ⟨c4, rfl, Or.inr ⟨a3, U3, D3, hc4, by omega, hq3, hno, fun s w hx hs => GB_t13 (G2 s w hx hs) (fun y hy => GB_w13 (gb3 s y hy.1 (bs hy.2 hs)) (fun y2 h2 => ⟨h2.1, fun j hj => (h2.2 j hj).trans (hy.2 j hj)⟩))⟩⟩
/-- a term -/
theorem teX13 {a U q d : Nat} {D : List Int32} (hn : n ≤ 80) (hE : EOK EVp) (hB : ∀ p, p < n → gA v0 12 p = gA u 14 p) (hd : d ≤ 6) (hS : d < 6 → SPX13 EVp u v0 n (d + 1) kS) (hc : CLr u n a U D c) (hq : D.length + q ≤ a) : ∃ c2 : SS, f_X2_readTerm kS (nI d) c = some c2 ∧ ((∃ p : Nat, CFr u n p c2 ∧ ∀ (s : Nat) (w : SS), RX EVp v0 n 0 d s a U D w → (s = 0 ∨ ¬ oA (gA w 14 (s - 1))) → FB13 n a 1 w p) ∨ (∃ (a2 U2 : Nat) (D2 : List Int32), CLr u n a2 U2 D2 c2 ∧ a < a2 ∧ D2.length + q ≤ a2 ∧ ¬ oA (chr (gA u 14) n a2) ∧ ∀ (s : Nat) (w : SS), RX EVp v0 n 0 d s a U D w → (s = 0 ∨ ¬ oA (gA w 14 (s - 1))) → GB13 n a 1 w a2 0 (fun y => RP EVp oA v0 n d s a2 U2 D2 y ∧ ∀ j, j < s → gA y 14 j = gA w 14 j))) := by
  unfold f_X2_readTerm
  obtain ⟨c2, e2, h2⟩ := unX13 (q := q) hn hE hB hd hS hc hq
  rw [e2, ov_s]
  rcases h2 with ⟨p, hp, fb⟩ | ⟨a2, U2, D2, hc2, h12, hq2, gb⟩
  · have st : f_X2_readTerm_L7 kS FU (nI d) 0 c2 = some c2 := by
      obtain ⟨F3, hF3⟩ : ∃ F3, FU = F3 + 1 := ⟨FU - 1, by have := FU_ge; omega⟩
      rw [hF3]
      show b_X2_readTerm_L7 kS (f_X2_readTerm_L7 kS F3) (nI d) 0 c2 = _
      unfold b_X2_readTerm_L7
      rw [if_neg (by decide), if_neg (CFr_ne hn hp)]
    rw [st]
    exact ⟨c2, rfl, Or.inl ⟨p, hp, fun s w hx _ => fb s w hx⟩⟩
  · obtain ⟨c3, e3, h3⟩ := teL13 (q := q) hn hE hB hd hS n 0 FU a2 U2 D2 c2 (by omega) (by omega) (by omega) (by have := FU_ge; omega) hc2 hq2
    have e3 : f_X2_readTerm_L7 kS FU (nI d) 0 c2 = some c3 := e3
    rw [e3]
    have bs : ∀ {s : Nat} {w y : SS}, (∀ j, j < s → gA y 14 j = gA w 14 j) → (s = 0 ∨ ¬ oA (gA w 14 (s - 1))) → (s = 0 ∨ ¬ oA (gA y 14 (s - 1))) := by
      intro s w y hr hs
      rcases Nat.eq_zero_or_pos s with z | z
      · exact Or.inl z
      · rcases hs with q | q
        · omega
        · exact Or.inr (by rw [hr (s - 1) (by omega)]; exact q)
    rcases h3 with ⟨p, hp, fb⟩ | ⟨a3, U3, D3, hc3, h23, hq3, hno, gb3⟩
    · exact ⟨c3, rfl, Or.inl ⟨p, hp, fun s w hx hs => FB_t13 (gb s w hx) (fun y hy => fb s y (RP_0 hy.1) (bs hy.2 hs))⟩⟩
    · exact ⟨c3, rfl, Or.inr ⟨a3, U3, D3, hc3, by omega, hq3, hno, fun s w hx hs => GB_t13 (gb s w hx) (fun y hy => GB_w13 (gb3 s y (RP_0 hy.1) (bs hy.2 hs)) (fun y2 h2 => ⟨h2.1, fun j hj => (h2.2 j hj).trans (hy.2 j hj)⟩))⟩⟩
theorem prw_a13 {s : Nat} {g : Int32} : ∀ {R : List Int32}, gA w 14 s = g → prw w (s + 1) R → prw w s (R ++ [g])
  | [], h, _ => ⟨h, trivial⟩
  | q :: R, h, hp => ⟨by
      have e : s + (R ++ [g]).length = s + 1 + R.length := by rw [List.length_append]; show s + (R.length + 1) = _; omega
      show gA w 14 (s + (R ++ [g]).length) = q
      rw [e]; exact hp.1, prw_a13 h hp.2⟩
/-- a sum's further terms -/
theorem suL13 {q d : Nat} (hn : n ≤ 80) (hE : EOK EVp) (hB : ∀ p, p < n → gA v0 12 p = gA u 14 p) (hd : d ≤ 6) (hS : d < 6 → SPX13 EVp u v0 n (d + 1) kS) : ∀ (m i F a U : Nat) (D : List Int32) (c : SS), n ≤ a + m → i ≤ a → i ≤ 80 → 80 < F + i → CLr u n a U D c → D.length + q ≤ a → ¬ oA (chr (gA u 14) n a) → ∃ c2 : SS, f_X2_readSum_L7 kS F (nI d) (nI i) c = some c2 ∧ ((∃ p : Nat, CFr u n p c2 ∧ ∀ (s : Nat) (w : SS), RP EVp oB v0 n d s a U D w → (s = 0 ∨ ¬ oB (gA w 14 (s - 1))) → FB13 n a 0 w p) ∨ (∃ (a2 U2 : Nat) (D2 : List Int32), CLr u n a2 U2 D2 c2 ∧ a ≤ a2 ∧ D2.length + q ≤ a2 ∧ ¬ oB (chr (gA u 14) n a2) ∧ ∀ (s : Nat) (w : SS), RP EVp oB v0 n d s a U D w → (s = 0 ∨ ¬ oB (gA w 14 (s - 1))) → GB13 n a 0 w a2 0 (fun y => RP EVp oB v0 n d s a2 U2 D2 y ∧ ∀ j, j < s → gA y 14 j = gA w 14 j))) := by
  intro m
  induction m with
  | zero =>
    intro i F a U D c h1 h2 h3 h4 hc hq hA
    have an := hc.2.2.1
    have e1 : chr (gA u 14) n a = -1 := chr_f (by omega)
    have no : ¬ oB (chr (gA u 14) n a) := by
      rw [e1]; intro z
      rcases z with z | z | z | z <;> exact absurd z (by decide)
    have st : f_X2_readSum_L7 kS F (nI d) (nI i) c = some c := by
      obtain ⟨F2, rfl⟩ : ∃ F2, F = F2 + 1 := ⟨F - 1, by omega⟩
      show b_X2_readSum_L7 kS (f_X2_readSum_L7 kS F2) (nI d) (nI i) c = _
      unfold b_X2_readSum_L7
      by_cases c8 : (80 : Int32) ≤ nI i
      · rw [if_pos c8]
      · rw [if_neg c8, if_pos hc.2.2.2.2.1, pkE hn hc, ob_s, if_neg (fun z => no (Or.inr (Or.inr (Or.inl z)))), if_neg (fun z => no (Or.inr (Or.inr (Or.inr z))))]
    exact ⟨c, st, Or.inr ⟨a, U, D, hc, Nat.le_refl _, hq, no, fun s w hx _ => GB_r13 ⟨hx, fun _ _ => rfl⟩⟩⟩
  | succ m ih =>
    intro i F a U D c h1 h2 h3 h4 hc hq hA
    have an := hc.2.2.1
    obtain ⟨F2, rfl⟩ : ∃ F2, F = F2 + 1 := ⟨F - 1, by omega⟩
    by_cases no : chr (gA u 14) n a = 43 ∨ chr (gA u 14) n a = 45
    rotate_left
    · have nB : ¬ oB (chr (gA u 14) n a) := fun z => z.elim (fun z => hA (Or.inl z)) (fun z => z.elim (fun z => hA (Or.inr z)) no)
      have st : f_X2_readSum_L7 kS (F2 + 1) (nI d) (nI i) c = some c := by
        show b_X2_readSum_L7 kS (f_X2_readSum_L7 kS F2) (nI d) (nI i) c = _
        unfold b_X2_readSum_L7
        by_cases c8 : (80 : Int32) ≤ nI i
        · rw [if_pos c8]
        · rw [if_neg c8, if_pos hc.2.2.2.2.1, pkE hn hc, ob_s, if_neg (fun z => no (Or.inl z)), if_neg (fun z => no (Or.inr z))]
      exact ⟨c, st, Or.inr ⟨a, U, D, hc, Nat.le_refl _, hq, nB, fun s w hx _ => GB_r13 ⟨hx, fun _ _ => rfl⟩⟩⟩
    have ha : a < n := ne_lt13 rfl (fun z => by rw [← z] at no; rcases no with q | q <;> exact absurd q (by decide))
    have i80 : i < 80 := by omega
    have nA : ¬ oA (chr (gA u 14) n a) := hA
    have st : f_X2_readSum_L7 kS (F2 + 1) (nI d) (nI i) c = (ov (f_X2_readTerm kS (nI d) (sI c 8 (gI c 8 + 1))) fun u8 => ov (f_X2_emit (-(chr (gA u 14) n a)) u8) fun u10 => f_X2_readSum_L7 kS F2 (nI d) (nI (i + 1)) u10) := by
      show b_X2_readSum_L7 kS (f_X2_readSum_L7 kS F2) (nI d) (nI i) c = _
      unfold b_X2_readSum_L7 f_X2_readSum_L39
      rw [if_neg (show ¬ (80 : Int32) ≤ nI i from nI_ge (b := 80) i80 (by decide)), if_pos hc.2.2.2.2.1, pkE hn hc, ob_s]
      rcases no with z | z
      · rw [if_pos z, lt_e, nI_1 i]; rfl
      · rw [if_neg (by rw [z]; decide), if_pos z, lt_e, nI_1 i]; rfl
    have G1 : ∀ (s : Nat) (w : SS), RP EVp oB v0 n d s a U D w → (s = 0 ∨ ¬ oB (gA w 14 (s - 1))) → GB13 n a 0 w (a + 1) 1 (fun z => RX EVp v0 n 0 d (s + 1) (a + 1) U D z ∧ gA z 14 s = chr (gA u 14) n a ∧ ∀ j, j < s → gA z 14 j = gA w 14 j) := by
      intro s w hx hs
      obtain ⟨my, y12, y11, -, -⟩ := RP_o hx
      obtain ⟨z, ez, hz, r1, r2⟩ := rsB1 hn hE ha no hx hs
      exact GBs13 hn hB my y12 y11 ha ez (by omega) ⟨hz, r1, r2⟩
    have bA : ∀ {s : Nat} {z : SS}, gA z 14 s = chr (gA u 14) n a → (s + 1 = 0 ∨ ¬ oA (gA z 14 (s + 1 - 1))) := fun {s z} r1 => Or.inr (by rw [show s + 1 - 1 = s by omega, r1]; exact nA)
    obtain ⟨c2, e2, h2o⟩ := teX13 (q := q + 1) hn hE hB hd hS (adE ha hc) (by omega)
    rw [st, e2, ov_s]
    rcases h2o with ⟨p, hp, fb⟩ | ⟨a2, U2, D2, hc2, h12, hq2, hA2, gb⟩
    · obtain ⟨c3, e3, hp3⟩ := emF (-(chr (gA u 14) n a)) hp
      have st2 : f_X2_readSum_L7 kS F2 (nI d) (nI (i + 1)) c3 = some c3 := by
        obtain ⟨F3, rfl⟩ : ∃ F3, F2 = F3 + 1 := ⟨F2 - 1, by omega⟩
        show b_X2_readSum_L7 kS (f_X2_readSum_L7 kS F3) (nI d) (nI (i + 1)) c3 = _
        unfold b_X2_readSum_L7
        by_cases c8 : (80 : Int32) ≤ nI (i + 1)
        · rw [if_pos c8]
        · rw [if_neg c8, if_neg (CFr_ne hn hp3)]
      rw [e3, ov_s, st2]
      exact ⟨c3, rfl, Or.inl ⟨p, hp3, fun s w hx hs => FB_t13 (G1 s w hx hs) (fun y hy => fb (s + 1) y hy.1 (bA hy.2.1))⟩⟩
    · obtain ⟨c3, e3, hc3⟩ := emE (-(chr (gA u 14) n a)) (by have := hc2.2.2.1; omega) hc2
      rw [e3, ov_s]
      have G2 : ∀ (s : Nat) (w : SS), RP EVp oB v0 n d s a U D w → (s = 0 ∨ ¬ oB (gA w 14 (s - 1))) → GB13 n a 0 w a2 0 (fun y => RP EVp oB v0 n d s a2 U2 (D2 ++ [-(chr (gA u 14) n a)]) y ∧ ∀ j, j < s → gA y 14 j = gA w 14 j) := by
        intro s w hx hs
        refine GB_t13 (G1 s w hx hs) (fun z hz => ?_)
        refine GB_w13 (gb (s + 1) z hz.1 (bA hz.2.1)) (fun y hy => ⟨?_, fun j hj => (hy.2 j (by omega)).trans (hz.2.2 j hj)⟩)
        obtain ⟨R, T, hR, hp, ho, eD⟩ := hy.1
        refine ⟨R ++ [chr (gA u 14) n a], T, ?_, prw_a13 ((hy.2 s (by omega)).trans hz.2.1) hp, fun q hq => ?_, ?_⟩
        · have e : s + (R ++ [chr (gA u 14) n a]).length = s + 1 + R.length := by rw [List.length_append]; show s + (R.length + 1) = _; omega
          rw [e]; exact hR
        · rcases List.mem_append.mp hq with z | z
          · exact oA_B (ho q z)
          · rw [List.mem_singleton.mp z]; exact Or.inr (Or.inr no)
        · rw [eD, List.map_append, List.append_assoc]; rfl
      obtain ⟨c4, e4, h4o⟩ := ih (i + 1) F2 a2 U2 (D2 ++ [-(chr (gA u 14) n a)]) c3 (by omega) (by omega) (by omega) (by omega) hc3 (by rw [List.length_append]; show D2.length + 1 + q ≤ a2; omega) hA2
      rw [e4]
      have bs : ∀ {s : Nat} {w y : SS}, (∀ j, j < s → gA y 14 j = gA w 14 j) → (s = 0 ∨ ¬ oB (gA w 14 (s - 1))) → (s = 0 ∨ ¬ oB (gA y 14 (s - 1))) := by
        intro s w y hr hs
        rcases Nat.eq_zero_or_pos s with z | z
        · exact Or.inl z
        · rcases hs with q | q
          · omega
          · exact Or.inr (by rw [hr (s - 1) (by omega)]; exact q)
      rcases h4o with ⟨p, hp, fb4⟩ | ⟨a3, U3, D3, hc4, h23, hq3, hno, gb3⟩
      · exact ⟨c4, rfl, Or.inl ⟨p, hp, fun s w hx hs => FB_t13 (G2 s w hx hs) (fun y hy => fb4 s y hy.1 (bs hy.2 hs))⟩⟩
      · exact ⟨c4, rfl, Or.inr ⟨a3, U3, D3, hc4, by omega, hq3, hno, fun s w hx hs => GB_t13 (G2 s w hx hs) (fun y hy => GB_w13 (gb3 s y hy.1 (bs hy.2 hs)) (fun y2 h2 => ⟨h2.1, fun j hj => (h2.2 j hj).trans (hy.2 j hj)⟩))⟩⟩
/-- a sum -/
theorem suX13 {d : Nat} (hn : n ≤ 80) (hE : EOK EVp) (hB : ∀ p, p < n → gA v0 12 p = gA u 14 p) (hd : d ≤ 6) (hS : d < 6 → SPX13 EVp u v0 n (d + 1) kS) : SPX13 EVp u v0 n d (f_X2_readSum kS) := by
  intro a U q D c hc hq
  unfold f_X2_readSum
  obtain ⟨c2, e2, h2⟩ := teX13 (q := q) hn hE hB hd hS hc hq
  rw [e2, ov_s]
  have oAB : ∀ {s : Nat} {w : SS}, (s = 0 ∨ ¬ oB (gA w 14 (s - 1))) → (s = 0 ∨ ¬ oA (gA w 14 (s - 1))) := fun h => h.elim Or.inl (fun z => Or.inr (fun q => z (oA_B q)))
  rcases h2 with ⟨p, hp, fb⟩ | ⟨a2, U2, D2, hc2, h12, hq2, hA2, gb⟩
  · have st : f_X2_readSum_L7 kS FU (nI d) 0 c2 = some c2 := by
      obtain ⟨F3, hF3⟩ : ∃ F3, FU = F3 + 1 := ⟨FU - 1, by have := FU_ge; omega⟩
      rw [hF3]
      show b_X2_readSum_L7 kS (f_X2_readSum_L7 kS F3) (nI d) 0 c2 = _
      unfold b_X2_readSum_L7
      rw [if_neg (by decide), if_neg (CFr_ne hn hp)]
    rw [st]
    exact ⟨c2, rfl, Or.inl ⟨p, hp, fun s w hx hs => fb s w hx (oAB hs)⟩⟩
  · obtain ⟨c3, e3, h3⟩ := suL13 (q := q) hn hE hB hd hS n 0 FU a2 U2 D2 c2 (by omega) (by omega) (by omega) (by have := FU_ge; omega) hc2 hq2 hA2
    have e3 : f_X2_readSum_L7 kS FU (nI d) 0 c2 = some c3 := e3
    rw [e3]
    have bs : ∀ {s : Nat} {w y : SS}, (∀ j, j < s → gA y 14 j = gA w 14 j) → (s = 0 ∨ ¬ oB (gA w 14 (s - 1))) → (s = 0 ∨ ¬ oB (gA y 14 (s - 1))) := by
      intro s w y hr hs
      rcases Nat.eq_zero_or_pos s with z | z
      · exact Or.inl z
      · rcases hs with q | q
        · omega
        · exact Or.inr (by rw [hr (s - 1) (by omega)]; exact q)
    rcases h3 with ⟨p, hp, fb⟩ | ⟨a3, U3, D3, hc3, h23, hq3, hno, gb3⟩
    · exact ⟨c3, rfl, Or.inl ⟨p, hp, fun s w hx hs => FB_t13 (gb s w hx (oAB hs)) (fun y hy => fb s y (RP_B hy.1) (bs hy.2 hs))⟩⟩
    · exact ⟨c3, rfl, Or.inr ⟨a3, U3, D3, hc3, by omega, hq3, hno, fun s w hx hs => GB_t13 (gb s w hx (oAB hs)) (fun y hy => GB_w13 (gb3 s y (RP_B hy.1) (bs hy.2 hs)) (fun y2 h2 => ⟨h2.1, fun j hj => (h2.2 j hj).trans (hy.2 j hj)⟩))⟩⟩
theorem frX13 (hn : n ≤ 80) (hE : EOK EVp) (hB : ∀ p, p < n → gA v0 12 p = gA u 14 p) : ∀ (m d f : Nat), d + m = 6 → m < f → SPX13 EVp u v0 n d (fr_X2_readSum f) := by
  intro m
  induction m with
  | zero =>
    intro d f h1 h2
    match f, h2 with
    | f + 1, _ => exact suX13 hn hE hB (by omega) (fun z => absurd z (by omega))
  | succ m ih =>
    intro d f h1 h2
    match f, h2 with
    | f + 1, h2 => exact suX13 hn hE hB (by omega) (fun _ => ih (d + 1) f (by omega) (by omega))
/-- the whole text: both find the same fault, or neither, with the same units -/
theorem txX13 (hn : n ≤ 80) (hE : EOK EVp) (e5 : gI u 5 = nI n) (hB : ∀ p, p < n → gA w 12 p = gA u 14 p) (nm : NMI w) (he : EVp [] (sI (sI (sI (sI (sI (sI (sI w 8 0) 9 0) 10 0) 11 0) 14 0) 12 0) 13 0)) : (∃ (p : Nat) (c2 y : SS), f_X2_readTape u = some ((-20 : Int32) - nI p, c2) ∧ f_X10_workText_13 (nI n) w = some y ∧ gI y 12 = 1 ∧ gI y 11 = nI p ∧ gI c2 4 = gI u 4 ∧ gA c2 13 = gA u 13) ∨ (∃ (U : Nat) (D : List Int32) (c2 y : SS), f_X2_readTape u = some (nI U, c2) ∧ gI c2 4 = nI D.length ∧ D.length ≤ 80 ∧ (∀ j, j < D.length → gA c2 13 j = D.getD j 0) ∧ f_X10_workText_13 (nI n) w = some y ∧ gI y 12 = 0 ∧ gI y 14 = nI U ∧ EVp D y ∧ gI y 8 = 1) := by
  have c0 : CLr u n 0 0 [] (sI (sI (sI (sI u 6 0) 7 0) 8 0) 9 (-1)) := ⟨FrB_I (by unfold kBI; omega) (FrB_I (by unfold kBI; omega) (FrB_I (by unfold kBI; omega) (FrB_I (by unfold kBI; omega) (FrB_r u)))), e5, by omega, rfl, rfl, rfl, by decide, rfl, fun j hj => absurd hj (by show ¬ j < 0; omega)⟩
  have x0 : RX EVp w n 0 0 0 0 0 [] (sI (sI (sI (sI (sI (sI (sI w 8 0) 9 0) 10 0) 11 0) 14 0) 12 0) 13 0) := ⟨⟨0, PK_I (by unfold kPI; omega) (PK_I (by unfold kPI; omega) (PK_I (by unfold kPI; omega) (PK_I (by unfold kPI; omega) (PK_I (by unfold kPI; omega) (PK_I (by unfold kPI; omega) (PK_I (by unfold kPI; omega) (PK_r w))))))), nm, Or.inl rfl, rfl, rfl, rfl, rfl, by omega, by omega, fun j hj => absurd hj (by omega), rfl⟩, rfl, rfl, he⟩
  obtain ⟨c1, e1, h1⟩ := frX13 (EVp := EVp) (u := u) (v0 := w) hn hE hB 6 0 10 rfl (by decide) 0 0 0 [] _ c0 (by show 0 + 0 ≤ 0; omega)
  have e1 : fr_X2_readSum 10 (0 : Int32) (sI (sI (sI (sI u 6 0) 7 0) 8 0) 9 (-1)) = some c1 := e1
  have rT : f_X2_readTape u = (if (gI c1 5) ≤ (gI c1 8) then (f_X2_readTape_L40 c1) else (ov (f_X2_findFault c1) fun u11 => f_X2_readTape_L40 u11)) := by
    unfold f_X2_readTape
    rw [lt_e, lt_e, lt_e, lt_e, e1, ov_s]
  have bad : ∀ (p : Nat) (c : SS), CFr u n p c → ∃ c2, f_X2_readTape_L40 c = some ((-20 : Int32) - nI p, c2) ∧ gI c2 4 = gI u 4 ∧ gA c2 13 = gA u 13 := by
    intro p c hp
    unfold f_X2_readTape_L40
    rw [lt_e, sIn (by decide), if_neg (CFr_ne hn hp), hp.2.1]
    refine ⟨_, rfl, ?_, ?_⟩
    · rw [sIn (by decide)]; exact hp.1.1.1 4 (by unfold kBI; omega)
    · exact hp.1.1.2 13 (by unfold kBA; omega)
  have F0 : n + 2 ≤ FU + 0 := by have := FU_ge; omega
  have run : ∀ {P : SS → Prop}, TO P (f_X10_workText_13_L37 FU (nI n) 1 (sI (sI (sI (sI (sI (sI (sI w 8 0) 9 0) 10 0) 11 0) 14 0) 12 0) 13 0)) → ∃ y, f_X10_workText_13 (nI n) w = some y ∧ P y := by
    intro P h
    exact h
  rcases h1 with ⟨p, hp, fb⟩ | ⟨a2, U2, D2, hc1, h12, hq2, hno, gb⟩
  · obtain ⟨c2, ec2, ec4, ec13⟩ := bad p c1 hp
    obtain ⟨y, ey, hy⟩ := run (fb 0 _ x0 (Or.inl rfl) (fun y => Bd p y) FU F0 (fun y hy => hy))
    refine Or.inl ⟨p, c2, y, ?_, ey, hy.1, hy.2, ec4, ec13⟩
    rw [rT, ffF hn hp, ov_s, ec2]
    split <;> rfl
  · have an := hc1.2.2.1
    rw [hc1.2.1, hc1.2.2.2.1] at rT
    by_cases c : a2 < n
    · rw [if_neg (nI_ge c (by omega))] at rT
      obtain ⟨c3, e3, h3⟩ := ffE hc1
      obtain ⟨c2, ec2, ec4, ec13⟩ := bad a2 c3 h3
      rw [e3, ov_s, ec2] at rT
      have fb : FB13 n 0 1 (sI (sI (sI (sI (sI (sI (sI w 8 0) 9 0) 10 0) 11 0) 14 0) 12 0) 13 0) a2 := by
        refine FB_t13 (gb 0 _ x0 (Or.inl rfl)) (fun y hy => ?_)
        obtain ⟨my, y12, y11, -, -⟩ := RP_o hy.1
        obtain ⟨r, z, ez, hz⟩ := rsXb hn hE hy.1 (Or.inl rfl) hno (fun _ => Or.inl rfl) (fun _ => Or.inl rfl)
        exact FBs13 hn hB my y12 y11 c ez hz
      obtain ⟨y, ey, hy⟩ := run (fb (fun y => Bd a2 y) FU F0 (fun y hy => hy))
      exact Or.inl ⟨a2, c2, y, rT, ey, hy.1, hy.2, ec4, ec13⟩
    · rw [if_pos (nI_le (by omega) (by omega))] at rT
      have L40 : ∃ c2, f_X2_readTape_L40 c1 = some (nI U2, c2) ∧ gI c2 4 = nI D2.length ∧ ∀ j, j < D2.length → gA c2 13 j = D2.getD j 0 := by
        obtain ⟨f, g5, -, g8, g9, g7, gl, g6, gd⟩ := hc1
        unfold f_X2_readTape_L40
        rw [lt_e, sIn (by decide), if_pos g9, sIn (by decide), g6, if_neg (nI_pos (by omega)), if_neg (fun z => z (by rw [nI_clamp (by omega)]; exact gl)), lt_e, lt_e]
        refine ⟨sI (cpA (sI c1 5 0) 15 13 (nI D2.length)) 4 (gI (cpA (sI c1 5 0) 15 13 (nI D2.length)) 6), ?_, ?_, fun j hj => ?_⟩
        · rw [sIn (by decide), gI_cp, sIn (by decide), g7]
        · rw [sIe, gI_cp, sIn (by decide), g6]
        · rw [gA_sI, cp_at (by rw [nI_clamp (by omega)]; exact hj)]; exact gd j hj
      obtain ⟨c2, ec2, g4, gd⟩ := L40
      rw [ec2] at rT
      have gE : ∀ (P : SS → Prop), (∀ y : SS, gI y 12 = 0 → gI y 14 = nI U2 → EVp D2 y → gI y 8 = 1 → P y) → TO P (f_X10_workText_13_L37 FU (nI n) 1 (sI (sI (sI (sI (sI (sI (sI w 8 0) 9 0) 10 0) 11 0) 14 0) 12 0) 13 0)) := by
        intro P hk
        refine gb 0 _ x0 (Or.inl rfl) P FU F0 (fun F2 y hF2 hy => ?_)
        obtain ⟨F3, rfl⟩ : ∃ F3, F2 = F3 + 1 := ⟨F2 - 1, by omega⟩
        obtain ⟨my, y12, y11, -, -⟩ := RP_o hy.1
        show TO P (b_X10_workText_13_L37 (f_X10_workText_13_L37 F3) (nI n) 0 y)
        unfold b_X10_workText_13_L37
        rw [y12, if_pos rfl, if_pos rfl, y11, if_pos (nI_le (by omega) (by omega))]
        unfold f_X10_workText_13_L83
        obtain ⟨z, ez, hz, -⟩ := se1 hn hE hy.1 (Or.inl rfl)
        obtain ⟨-, z12, z9, -, -, -⟩ := RX_o hz
        rw [y12, if_pos rfl, ez, ov_s, z9, if_pos (show nI 0 ≤ (0 : Int32) by decide), lt_e]
        refine to_s (hk _ sIe ?_ ?_ ?_)
        · rw [sIn (by decide)]; exact hz.2.2.1
        · exact hE.1 _ z _ (sIn (by decide)) (sIn (by decide)) (fun a => rfl) hz.2.2.2
        · obtain ⟨h, hw⟩ := hz.1
          have eh : h = 0 + 1 := hw.2.2.2.2.2.2.2.2.2.2
          have e8 : gI z 8 = nI h := hw.2.2.2.2.1
          rw [sIn (by decide), e8, eh]; rfl
      obtain ⟨y, ey, hy⟩ := run (gE (fun y => gI y 12 = 0 ∧ gI y 14 = nI U2 ∧ EVp D2 y ∧ gI y 8 = 1) (fun y a b c d => ⟨a, b, c, d⟩))
      exact Or.inr ⟨U2, D2, c2, y, rT, g4, hc1.2.2.2.2.2.2.1, gd, ey, hy.1, hy.2.1, hy.2.2.1, hy.2.2.2⟩
end ST3513
