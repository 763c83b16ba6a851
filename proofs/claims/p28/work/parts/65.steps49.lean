section ST49
variable {k n : Nat} {u v w x y : SS}
/-! the class's search -/
theorem shlL {n : Nat} (s : Int64) (k : Nat) (hs : (s.toBitVec.smod 64).toNat = k) (h : n * 2 ^ k < 2 ^ 63) : lN n <<< s = lN (n * 2 ^ k) := by
  apply Int64.toBitVec_inj.mp
  apply BitVec.eq_of_toNat_eq
  have hn : n < 2 ^ 63 := Nat.lt_of_le_of_lt (Nat.le_mul_of_pos_right n (Nat.two_pow_pos k)) h
  show ((BitVec.ofNat 64 n) <<< (s.toBitVec.smod 64).toNat).toNat = (BitVec.ofNat 64 (n * 2 ^ k)).toNat
  rw [hs, BitVec.toNat_shiftLeft, Nat.shiftLeft_eq, BitVec.toNat_ofNat, BitVec.toNat_ofNat, Nat.mod_eq_of_lt (show n < 2 ^ 64 by omega)]
theorem shrL {n : Nat} (h : n < 2 ^ 63) (s : Int64) (k : Nat) (hs : (s.toBitVec.smod 64).toNat = k) : lN n >>> s = lN (n / 2 ^ k) := by
  apply Int64.toInt_inj.mp
  have h2 : n / 2 ^ k ≤ n := Nat.div_le_self _ _
  show ((lN n).toBitVec.sshiftRight (s.toBitVec.smod 64).toNat).toInt = _
  rw [hs, BitVec.toInt_sshiftRight]
  show (lN n).toInt >>> k = _
  rw [pk_lT h, pk_lT (by omega), Int.shiftRight_eq_div_pow]
  rfl
theorem andL {n : Nat} (h : n < 2 ^ 63) {m : Int64} (k : Nat) (hm : m.toBitVec.toNat = 2 ^ k - 1) : lN n &&& m = lN (n % 2 ^ k) := by
  refine Int64.toBitVec_inj.mp (BitVec.eq_of_toNat_eq ?_)
  show ((BitVec.ofNat 64 n) &&& m.toBitVec).toNat = (BitVec.ofNat 64 (n % 2 ^ k)).toNat
  have q : n % 2 ^ k ≤ n := Nat.mod_le _ _
  rw [BitVec.toNat_and, hm, Nat.and_two_pow_sub_one_eq_mod, BitVec.toNat_ofNat, BitVec.toNat_ofNat, Nat.mod_eq_of_lt (show n < 2 ^ 64 by omega), Nat.mod_eq_of_lt (show n % 2 ^ k < 2 ^ 64 by omega)]
theorem btI : ∀ S, S < 64 → ∀ l, l < 6 → ((nI S >>> (nI l &&& 31)) &&& (1 : Int32)) = nI (bt S l) := by decide +kernel
theorem bcS : ∀ S, S < 64 → bcV (nI S) = nI (zwS S) ∧ zwS S ≤ 6 := by decide +kernel
theorem dgS : ∀ l, l < 6 → dgt (nI l) = nI (wdg l) := by decide +kernel
theorem wdg_b : ∀ l, l < 6 → wdg l ≤ 59049 := by decide +kernel
/-- the tender as the class has it laid -/
def WTc (T : TD) (w : SS) : Prop := (∀ b l : Nat, b < 8 → l < 6 → (wpc T l b < 8 → gA w 23 (b * 6 + l) = nI (wpc T l b) ∧ gA w 24 (b * 6 + l) = nI (wpz T l b)) ∧ (¬ wpc T l b < 8 → gA w 23 (b * 6 + l) = -1)) ∧ (∀ b : Nat, b < 8 → gA w 20 b = nI (wmo T b) ∧ wmo T b ≤ 6) ∧ ∀ b m : Nat, b < 8 → m < 7 → gA w 22 (b * 7 + m) = nI (wrb T b m)
/-- what the search leaves -/
def SFr (w y : SS) : Prop := (∀ i : Nat, i ≠ 13 → i ≠ 14 → gI y i = gI w i) ∧ ∀ a : Nat, a ≠ 21 → gA y a = gA w a
theorem SFr_r (w : SS) : SFr w w := ⟨fun _ _ _ => rfl, fun _ _ => rfl⟩
theorem SFr_L {a : Nat} {i : Int32} {q : Int64} (h : SFr w y) : SFr w (tL y a i q) := ⟨h.1, h.2⟩
theorem SFr_t (h : SFr w y) (h2 : SFr y x) : SFr w x := ⟨fun i a b => (h2.1 i a b).trans (h.1 i a b), fun i a => (h2.2 i a).trans (h.2 i a)⟩
theorem WTc_s {T : TD} (h : WTc T w) (f : SFr w y) : WTc T y := by
  unfold WTc
  rw [f.2 20 (by decide), f.2 22 (by decide), f.2 23 (by decide), f.2 24 (by decide)]
  exact h
abbrev MAXL : Int64 := 9223372036854775807
theorem max_e : MAXL = lN 9223372036854775807 := by decide
theorem lt_max {c : Nat} (h : c < 2 ^ 62) : ¬ lN c = MAXL := by
  rw [max_e]
  intro z
  have := (pk_lEQ (by omega) (by decide)).mp z
  omega
theorem coV {T : TD} {b S : Nat} (hT : TDk T) (hb : b < 8) (hS : S < 64) (h : WTc T w) : ∃ q : Int64, f_X8_costOf (nI b) (nI S) w = some (q, w) ∧ ((zoS T b S ∧ q = lN (zcS T b S)) ∨ (¬ zoS T b S ∧ q = MAXL)) := by
  suffices key : TO (fun p : Int64 × SS => p.2 = w ∧ ((zoS T b S ∧ p.1 = lN (zcS T b S)) ∨ (¬ zoS T b S ∧ p.1 = MAXL))) (f_X8_costOf (nI b) (nI S) w) by
    obtain ⟨⟨q, y⟩, e, e2, e3⟩ := key
    have e2 : y = w := e2
    subst e2
    exact ⟨q, e, e3⟩
  obtain ⟨hp, hm, hr⟩ := id h
  obtain ⟨e, h7⟩ := bcS S hS
  unfold f_X8_costOf
  rw [bcE, ob_s, e, oi_nI (by decide) hb, nI_clamp (show b < 2 ^ 31 by omega), (hm b hb).1]
  have m6 := (hm b hb).2
  by_cases c0 : zwS S ≤ wmo T b
  rotate_left
  · rw [if_neg (fun z => c0 ((nI_leI (by omega) (by omega)).mp z))]
    exact to_s ⟨rfl, Or.inr ⟨fun z => c0 z.1, rfl⟩⟩
  rw [if_pos (nI_le c0 (by omega))]
  refine loopR (fun F (x : Int64 × Int64 × Int32 × SS) => f_X8_costOf_L28 F (nI b) (nI S) (nI (zwS S)) x.1 x.2.1 x.2.2.1 x.2.2.2) (fun i x => x = (lN (zs (fun l => if bt S l = 1 then wpz T l b else 0) i), lN (zs (fun l => if bt S l = 1 then wpc T l b * 1048576 + b * wdg l else 0) i), nI i, w) ∧ ∀ l : Nat, l < i → bt S l = 1 → wpc T l b < 8) _ 6 ?_ (F := FU) (x := ((0 : Int64), (0 : Int64), (0 : Int32), w)) (Nat.lt_trans (by decide) FU_ge) ⟨rfl, fun l hl => absurd hl (Nat.not_lt_zero l)⟩
  intro F x i hi hI hc
  obtain ⟨rfl, hok⟩ := hI
  show TO _ (b_X8_costOf_L28 (f_X8_costOf_L28 F) (nI b) (nI S) (nI (zwS S)) (lN (zs (fun l => if bt S l = 1 then wpz T l b else 0) i)) (lN (zs (fun l => if bt S l = 1 then wpc T l b * 1048576 + b * wdg l else 0) i)) (nI i) w)
  unfold b_X8_costOf_L28 f_X8_costOf_L107
  by_cases c6 : i = 6
  · subst c6
    rw [if_pos (show (6 : Int32) ≤ nI 6 by decide), show nI b * (7 : Int32) + nI (zwS S) = nI (b * 7 + zwS S) by rw [show (7 : Int32) = nI 7 by decide, pk_mul, nI_add], oi_nI (by decide) (show b * 7 + zwS S < 56 by omega), nI_clamp (show b * 7 + zwS S < 2 ^ 31 by omega), hr b (zwS S) hb (by omega)]
    have rb50 := hT.2.2.1 b (zwS S) hb (by omega)
    refine to_l (to_s ⟨rfl, Or.inl ⟨⟨c0, hok⟩, ?_⟩⟩)
    show lN (zpS T b S) + (((lN (zsS T b S) * ((100 : Int32) - nI (wrb T b (zwS S))).toInt64) + (99 : Int64)) / (100 : Int64)) <<< ((26 : Int32).toInt64 &&& 63) = lN (zcS T b S)
    have sb : zsS T b S ≤ 659998800 := zs_bd (c := 109999800) (n := 6) (fun l hl => by
      show (if bt S l = 1 then wpz T l b else 0) ≤ 109999800
      by_cases c : bt S l = 1
      · rw [if_pos c]; exact hT.2.1 l b hl hb
      · rw [if_neg c]; omega)
    have s2 : zsS T b S * (100 - wrb T b (zwS S)) ≤ 659998800 * 100 := Nat.mul_le_mul sb (Nat.sub_le _ _)
    rw [show (100 : Int32) - nI (wrb T b (zwS S)) = nI (100 - wrb T b (zwS S)) from pk_sub (a := 100) (by omega), nI_l (by omega), lN_mul, show (99 : Int64) = lN 99 by decide, lN_add, show (100 : Int64) = lN 100 by decide, pk_lDiv (by omega) (by decide) (by decide), shlL ((26 : Int32).toInt64 &&& 63) 26 (by decide) (by omega), lN_add]
    rfl
  have hi2 : i < 6 := by omega
  rw [if_neg (show ¬ (6 : Int32) ≤ nI i from nI_ge (b := 6) hi2 (by decide)), btI S hS i hi2]
  have st : ∀ (p q : Int64), p = lN (zs (fun l => if bt S l = 1 then wpz T l b else 0) (i + 1)) → q = lN (zs (fun l => if bt S l = 1 then wpc T l b * 1048576 + b * wdg l else 0) (i + 1)) → (bt S i = 1 → wpc T i b < 8) → TO (fun p : Int64 × SS => p.2 = w ∧ ((zoS T b S ∧ p.1 = lN (zcS T b S)) ∨ (¬ zoS T b S ∧ p.1 = MAXL))) (lt (nI i + (1 : Int32)) fun x5 => f_X8_costOf_L28 F (nI b) (nI S) (nI (zwS S)) p q x5 w) := by
    intro p q ep eq ok
    rw [lt_e, nI_1, ep, eq]
    refine hc (_, _, nI (i + 1), w) hi2 ⟨rfl, fun l hl z => ?_⟩
    by_cases q : l = i
    · rw [q]; rw [q] at z; exact ok z
    · exact hok l (by omega) z
  rcases bt_01 S i with z | z
  · rw [z, if_neg (show ¬ nI 0 = (1 : Int32) by decide)]
    refine st _ _ ?_ ?_ (fun y => absurd (z.symm.trans y) (by decide))
    · show _ = lN (zs (fun l => if bt S l = 1 then wpz T l b else 0) i + (if bt S i = 1 then wpz T i b else 0))
      rw [z, if_neg (show ¬ (0 : Nat) = 1 by decide)]; rfl
    · show _ = lN (zs (fun l => if bt S l = 1 then wpc T l b * 1048576 + b * wdg l else 0) i + (if bt S i = 1 then wpc T i b * 1048576 + b * wdg i else 0))
      rw [z, if_neg (show ¬ (0 : Nat) = 1 by decide)]; rfl
  · rw [z, if_pos (show nI 1 = (1 : Int32) by decide), ceB, ob_s, cellB, oi_nI (by decide) (show b * 6 + i < 48 by omega), nI_clamp (show b * 6 + i < 2 ^ 31 by omega)]
    by_cases c1 : wpc T i b < 8
    rotate_left
    · rw [(hp b i hb hi2).2 c1, if_pos rfl]
      exact to_s ⟨rfl, Or.inr ⟨fun y => c1 (y.2 i hi2 z), rfl⟩⟩
    obtain ⟨e3, e4⟩ := (hp b i hb hi2).1 c1
    have pz := hT.2.1 i b hi2 hb
    have dg := wdg_b i hi2
    have bd : b * wdg i ≤ 7 * 59049 := Nat.mul_le_mul (by omega) dg
    rw [e3, if_neg (fun y => m1_n (show wpc T i b < 2 ^ 31 by omega) y), oi_nI (by decide) (show b * 6 + i < 48 by omega), lt_e, oi_nI (by decide) (show b * 6 + i < 48 by omega), oi_nI (by decide) hi2, lt_e]
    refine st _ _ ?_ ?_ (fun _ => c1)
    · show _ = lN (zs (fun l => if bt S l = 1 then wpz T l b else 0) i + (if bt S i = 1 then wpz T i b else 0))
      rw [z, if_pos rfl, e4, nI_l (by omega), lN_add]
    · show _ = lN (zs (fun l => if bt S l = 1 then wpc T l b * 1048576 + b * wdg l else 0) i + (if bt S i = 1 then wpc T i b * 1048576 + b * wdg i else 0))
      rw [z, if_pos rfl, nI_l (by omega), dgS i hi2, pk_mul, nI_l (by omega), shlL ((20 : Int32).toInt64 &&& 63) 20 (by decide) (by omega), lN_add, lN_add]
theorem crV {T : TD} {S : Nat} (hS : S < 64) (hL : wlo T ≤ 6) (w : SS) : f_X8_costOfRest (nI S) (nI (wlo T)) w = some (lN (zrS T S), w) := by
  suffices key : TO (fun p : Int64 × SS => p = (lN (zrS T S), w)) (f_X8_costOfRest (nI S) (nI (wlo T)) w) by
    obtain ⟨p, e, e2⟩ := key
    rw [e, e2]
  refine loopR (fun F (x : Int64 × Int32 × SS) => f_X8_costOfRest_L5 F (nI S) (nI (wlo T)) x.1 x.2.1 x.2.2) (fun i x => x = (lN (zs (fun l => if bt S l = 0 ∧ l < wlo T then 72057594037927936 + 8 * wdg l else 0) i), nI i, w)) _ 6 ?_ (F := FU) (x := ((0 : Int64), (0 : Int32), w)) (Nat.lt_trans (by decide) FU_ge) rfl
  intro F x i hi hI hc
  subst hI
  show TO _ (b_X8_costOfRest_L5 (f_X8_costOfRest_L5 F) (nI S) (nI (wlo T)) (lN (zs (fun l => if bt S l = 0 ∧ l < wlo T then 72057594037927936 + 8 * wdg l else 0) i)) (nI i) w)
  unfold b_X8_costOfRest_L5 f_X8_costOfRest_L44
  by_cases c6 : i = 6
  · subst c6
    rw [if_pos (show (6 : Int32) ≤ nI 6 by decide)]; exact to_s rfl
  have hi2 : i < 6 := by omega
  rw [if_neg (show ¬ (6 : Int32) ≤ nI i from nI_ge (b := 6) hi2 (by decide))]
  by_cases cL : wlo T ≤ i
  · rw [if_pos (nI_le cL (by omega))]
    refine to_s ?_
    unfold zrS
    rw [zs_6 (L := i) (by omega) (fun l h1 _ => if_neg (fun z => by omega))]
  rw [if_neg (nI_ge (show i < wlo T by omega) (by omega)), btI S hS i hi2]
  have st : ∀ q : Int64, q = lN (zs (fun l => if bt S l = 0 ∧ l < wlo T then 72057594037927936 + 8 * wdg l else 0) (i + 1)) → TO (fun p : Int64 × SS => p = (lN (zrS T S), w)) (lt (nI i + (1 : Int32)) fun x1 => f_X8_costOfRest_L5 F (nI S) (nI (wlo T)) q x1 w) := by
    intro q eq
    rw [lt_e, nI_1, eq]; exact hc (_, nI (i + 1), w) hi2 rfl
  have dg := wdg_b i hi2
  rcases bt_01 S i with z | z
  · rw [z, if_pos (show nI 0 = (0 : Int32) by decide), oi_nI (by decide) hi2, lt_e]
    refine st _ ?_
    show _ = lN (zs (fun l => if bt S l = 0 ∧ l < wlo T then 72057594037927936 + 8 * wdg l else 0) i + (if bt S i = 0 ∧ i < wlo T then 72057594037927936 + 8 * wdg i else 0))
    rw [if_pos ⟨z, by omega⟩, dgS i hi2, show (8 : Int32) * nI (wdg i) = nI (8 * wdg i) from pk_mul 8 _, nI_l (by omega), show (72057594037927936 : Int64) = lN 72057594037927936 by decide, lN_add, lN_add]
  · rw [z, if_neg (show ¬ nI 1 = (0 : Int32) by decide)]
    refine st _ ?_
    show _ = lN (zs (fun l => if bt S l = 0 ∧ l < wlo T then 72057594037927936 + 8 * wdg l else 0) i + (if bt S i = 0 ∧ i < wlo T then 72057594037927936 + 8 * wdg i else 0))
    rw [if_neg (fun y => absurd (z.symm.trans y.1) (by decide))]; rfl
/-- the least of what may be; the greatest long where nothing may be -/
def MinO (P : Nat → Prop) (q : Int64) : Prop := (q = MAXL ∧ ∀ c : Nat, ¬ P c) ∨ ∃ c : Nat, c < 2 ^ 62 ∧ q = lN c ∧ P c ∧ ∀ c2 : Nat, P c2 → c ≤ c2
theorem MinO_c {P Q : Nat → Prop} {q : Int64} (h : ∀ c : Nat, P c ↔ Q c) (m : MinO P q) : MinO Q q := by
  rcases m with ⟨e, n⟩ | ⟨c, hc, e, pc, pm⟩
  · exact Or.inl ⟨e, fun c z => n c ((h c).mpr z)⟩
  · exact Or.inr ⟨c, hc, e, (h c).mp pc, fun c2 z => pm c2 ((h c2).mpr z)⟩
theorem MinO_a {P Q R : Nat → Prop} {p q : Int64} {z : Nat} (mp : MinO P p) (mq : MinO Q q) (hq : ¬ q = MAXL) (hb : ∀ c : Nat, Q c → c + z < 2 ^ 62) (hR : ∀ c : Nat, R c ↔ (P c ∨ ∃ c1 : Nat, Q c1 ∧ c = c1 + z)) : MinO R (if q + lN z < p then q + lN z else p) := by
  obtain ⟨c1, h1, e1, q1, m1⟩ := mq.resolve_left (fun y => hq y.1)
  have b1 := hb c1 q1
  rw [e1, lN_add]
  rcases mp with ⟨e, n⟩ | ⟨c, hc, e, pc, pm⟩
  · rw [e, if_pos (show lN (c1 + z) < MAXL by rw [max_e]; exact (pk_lLT (by omega) (by decide)).mpr (by omega))]
    refine Or.inr ⟨c1 + z, b1, rfl, (hR _).mpr (Or.inr ⟨c1, q1, rfl⟩), fun c2 r => ?_⟩
    rcases (hR c2).mp r with r | ⟨c3, r3, e3⟩
    · exact absurd r (n c2)
    · have := m1 c3 r3; omega
  · rw [e]
    by_cases l : c1 + z < c
    · rw [if_pos ((pk_lLT (by omega) (by omega)).mpr l)]
      refine Or.inr ⟨c1 + z, b1, rfl, (hR _).mpr (Or.inr ⟨c1, q1, rfl⟩), fun c2 r => ?_⟩
      rcases (hR c2).mp r with r | ⟨c3, r3, e3⟩
      · have := pm c2 r; omega
      · have := m1 c3 r3; omega
    · rw [if_neg (fun y => l ((pk_lLT (by omega) (by omega)).mp y))]
      refine Or.inr ⟨c, hc, rfl, (hR _).mpr (Or.inl pc), fun c2 r => ?_⟩
      rcases (hR c2).mp r with r | ⟨c3, r3, e3⟩
      · exact pm c2 r
      · have := m1 c3 r3; omega
theorem zs_mono (f : Nat → Nat) {i : Nat} : ∀ d : Nat, zs f i ≤ zs f (i + d) := by
  intro d
  induction d with
  | zero => exact Nat.le_refl _
  | succ d ih =>
    show zs f i ≤ zs f (i + d) + f (i + d)
    omega
/-- what a set may cost is never too large -/
theorem VL_b {T : TD} (hT : TDk T) {i S c : Nat} (hi : i ≤ 8) (hS : S < 64) (h : VL T i S c) : c + zrS T S < 2 ^ 62 := by
  obtain ⟨g, g1, g2, g3⟩ := VL_g i hi S c hS h
  have ok : wGv T g := by
    refine ⟨fun l hl => ?_, fun b hb => ?_⟩
    · rcases bt_01 S l with q | q
      · exact Or.inl ((g1 l hl).2 q)
      · have r := (g1 l hl).1 q
        exact Or.inr ⟨by omega, r.2⟩
    · by_cases z : b < i
      · exact g2 b z
      · have ne : ∀ l : Nat, l < 6 → g l ≠ b := by
          intro l hl y
          rcases bt_01 S l with q | q
          · have := (g1 l hl).2 q; omega
          · have := ((g1 l hl).1 q).1; omega
        rw [(wbc_0 (T := T) ne).1]; exact Nat.zero_le _
  have k := (wKK_d hT ok).2.2.2
  have m := zs_mono (wbc T g) (i := i) (8 - i)
  rw [show i + (8 - i) = 8 by omega] at m
  have e : zrS T S = wrs T g := by
    refine zs_c (fun l hl => ?_)
    show (if bt S l = 0 ∧ l < wlo T then 72057594037927936 + 8 * wdg l else 0) = (if g l = 8 ∧ l < wlo T then 72057594037927936 + 8 * wdg l else 0)
    rcases bt_01 S l with q | q
    · rw [(g1 l hl).2 q, q]
      by_cases z : l < wlo T
      · rw [if_pos ⟨rfl, z⟩, if_pos ⟨rfl, z⟩]
      · rw [if_neg (fun y => z y.2), if_neg (fun y => z y.2)]
    · have := ((g1 l hl).1 q).1
      rw [if_neg (fun y => by omega), if_neg (fun y => by omega)]
  unfold wKK at k
  rw [e, g3]; omega
/-- the costs of a bidder -/
def CRW (T : TD) (b : Nat) (w : SS) : Prop := ∀ X : Nat, 0 < X → X < 64 → (zoS T b X ∧ gL w 7 X = lN (zcS T b X)) ∨ (¬ zoS T b X ∧ gL w 7 X = MAXL)
/-- the best of the set S when the parts above m have been tried -/
def PSm (T : TD) (b S m c : Nat) : Prop := VL T b S c ∨ ∃ X : Nat, m < X ∧ X < 64 ∧ X &&& S = X ∧ zoS T b X ∧ ∃ c1 : Nat, VL T b (S - X) c1 ∧ c = c1 + zcS T b X
theorem ad9V {T : TD} {P : SS → Prop} {b S : Nat} (hT : TDk T) (hb : b < 8) (hS : S < 64) (k3 : Int32 → SS → Option SS) (hc : CRW T b w) (hlow : ∀ S2 : Nat, S2 < S → MinO (VL T b S2) (gL w 6 S2)) (h0 : MinO (VL T b S) (gL w 6 S)) (hk : ∀ y, SFr w y → gL y 7 = gL w 7 → (∀ S2 : Nat, S2 ≠ S → gL y 6 S2 = gL w 6 S2) → MinO (VL T (b + 1) S) (gL y 6 S) → TO P (k3 (nI S + (-1)) y)) : TO P (f_X8_addBidder_L9 k3 FU (nI S) (nI S) w) := by
  refine loopR (fun F (x : Int32 × SS) => f_X8_addBidder_L9 k3 F (nI S) x.1 x.2) (fun i x => ∃ m : Nat, (m + i ≤ S ∨ m = 0) ∧ m &&& S = m ∧ x.1 = nI m ∧ SFr w x.2 ∧ gL x.2 7 = gL w 7 ∧ (∀ S2 : Nat, S2 ≠ S → gL x.2 6 S2 = gL w 6 S2) ∧ MinO (PSm T b S m) (gL x.2 6 S)) _ (S + 1) ?_ (F := FU) (x := (nI S, w)) (Nat.lt_trans (show S + 1 < 1000 by omega) FU_ge) ?_
  rotate_left
  · refine ⟨S, Or.inl (Nat.le_refl _), Nat.and_self S, rfl, SFr_r w, rfl, fun _ _ => rfl, MinO_c (fun c => ⟨Or.inl, fun z => ?_⟩) h0⟩
    rcases z with z | ⟨X, x1, x2, x3, -⟩
    · exact z
    · have := (bt_sub S hS X x2 x3).1; omega
  intro F x i hi hI hc2
  obtain ⟨b2, y⟩ := x
  obtain ⟨m, hm, ms, e, f, e7, e6, mo⟩ := hI
  have e : b2 = nI m := e
  have f : SFr w y := f
  have e7 : gL y 7 = gL w 7 := e7
  have e6 : ∀ S2 : Nat, S2 ≠ S → gL y 6 S2 = gL w 6 S2 := e6
  have mo : MinO (PSm T b S m) (gL y 6 S) := mo
  subst e
  show TO _ (b_X8_addBidder_L9 k3 (f_X8_addBidder_L9 k3 F) (nI S) (nI m) y)
  unfold b_X8_addBidder_L9 f_X8_addBidder_L66
  by_cases c : m = 0
  · subst c
    rw [if_pos (show nI 0 ≤ (0 : Int32) by decide), lt_e]
    exact hk y f e7 e6 mo
  have m0 : 0 < m := by omega
  have mS : m ≤ S := by omega
  obtain ⟨n1, n2, n3⟩ := bt_nx S hS m (by omega) ms m0
  have st : ∀ z : SS, SFr w z → gL z 7 = gL w 7 → (∀ S2 : Nat, S2 ≠ S → gL z 6 S2 = gL w 6 S2) → MinO (PSm T b S ((m - 1) &&& S)) (gL z 6 S) → TO P (lt ((nI m - (1 : Int32)) &&& nI S) fun x3 => f_X8_addBidder_L9 k3 F (nI S) x3 z) := by
    intro z f1 f2 f3 f4
    have en : (nI m - (1 : Int32)) &&& nI S = nI ((m - 1) &&& S) := by
      rw [show nI m - (1 : Int32) = nI (m - 1) from pk_sub (a := m) (b := 1) (by omega)]
      refine Int32.toBitVec_inj.mp ?_
      exact (BitVec.ofNat_and (w := 32)).symm
    rw [lt_e, en]
    exact hc2 (nI ((m - 1) &&& S), z) (by omega) ⟨(m - 1) &&& S, Or.inl (by omega), n1, rfl, f1, f2, f3, f4⟩
  have dec : ∀ c : Nat, PSm T b S ((m - 1) &&& S) c ↔ (PSm T b S m c ∨ (zoS T b m ∧ ∃ c1 : Nat, VL T b (S - m) c1 ∧ c = c1 + zcS T b m)) := by
    intro c
    constructor
    · rintro (h | ⟨X, x1, x2, x3, x4⟩)
      · exact Or.inl (Or.inl h)
      · rcases Nat.lt_trichotomy X m with q | q | q
        · have := n3 X x2 x3 q; omega
        · subst q; exact Or.inr x4
        · exact Or.inl (Or.inr ⟨X, q, x2, x3, x4⟩)
    · rintro ((h | ⟨X, x1, x2, x3, x4⟩) | h)
      · exact Or.inl h
      · exact Or.inr ⟨X, by omega, x2, x3, x4⟩
      · exact Or.inr ⟨m, n2, by omega, ms, h⟩
  rw [if_neg (nI_nle m0 (by omega)), show nI S - nI m = nI (S - m) from pk_sub (by omega), oi_nI (by decide) (show S - m < 64 by omega), lt_e, oi_nI (by decide) (show m < 64 by omega), nI_clamp (show S - m < 2 ^ 31 by omega), nI_clamp (show m < 2 ^ 31 by omega), e7, e6 (S - m) (by omega)]
  have hl := hlow (S - m) (by omega)
  rcases hc m m0 (by omega) with ⟨zo, ec⟩ | ⟨zo, ec⟩
  rotate_left
  · rw [ec, if_pos ((lg_cmp_eq _ _).mpr rfl)]
    refine st y f e7 e6 (MinO_c (fun c => ?_) mo)
    rw [dec c]
    exact ⟨Or.inl, fun z => z.resolve_right (fun y => zo y.1)⟩
  have zb : ∀ c1 : Nat, VL T b (S - m) c1 → c1 + zcS T b m < 2 ^ 62 := by
    intro c1 h1
    have : VL T (b + 1) S (c1 + zcS T b m) := Or.inr ⟨m, m0, by omega, ms, zo, c1, h1, rfl⟩
    have := VL_b hT (by omega) hS this
    omega
  have skip : gL w 6 (S - m) = MAXL → MinO (PSm T b S ((m - 1) &&& S)) (gL y 6 S) := by
    intro z
    refine MinO_c (fun c => ?_) mo
    rw [dec c]
    refine ⟨Or.inl, fun q => q.resolve_right (fun ⟨_, c1, q1, _⟩ => ?_)⟩
    rcases hl with ⟨-, n⟩ | ⟨c2, hc2, e2, -⟩
    · exact n c1 q1
    · exact lt_max hc2 (e2.symm.trans z)
  by_cases zc : lN (zcS T b m) = MAXL
  · rw [ec, zc, if_pos ((lg_cmp_eq _ _).mpr rfl)]
    refine st y f e7 e6 ?_
    rcases hl with ⟨z, -⟩ | ⟨c2, h2, e2, v2, -⟩
    · exact skip z
    · have := zb c2 v2
      exact absurd zc (lt_max (by omega))
  rw [ec, if_neg (fun z => zc ((lg_cmp_eq _ _).mp z))]
  by_cases zl : gL w 6 (S - m) = MAXL
  · rw [zl, if_pos ((lg_cmp_eq _ _).mpr rfl)]
    exact st y f e7 e6 (skip zl)
  rw [if_neg (fun z => zl ((lg_cmp_eq _ _).mp z)), oi_nI (by decide) hS, oi_nI (by decide) (show m < 64 by omega), oi_nI (by decide) hS, lt_e, nI_clamp (show S < 2 ^ 31 by omega)]
  have keyM := MinO_a (R := PSm T b S ((m - 1) &&& S)) mo hl zl zb (fun c => by
    rw [dec c]
    exact ⟨fun z => z.elim Or.inl (fun z => Or.inr z.2), fun z => z.elim Or.inl (fun z => Or.inr ⟨zo, z⟩)⟩)
  refine st _ (SFr_L f) ?_ (fun S2 h2 => ?_) ?_
  · rw [tLn (by decide)]; exact e7
  · rw [tLe, nI_clamp (show S < 2 ^ 31 by omega), pk_uLn h2]; exact e6 S2 h2
  · rw [tLe, nI_clamp (show S < 2 ^ 31 by omega), pk_uLs]; exact keyM
theorem VL_00 (T : TD) (i : Nat) : VL T i 0 0 := by
  induction i with
  | zero => exact ⟨rfl, rfl⟩
  | succ i ih => exact Or.inl ih
theorem adV {T : TD} {b : Nat} (hT : TDk T) (hb : b < 8) (hc : CRW T b w) (h0 : ∀ S : Nat, S < 64 → MinO (VL T b S) (gL w 6 S)) : TO (fun y => SFr w y ∧ ∀ S : Nat, S < 64 → MinO (VL T (b + 1) S) (gL y 6 S)) (f_X8_addBidder w) := by
  refine loopR (fun F (x : Int32 × SS) => f_X8_addBidder_L3 F x.1 x.2) (fun i x => x.1 = nI (63 - i) ∧ SFr w x.2 ∧ gL x.2 7 = gL w 7 ∧ (∀ S : Nat, S ≤ 63 - i → MinO (VL T b S) (gL x.2 6 S)) ∧ ∀ S : Nat, 63 - i < S → S < 64 → MinO (VL T (b + 1) S) (gL x.2 6 S)) _ 63 ?_ (F := FU) (x := ((63 : Int32), w)) (Nat.lt_trans (by decide) FU_ge) ⟨rfl, SFr_r w, rfl, fun S hS => h0 S (by omega), fun S h1 h2 => absurd h1 (by omega)⟩
  intro F x i hi hI hc2
  obtain ⟨b3, y⟩ := x
  obtain ⟨e, f, e7, lo, up⟩ := hI
  have e : b3 = nI (63 - i) := e
  have f : SFr w y := f
  have e7 : gL y 7 = gL w 7 := e7
  have lo : ∀ S : Nat, S ≤ 63 - i → MinO (VL T b S) (gL y 6 S) := lo
  have up : ∀ S : Nat, 63 - i < S → S < 64 → MinO (VL T (b + 1) S) (gL y 6 S) := up
  subst e
  show TO _ (b_X8_addBidder_L3 (f_X8_addBidder_L3 F) (nI (63 - i)) y)
  unfold b_X8_addBidder_L3
  by_cases c : 63 - i = 0
  · rw [c, if_pos (show nI 0 ≤ (0 : Int32) by decide)]
    refine to_s ⟨f, fun S hS => ?_⟩
    by_cases z : S = 0
    · subst z
      refine MinO_c (fun c => ⟨Or.inl, fun y => ?_⟩) (lo 0 (Nat.zero_le _))
      rcases y with y | ⟨X, x1, x2, x3, -⟩
      · exact y
      · rw [Nat.and_zero] at x3; omega
    · exact up S (by omega) hS
  rw [if_neg (nI_nle (by omega) (by omega))]
  refine ad9V hT hb (show 63 - i < 64 by omega) _ (fun X x0 x1 => by rw [e7]; exact hc X x0 x1) (fun S2 h2 => lo S2 (by omega)) (lo _ (Nat.le_refl _)) (fun z fz z7 z6 mz => ?_)
  refine hc2 (nI (63 - i) + (-1), z) (by omega) ⟨?_, SFr_t f fz, z7.trans e7, fun S hS => ?_, fun S h1 h2 => ?_⟩
  · show nI (63 - i) + (-1) = nI (63 - (i + 1))
    rw [show 63 - i = (63 - (i + 1)) + 1 by omega]; exact pk_m1 _
  · show MinO (VL T b S) (gL z 6 S)
    rw [z6 S (by omega)]; exact lo S (by omega)
  · show MinO (VL T (b + 1) S) (gL z 6 S)
    by_cases q : S = 63 - i
    · rw [q]; exact mz
    · rw [z6 S q]; exact up S (by omega) h2
end ST49
