section ST48
/-! sets of lots as numbers below 64 -/
def bt (S l : Nat) : Nat := S / 2 ^ l % 2
theorem bt_1 (S l : Nat) : bt S l ≤ 1 := by unfold bt; omega
theorem bt_01 (S l : Nat) : bt S l = 0 ∨ bt S l = 1 := by have := bt_1 S l; omega
theorem bt_sub : ∀ S, S < 64 → ∀ X, X < 64 → X &&& S = X → X ≤ S ∧ ∀ l, l < 6 → bt X l ≤ bt S l ∧ bt (S - X) l = bt S l - bt X l := by decide +kernel
theorem bt_in : ∀ S, S < 64 → ∀ X, X < 64 → (∀ l, l < 6 → bt X l ≤ bt S l) → X &&& S = X := by decide +kernel
theorem bt_nx1 : ∀ S, S < 64 → ∀ m, m < 64 → m &&& S = m → 0 < m → ((m - 1) &&& S) &&& S = (m - 1) &&& S ∧ (m - 1) &&& S < m := by decide +kernel
theorem bt_nxA : ((List.range 64).all fun S => (List.range 64).all fun m => !(decide (m &&& S = m)) || (List.range m).all fun X => !(decide (X &&& S = X)) || decide (X ≤ (m - 1) &&& S)) = true := by decide +kernel
theorem bt_nx2 (S : Nat) (hS : S < 64) (m : Nat) (hm : m < 64) (h : m &&& S = m) (X : Nat) (_ : X < 64) (hX : X &&& S = X) (lt : X < m) : X ≤ (m - 1) &&& S := by
  have h1 := List.all_eq_true.mp bt_nxA S (List.mem_range.mpr hS)
  have h2 := List.all_eq_true.mp h1 m (List.mem_range.mpr hm)
  simp only [h, decide_true, Bool.not_true, Bool.false_or] at h2
  have h3 := List.all_eq_true.mp h2 X (List.mem_range.mpr lt)
  simp only [hX, decide_true, Bool.not_true, Bool.false_or, decide_eq_true_eq] at h3
  exact h3
theorem bt_nx (S : Nat) (hS : S < 64) (m : Nat) (hm : m < 64) (h : m &&& S = m) (h0 : 0 < m) : ((m - 1) &&& S) &&& S = (m - 1) &&& S ∧ (m - 1) &&& S < m ∧ ∀ X, X < 64 → X &&& S = X → X < m → X ≤ (m - 1) &&& S := ⟨(bt_nx1 S hS m hm h h0).1, (bt_nx1 S hS m hm h h0).2, bt_nx2 S hS m hm h⟩
theorem bt_z : ∀ S, S < 64 → (∀ l, l < 6 → bt S l = 0) → S = 0 := by decide +kernel
def wms (f : Nat → Nat) : Nat := zs (fun l => f l * 2 ^ l) 6
theorem wms_e (f : Nat → Nat) : wms f = f 0 + f 1 * 2 + f 2 * 4 + f 3 * 8 + f 4 * 16 + f 5 * 32 := by
  show 0 + f 0 * 1 + f 1 * 2 + f 2 * 4 + f 3 * 8 + f 4 * 16 + f 5 * 32 = _
  omega
theorem wms_lt {f : Nat → Nat} (h : ∀ l : Nat, f l ≤ 1) : wms f < 64 := by
  rw [wms_e]
  have h0 := h 0
  have h1 := h 1
  have h2 := h 2
  have h3 := h 3
  have h4 := h 4
  have h5 := h 5
  omega
theorem wms_b {f : Nat → Nat} (h : ∀ l : Nat, f l ≤ 1) {l : Nat} (hl : l < 6) : bt (wms f) l = f l := by
  have e := wms_e f
  generalize wms f = x at e
  have h0 := h 0
  have h1 := h 1
  have h2 := h 2
  have h3 := h 3
  have h4 := h 4
  have h5 := h 5
  rcases l6 hl with rfl | rfl | rfl | rfl | rfl | rfl
  · show x / 1 % 2 = _; omega
  · show x / 2 % 2 = _; omega
  · show x / 4 % 2 = _; omega
  · show x / 8 % 2 = _; omega
  · show x / 16 % 2 = _; omega
  · show x / 32 % 2 = _; omega
/-- a bidder with a set of lots -/
def zwS (S : Nat) : Nat := zs (fun l => bt S l) 6
def zsS (T : TD) (b S : Nat) : Nat := zs (fun l => if bt S l = 1 then wpz T l b else 0) 6
def zpS (T : TD) (b S : Nat) : Nat := zs (fun l => if bt S l = 1 then wpc T l b * 1048576 + b * wdg l else 0) 6
def zcS (T : TD) (b S : Nat) : Nat := zpS T b S + (zsS T b S * (100 - wrb T b (zwS S)) + 99) / 100 * 67108864
def zoS (T : TD) (b S : Nat) : Prop := zwS S ≤ wmo T b ∧ ∀ l : Nat, l < 6 → bt S l = 1 → wpc T l b < 8
def zrS (T : TD) (S : Nat) : Nat := zs (fun l => if bt S l = 0 ∧ l < wlo T then 72057594037927936 + 8 * wdg l else 0) 6
/-- c: what giving just the set S to bidders below i may cost -/
def VL (T : TD) : Nat → Nat → Nat → Prop
  | 0, S, c => S = 0 ∧ c = 0
  | i + 1, S, c => VL T i S c ∨ ∃ X : Nat, 0 < X ∧ X < 64 ∧ X &&& S = X ∧ zoS T i X ∧ ∃ c1 : Nat, VL T i (S - X) c1 ∧ c = c1 + zcS T i X
theorem wbc_0 {T : TD} {g : Nat → Nat} {b : Nat} (h : ∀ l : Nat, l < 6 → g l ≠ b) : wwn g b = 0 ∧ wbc T g b = 0 := by
  have w : wwn g b = 0 := zs_z (fun l hl => if_neg (h l hl))
  have s : wsp T g b = 0 := zs_z (fun l hl => if_neg (h l hl))
  have p : wpp T g b = 0 := zs_z (fun l hl => if_neg (h l hl))
  refine ⟨w, ?_⟩
  unfold wbc wvb
  rw [p, s, Nat.zero_mul]
theorem wbc_c {T : TD} {g g2 : Nat → Nat} {b : Nat} (h : ∀ l : Nat, l < 6 → (g l = b ↔ g2 l = b)) : wwn g b = wwn g2 b ∧ wbc T g b = wbc T g2 b := by
  have ic : ∀ (l x : Nat), l < 6 → (if g l = b then x else 0) = (if g2 l = b then x else 0) := by
    intro l x hl
    by_cases c : g l = b
    · rw [if_pos c, if_pos ((h l hl).mp c)]
    · rw [if_neg c, if_neg (fun z => c ((h l hl).mpr z))]
  have w : wwn g b = wwn g2 b := zs_c (fun l hl => ic l _ hl)
  have s : wsp T g b = wsp T g2 b := zs_c (fun l hl => ic l _ hl)
  have p : wpp T g b = wpp T g2 b := zs_c (fun l hl => ic l _ hl)
  refine ⟨w, ?_⟩
  unfold wbc wvb
  rw [p, s, w]
theorem wbc_s {T : TD} {g : Nat → Nat} {b X : Nat} (h : ∀ l : Nat, l < 6 → (g l = b ↔ bt X l = 1)) : wwn g b = zwS X ∧ wbc T g b = zcS T b X := by
  have ic : ∀ (l x : Nat), l < 6 → (if g l = b then x else 0) = (if bt X l = 1 then x else 0) := by
    intro l x hl
    by_cases c : g l = b
    · rw [if_pos c, if_pos ((h l hl).mp c)]
    · rw [if_neg c, if_neg (fun z => c ((h l hl).mpr z))]
  have w : wwn g b = zwS X := zs_c (fun l hl => by
    show (if g l = b then 1 else 0) = bt X l
    rw [ic l 1 hl]
    rcases bt_01 X l with e | e
    · rw [e, if_neg (by decide)]
    · rw [e, if_pos rfl])
  have s : wsp T g b = zsS T b X := zs_c (fun l hl => ic l _ hl)
  have p : wpp T g b = zpS T b X := zs_c (fun l hl => ic l _ hl)
  refine ⟨w, ?_⟩
  unfold wbc wvb zcS
  rw [p, s, w]
/-- what a set may cost, as a giving -/
theorem VL_g {T : TD} : ∀ i : Nat, i ≤ 8 → ∀ S c : Nat, S < 64 → VL T i S c → ∃ g : Nat → Nat, (∀ l : Nat, l < 6 → (bt S l = 1 → g l < i ∧ wpc T l (g l) < 8) ∧ (bt S l = 0 → g l = 8)) ∧ (∀ b : Nat, b < i → wwn g b ≤ wmo T b) ∧ c = zs (wbc T g) i := by
  intro i
  induction i with
  | zero =>
    intro _ S c _ h
    have hS : S = 0 := h.1
    have hc : c = 0 := h.2
    subst hS
    subst hc
    refine ⟨fun _ => 8, fun l hl => ⟨fun z => ?_, fun _ => rfl⟩, fun b hb => absurd hb (Nat.not_lt_zero b), rfl⟩
    have : bt 0 l = 0 := by unfold bt; rw [Nat.zero_div]
    rw [this] at z; exact absurd z (by decide)
  | succ i ih =>
    intro hi S c hS h
    rcases h with h | ⟨X, x0, x64, xs, xo, c1, h1, hc⟩
    · obtain ⟨g, g1, g2, g3⟩ := ih (by omega) S c hS h
      have ne : ∀ l : Nat, l < 6 → g l ≠ i := by
        intro l hl z
        rcases bt_01 S l with e | e
        · have := (g1 l hl).2 e; omega
        · have := ((g1 l hl).1 e).1; omega
      obtain ⟨w0, b0⟩ := wbc_0 (T := T) ne
      refine ⟨g, fun l hl => ⟨fun z => ⟨by have := ((g1 l hl).1 z).1; omega, ((g1 l hl).1 z).2⟩, (g1 l hl).2⟩, fun b hb => ?_, ?_⟩
      · by_cases e : b = i
        · rw [e, w0]; exact Nat.zero_le _
        · exact g2 b (by omega)
      · show c = zs (wbc T g) i + wbc T g i
        rw [b0]; exact g3
    · obtain ⟨xle, xb⟩ := bt_sub S hS X x64 xs
      obtain ⟨g, g1, g2, g3⟩ := ih (by omega) (S - X) c1 (by omega) h1
      have n1 : ∀ l : Nat, bt X l = 1 → (if bt X l = 1 then i else g l) = i := fun l z => if_pos z
      have n0 : ∀ l : Nat, bt X l ≠ 1 → (if bt X l = 1 then i else g l) = g l := fun l z => if_neg z
      have low : ∀ l : Nat, l < 6 → bt X l ≠ 1 → g l ≠ i := by
        intro l hl _ z
        rcases bt_01 (S - X) l with e | e
        · have := (g1 l hl).2 e; omega
        · have := ((g1 l hl).1 e).1; omega
      have same : ∀ b : Nat, b < i → ∀ l : Nat, l < 6 → ((if bt X l = 1 then i else g l) = b ↔ g l = b) := by
        intro b hb l hl
        by_cases z : bt X l = 1
        · rw [if_pos z]
          have e := (xb l hl).2
          have e2 := bt_1 S l
          have : g l = 8 := (g1 l hl).2 (by omega)
          constructor
          · intro q; omega
          · intro q; omega
        · rw [if_neg z]
      have own : ∀ l : Nat, l < 6 → ((if bt X l = 1 then i else g l) = i ↔ bt X l = 1) := by
        intro l hl
        by_cases z : bt X l = 1
        · rw [if_pos z]; exact ⟨fun _ => z, fun _ => rfl⟩
        · rw [if_neg z]; exact ⟨fun q => absurd q (low l hl z), fun q => absurd q z⟩
      obtain ⟨w0, b0⟩ := wbc_s (T := T) (g := fun l => if bt X l = 1 then i else g l) (b := i) (X := X) own
      refine ⟨fun l => if bt X l = 1 then i else g l, fun l hl => ?_, fun b hb => ?_, ?_⟩
      · show (bt S l = 1 → (if bt X l = 1 then i else g l) < i + 1 ∧ wpc T l (if bt X l = 1 then i else g l) < 8) ∧ (bt S l = 0 → (if bt X l = 1 then i else g l) = 8)
        have e := xb l hl
        by_cases z : bt X l = 1
        · rw [if_pos z]
          exact ⟨fun _ => ⟨by omega, xo.2 l hl z⟩, fun q => by omega⟩
        · rw [if_neg z]
          have z0 : bt X l = 0 := (bt_01 X l).resolve_right z
          refine ⟨fun q => ?_, fun q => (g1 l hl).2 (by omega)⟩
          have r := (g1 l hl).1 (by omega)
          exact ⟨by omega, r.2⟩
      · by_cases e : b = i
        · rw [e, w0]; exact xo.1
        · have := (wbc_c (T := T) (same b (by omega))).1
          rw [this]; exact g2 b (by omega)
      · show c = zs (wbc T fun l => if bt X l = 1 then i else g l) i + wbc T (fun l => if bt X l = 1 then i else g l) i
        rw [b0, hc, g3]
        have : zs (wbc T fun l => if bt X l = 1 then i else g l) i = zs (wbc T g) i := zs_c (fun b hb => (wbc_c (T := T) (same b hb)).2)
        rw [this]
/-- a giving, as a set and its cost -/
theorem g_VL {T : TD} {g : Nat → Nat} (hg : wGv T g) : ∀ i : Nat, i ≤ 8 → VL T i (wms (fun l => if g l < i then 1 else 0)) (zs (wbc T g) i) := by
  intro i
  induction i with
  | zero =>
    intro _
    refine ⟨?_, rfl⟩
    rw [wms_e]
    simp only [Nat.not_lt_zero, if_false]
  | succ i ih =>
    intro hi
    have h := ih (by omega)
    have f1 : ∀ l : Nat, (if g l = i then 1 else 0) ≤ 1 := fun l => by by_cases c : g l = i <;> simp [c]
    have f2 : ∀ l : Nat, (if g l < i + 1 then 1 else 0) ≤ 1 := fun l => by by_cases c : g l < i + 1 <;> simp [c]
    have add : wms (fun l => if g l < i + 1 then 1 else 0) = wms (fun l => if g l < i then 1 else 0) + wms (fun l => if g l = i then 1 else 0) := by
      unfold wms
      rw [← zs_add]
      refine zs_c (fun l _ => ?_)
      show (if g l < i + 1 then 1 else 0) * 2 ^ l = (if g l < i then 1 else 0) * 2 ^ l + (if g l = i then 1 else 0) * 2 ^ l
      rw [← Nat.add_mul]
      congr 1
      by_cases c : g l < i
      · rw [if_pos c, if_pos (by omega), if_neg (by omega)]
      · rw [if_neg c]
        by_cases c2 : g l = i
        · rw [if_pos c2, if_pos (by omega)]
        · rw [if_neg c2, if_neg (by omega)]
    have xb : ∀ l : Nat, l < 6 → bt (wms (fun l => if g l = i then 1 else 0)) l = (if g l = i then 1 else 0) := fun l hl => wms_b f1 hl
    have x64 := wms_lt f1
    have s64 := wms_lt f2
    rcases Nat.eq_zero_or_pos (wms (fun l => if g l = i then 1 else 0)) with x0 | x0
    · refine Or.inl ?_
      have ne : ∀ l : Nat, l < 6 → g l ≠ i := by
        intro l hl z
        have e := xb l hl
        rw [if_pos z, x0] at e
        have : bt 0 l = 0 := by unfold bt; rw [Nat.zero_div]
        omega
      show VL T i (wms (fun l => if g l < i + 1 then 1 else 0)) (zs (wbc T g) i + wbc T g i)
      rw [add, x0, (wbc_0 (T := T) ne).2]; exact h
    · refine Or.inr ⟨wms (fun l => if g l = i then 1 else 0), x0, x64, bt_in _ s64 _ x64 (fun l hl => ?_), ?_, zs (wbc T g) i, ?_, ?_⟩
      · rw [xb l hl, wms_b f2 hl]
        by_cases c : g l = i
        · rw [if_pos c, if_pos (by omega)]; exact Nat.le_refl 1
        · rw [if_neg c]; exact Nat.zero_le _
      · have own : ∀ l : Nat, l < 6 → (g l = i ↔ bt (wms (fun l => if g l = i then 1 else 0)) l = 1) := by
          intro l hl
          rw [xb l hl]
          by_cases c : g l = i
          · rw [if_pos c]; exact ⟨fun _ => rfl, fun _ => c⟩
          · rw [if_neg c]; exact ⟨fun q => absurd q c, fun q => absurd q (by decide)⟩
        refine ⟨?_, fun l hl z => ?_⟩
        · rw [← (wbc_s (T := T) own).1]; exact hg.2 i (by omega)
        · have c := (own l hl).mpr z
          rcases hg.1 l hl with q | q
          · omega
          · rw [← c]; exact q.2
      · rw [show wms (fun l => if g l < i + 1 then 1 else 0) - wms (fun l => if g l = i then 1 else 0) = wms (fun l => if g l < i then 1 else 0) by rw [add]; exact Nat.add_sub_cancel _ _]
        exact h
      · show zs (wbc T g) i + wbc T g i = _
        have own : ∀ l : Nat, l < 6 → (g l = i ↔ bt (wms (fun l => if g l = i then 1 else 0)) l = 1) := by
          intro l hl
          rw [xb l hl]
          by_cases c : g l = i
          · rw [if_pos c]; exact ⟨fun _ => rfl, fun _ => c⟩
          · rw [if_neg c]; exact ⟨fun q => absurd q c, fun q => absurd q (by decide)⟩
        rw [(wbc_s (T := T) own).2]
/-- the least over all sets is the best -/
theorem VL_best {T : TD} {K : Nat} (h1 : ∃ S c : Nat, S < 64 ∧ VL T 8 S c ∧ K = c + zrS T S) (h2 : ∀ S c : Nat, S < 64 → VL T 8 S c → K ≤ c + zrS T S) : wBest T K := by
  refine ⟨?_, fun g hg => ?_⟩
  · obtain ⟨S, c, hS, hv, e⟩ := h1
    obtain ⟨g, g1, g2, g3⟩ := VL_g 8 (Nat.le_refl 8) S c hS hv
    have ok : wGv T g := ⟨fun l hl => by
      rcases bt_01 S l with q | q
      · exact Or.inl ((g1 l hl).2 q)
      · exact Or.inr ((g1 l hl).1 q), g2⟩
    refine ⟨g, ok, ?_⟩
    unfold wKK
    rw [e, ← g3]
    congr 1
    refine zs_c (fun l hl => ?_)
    show (if g l = 8 ∧ l < wlo T then 72057594037927936 + 8 * wdg l else 0) = (if bt S l = 0 ∧ l < wlo T then 72057594037927936 + 8 * wdg l else 0)
    rcases bt_01 S l with q | q
    · rw [(g1 l hl).2 q, q]
      by_cases z : l < wlo T
      · rw [if_pos ⟨rfl, z⟩, if_pos ⟨rfl, z⟩]
      · rw [if_neg (fun y => z y.2), if_neg (fun y => z y.2)]
    · have := ((g1 l hl).1 q).1
      rw [if_neg (fun y => by omega), if_neg (fun y => by omega)]
  · have f2 : ∀ l : Nat, (if g l < 8 then 1 else 0) ≤ 1 := fun l => by by_cases c : g l < 8 <;> simp [c]
    have q := h2 _ _ (wms_lt f2) (g_VL hg 8 (Nat.le_refl 8))
    have e : zrS T (wms (fun l => if g l < 8 then 1 else 0)) = wrs T g := by
      refine zs_c (fun l hl => ?_)
      show (if bt (wms (fun l => if g l < 8 then 1 else 0)) l = 0 ∧ l < wlo T then 72057594037927936 + 8 * wdg l else 0) = (if g l = 8 ∧ l < wlo T then 72057594037927936 + 8 * wdg l else 0)
      rw [wms_b f2 hl]
      have g8 := wGv_8 hg l hl
      by_cases c : g l < 8
      · rw [if_pos c, if_neg (fun y => absurd y.1 (by decide)), if_neg (fun y => by omega)]
      · rw [if_neg c]
        by_cases z : l < wlo T
        · rw [if_pos ⟨rfl, z⟩, if_pos ⟨by omega, z⟩]
        · rw [if_neg (fun y => z y.2), if_neg (fun y => z y.2)]
    rw [e] at q
    exact q
end ST48
