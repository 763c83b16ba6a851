section ST47
/-! the best whole, with nothing of the machine in it -/
def zs (f : Nat → Nat) : Nat → Nat
  | 0 => 0
  | n + 1 => zs f n + f n
theorem zs_c {f g : Nat → Nat} : ∀ {n : Nat}, (∀ i, i < n → f i = g i) → zs f n = zs g n := by
  intro n
  induction n with
  | zero => intro _; rfl
  | succ n ih =>
    intro h
    show zs f n + f n = zs g n + g n
    rw [ih (fun i hi => h i (by omega)), h n (by omega)]
theorem zs_le {f g : Nat → Nat} : ∀ {n : Nat}, (∀ i, i < n → f i ≤ g i) → zs f n ≤ zs g n := by
  intro n
  induction n with
  | zero => intro _; exact Nat.le_refl 0
  | succ n ih =>
    intro h
    show zs f n + f n ≤ zs g n + g n
    have a := ih (fun i hi => h i (by omega))
    have b := h n (by omega)
    omega
theorem zs_add (f g : Nat → Nat) : ∀ n : Nat, zs (fun i => f i + g i) n = zs f n + zs g n := by
  intro n
  induction n with
  | zero => rfl
  | succ n ih =>
    show zs (fun i => f i + g i) n + (f n + g n) = zs f n + f n + (zs g n + g n)
    rw [ih]; omega
theorem zs_mul (f : Nat → Nat) (c : Nat) : ∀ n : Nat, zs (fun i => c * f i) n = c * zs f n := by
  intro n
  induction n with
  | zero => rfl
  | succ n ih =>
    show zs (fun i => c * f i) n + c * f n = c * (zs f n + f n)
    rw [ih, Nat.mul_add]
theorem zs_0 : ∀ n : Nat, zs (fun _ => 0) n = 0 := by
  intro n
  induction n with
  | zero => rfl
  | succ n ih => show zs (fun _ => 0) n + 0 = 0; rw [ih]
theorem zs_z {f : Nat → Nat} {n : Nat} (h : ∀ i, i < n → f i = 0) : zs f n = 0 := (zs_c h).trans (zs_0 n)
theorem zs_swap (f : Nat → Nat → Nat) (n : Nat) : ∀ m : Nat, zs (fun b => zs (fun l => f b l) n) m = zs (fun l => zs (fun b => f b l) m) n := by
  intro m
  induction m with
  | zero => exact (zs_0 n).symm
  | succ m ih =>
    show zs (fun b => zs (fun l => f b l) n) m + zs (fun l => f m l) n = zs (fun l => zs (fun b => f b l) m + f m l) n
    rw [zs_add, ih]
theorem zs_one (A : Nat → Nat) (c : Nat) : ∀ m : Nat, zs (fun b => if c = b then A b else 0) m = if c < m then A c else 0 := by
  intro m
  induction m with
  | zero => rw [if_neg (Nat.not_lt_zero c)]; rfl
  | succ m ih =>
    show zs (fun b => if c = b then A b else 0) m + (if c = m then A m else 0) = _
    rw [ih]
    by_cases h1 : c < m
    · rw [if_pos h1, if_neg (show ¬ c = m by omega), if_pos (show c < m + 1 by omega), Nat.add_zero]
    · rw [if_neg h1]
      by_cases h2 : c = m
      · rw [if_pos h2, if_pos (show c < m + 1 by omega), h2]; omega
      · rw [if_neg h2, if_neg (show ¬ c < m + 1 by omega)]
theorem zs_bd {f : Nat → Nat} {c : Nat} : ∀ {n : Nat}, (∀ i, i < n → f i ≤ c) → zs f n ≤ n * c := by
  intro n
  induction n with
  | zero => intro _; exact Nat.zero_le _
  | succ n ih =>
    intro h
    show zs f n + f n ≤ (n + 1) * c
    have a := ih (fun i hi => h i (by omega))
    have b := h n (by omega)
    rw [Nat.succ_mul]; omega
theorem zs_ext {f : Nat → Nat} {n : Nat} : ∀ d : Nat, (∀ i, n ≤ i → i < n + d → f i = 0) → zs f (n + d) = zs f n := by
  intro d
  induction d with
  | zero => intro _; rfl
  | succ d ih =>
    intro h
    show zs f (n + d) + f (n + d) = zs f n
    rw [ih (fun i h1 h2 => h i h1 (by omega)), h (n + d) (by omega) (by omega)]; rfl
theorem zs_6 {f : Nat → Nat} {L : Nat} (hL : L ≤ 6) (h : ∀ i, L ≤ i → i < 6 → f i = 0) : zs f 6 = zs f L := by
  have e := zs_ext (f := f) (n := L) (6 - L) (fun i h1 h2 => h i h1 (by omega))
  rw [show L + (6 - L) = 6 by omega] at e
  exact e
/-- the tender: places (8: not in the order), prices, the most, the rebates, the lots -/
abbrev TD : Type := (Nat → Nat → Nat) × (Nat → Nat → Nat) × (Nat → Nat) × (Nat → Nat → Nat) × Nat
def wpc (T : TD) (l b : Nat) : Nat := T.1 l b
def wpz (T : TD) (l b : Nat) : Nat := T.2.1 l b
def wmo (T : TD) (b : Nat) : Nat := T.2.2.1 b
def wrb (T : TD) (b m : Nat) : Nat := T.2.2.2.1 b m
def wlo (T : TD) : Nat := T.2.2.2.2
def TDk (T : TD) : Prop := wlo T ≤ 6 ∧ (∀ l b : Nat, l < 6 → b < 8 → wpz T l b ≤ 109999800) ∧ (∀ b m : Nat, b < 8 → m < 7 → wrb T b m ≤ 50) ∧ ∀ l b : Nat, wlo T ≤ l → ¬ wpc T l b < 8
def wdg (l : Nat) : Nat := 9 ^ (5 - l)
/-- a giving: who gets lot l; 8: nobody -/
def wwn (g : Nat → Nat) (b : Nat) : Nat := zs (fun l => if g l = b then 1 else 0) 6
def wsp (T : TD) (g : Nat → Nat) (b : Nat) : Nat := zs (fun l => if g l = b then wpz T l b else 0) 6
def wvb (T : TD) (g : Nat → Nat) (b : Nat) : Nat := (wsp T g b * (100 - wrb T b (wwn g b)) + 99) / 100
def wpp (T : TD) (g : Nat → Nat) (b : Nat) : Nat := zs (fun l => if g l = b then wpc T l b * 1048576 + b * wdg l else 0) 6
def wbc (T : TD) (g : Nat → Nat) (b : Nat) : Nat := wpp T g b + wvb T g b * 67108864
def wrs (T : TD) (g : Nat → Nat) : Nat := zs (fun l => if g l = 8 ∧ l < wlo T then 72057594037927936 + 8 * wdg l else 0) 6
def wKK (T : TD) (g : Nat → Nat) : Nat := zs (wbc T g) 8 + wrs T g
def wGv (T : TD) (g : Nat → Nat) : Prop := (∀ l : Nat, l < 6 → g l = 8 ∨ (g l < 8 ∧ wpc T l (g l) < 8)) ∧ ∀ b : Nat, b < 8 → wwn g b ≤ wmo T b
def wlf (T : TD) (g : Nat → Nat) : Nat := zs (fun l => if g l = 8 ∧ l < wlo T then 1 else 0) 6
def wvl (T : TD) (g : Nat → Nat) : Nat := zs (wvb T g) 8
def wpl (T : TD) (g : Nat → Nat) : Nat := zs (fun l => if g l < 8 then wpc T l (g l) else 0) 6
def wdd (T : TD) (g : Nat → Nat) : Nat := zs (fun l => (if l < wlo T then g l else 0) * wdg l) 6
theorem wpp_s (T : TD) (g : Nat → Nat) : zs (wpp T g) 8 = zs (fun l => if g l < 8 then wpc T l (g l) * 1048576 + g l * wdg l else 0) 6 := by
  show zs (fun b => zs (fun l => if g l = b then wpc T l b * 1048576 + b * wdg l else 0) 6) 8 = _
  rw [zs_swap]
  exact zs_c (fun l _ => zs_one (fun b => wpc T l b * 1048576 + b * wdg l) (g l) 8)
theorem wsp_s (T : TD) (g : Nat → Nat) : zs (wsp T g) 8 = zs (fun l => if g l < 8 then wpz T l (g l) else 0) 6 := by
  show zs (fun b => zs (fun l => if g l = b then wpz T l b else 0) 6) 8 = _
  rw [zs_swap]
  exact zs_c (fun l _ => zs_one (fun b => wpz T l b) (g l) 8)
theorem wKK_f {T : TD} {g : Nat → Nat} (hT : TDk T) (hg : wGv T g) : wKK T g = 72057594037927936 * wlf T g + 67108864 * wvl T g + 1048576 * wpl T g + wdd T g := by
  have e1 : zs (wbc T g) 8 = zs (wpp T g) 8 + 67108864 * wvl T g := by
    show zs (fun b => wpp T g b + wvb T g b * 67108864) 8 = _
    rw [zs_add]
    have : zs (fun b => wvb T g b * 67108864) 8 = zs (fun b => 67108864 * wvb T g b) 8 := zs_c (fun i _ => Nat.mul_comm _ _)
    rw [this, zs_mul]; rfl
  have e2 : zs (fun l => if g l < 8 then wpc T l (g l) * 1048576 + g l * wdg l else 0) 6 + wrs T g = 72057594037927936 * wlf T g + 1048576 * wpl T g + wdd T g := by
    unfold wrs wlf wpl wdd
    rw [← zs_mul, ← zs_mul, ← zs_add, ← zs_add, ← zs_add]
    refine zs_c (fun l hl => ?_)
    show (if g l < 8 then wpc T l (g l) * 1048576 + g l * wdg l else 0) + (if g l = 8 ∧ l < wlo T then 72057594037927936 + 8 * wdg l else 0) = 72057594037927936 * (if g l = 8 ∧ l < wlo T then 1 else 0) + 1048576 * (if g l < 8 then wpc T l (g l) else 0) + (if l < wlo T then g l else 0) * wdg l
    rcases hg.1 l hl with h | ⟨h, h2⟩
    · by_cases c : l < wlo T
      · rw [if_neg (show ¬ g l < 8 by omega), if_pos ⟨h, c⟩, if_pos ⟨h, c⟩, if_neg (show ¬ g l < 8 by omega), if_pos c, h]; omega
      · rw [if_neg (show ¬ g l < 8 by omega), if_neg (fun z => c z.2), if_neg (fun z => c z.2), if_neg (show ¬ g l < 8 by omega), if_neg c, Nat.zero_mul]
    · have c : l < wlo T := Nat.lt_of_not_le (fun z => hT.2.2.2 l (g l) z h2)
      rw [if_pos h, if_neg (fun z => absurd z.1 (by omega)), if_neg (fun z => absurd z.1 (by omega)), if_pos h, if_pos c]; omega
  unfold wKK
  rw [e1, wpp_s]; omega
theorem wvb_le {T : TD} {g : Nat → Nat} (b : Nat) : wvb T g b ≤ wsp T g b := by
  unfold wvb
  have h : wsp T g b * (100 - wrb T b (wwn g b)) ≤ wsp T g b * 100 := Nat.mul_le_mul_left _ (Nat.sub_le _ _)
  omega
theorem wb_vl {T : TD} {g : Nat → Nat} (hT : TDk T) : wvl T g ≤ 659998800 := by
  refine Nat.le_trans (zs_le (fun b _ => wvb_le b)) ?_
  rw [wsp_s]
  refine zs_bd (c := 109999800) (n := 6) (fun l hl => ?_)
  show (if g l < 8 then wpz T l (g l) else 0) ≤ 109999800
  by_cases c : g l < 8
  · rw [if_pos c]; exact hT.2.1 l (g l) hl c
  · rw [if_neg c]; omega
theorem wb_lf (T : TD) (g : Nat → Nat) : wlf T g ≤ wlo T := by
  have key : ∀ n : Nat, zs (fun l => if g l = 8 ∧ l < wlo T then 1 else 0) n ≤ wlo T ∧ zs (fun l => if g l = 8 ∧ l < wlo T then 1 else 0) n ≤ n := by
    intro n
    induction n with
    | zero => exact ⟨Nat.zero_le _, Nat.le_refl 0⟩
    | succ n ih =>
      show zs (fun l => if g l = 8 ∧ l < wlo T then 1 else 0) n + (if g n = 8 ∧ n < wlo T then 1 else 0) ≤ wlo T ∧ zs (fun l => if g l = 8 ∧ l < wlo T then 1 else 0) n + (if g n = 8 ∧ n < wlo T then 1 else 0) ≤ n + 1
      by_cases c : g n = 8 ∧ n < wlo T
      · rw [if_pos c]; omega
      · rw [if_neg c]; omega
  exact (key 6).1
theorem wb_pl {T : TD} {g : Nat → Nat} (hg : wGv T g) : wpl T g ≤ 42 := by
  refine zs_bd (c := 7) (n := 6) (fun l hl => ?_)
  show (if g l < 8 then wpc T l (g l) else 0) ≤ 7
  by_cases c : g l < 8
  · rw [if_pos c]
    rcases hg.1 l hl with h | h
    · omega
    · omega
  · rw [if_neg c]; omega
/-- the digits -/
def wxd (T : TD) (g : Nat → Nat) (l : Nat) : Nat := if l < wlo T then g l else 0
theorem wdd_e (T : TD) (g : Nat → Nat) : wdd T g = wxd T g 0 * 59049 + wxd T g 1 * 6561 + wxd T g 2 * 729 + wxd T g 3 * 81 + wxd T g 4 * 9 + wxd T g 5 := by
  show 0 + wxd T g 0 * wdg 0 + wxd T g 1 * wdg 1 + wxd T g 2 * wdg 2 + wxd T g 3 * wdg 3 + wxd T g 4 * wdg 4 + wxd T g 5 * wdg 5 = _
  rw [show wdg 0 = 59049 from rfl, show wdg 1 = 6561 from rfl, show wdg 2 = 729 from rfl, show wdg 3 = 81 from rfl, show wdg 4 = 9 from rfl, show wdg 5 = 1 from rfl]; omega
theorem wxd_b {T : TD} {g : Nat → Nat} (hg : ∀ l : Nat, l < 6 → g l ≤ 8) {l : Nat} (hl : l < 6) : wxd T g l ≤ 8 := by
  unfold wxd
  by_cases c : l < wlo T
  · rw [if_pos c]; exact hg l hl
  · rw [if_neg c]; omega
theorem wGv_8 {T : TD} {g : Nat → Nat} (hg : wGv T g) : ∀ l : Nat, l < 6 → g l ≤ 8 := fun l hl => by
  rcases hg.1 l hl with h | h <;> omega
theorem wb_dd {T : TD} {g : Nat → Nat} (hg : wGv T g) : wdd T g ≤ 531440 := by
  rw [wdd_e]
  have h0 := wxd_b (T := T) (wGv_8 hg) (l := 0) (by decide)
  have h1 := wxd_b (T := T) (wGv_8 hg) (l := 1) (by decide)
  have h2 := wxd_b (T := T) (wGv_8 hg) (l := 2) (by decide)
  have h3 := wxd_b (T := T) (wGv_8 hg) (l := 3) (by decide)
  have h4 := wxd_b (T := T) (wGv_8 hg) (l := 4) (by decide)
  have h5 := wxd_b (T := T) (wGv_8 hg) (l := 5) (by decide)
  omega
/-- a lower number is a better giving -/
theorem wKK_lt {T : TD} {g g2 : Nat → Nat} (hT : TDk T) (hg : wGv T g) (h2 : wGv T g2) : wKK T g < wKK T g2 ↔ (wlf T g < wlf T g2 ∨ (wlf T g = wlf T g2 ∧ (wvl T g < wvl T g2 ∨ (wvl T g = wvl T g2 ∧ (wpl T g < wpl T g2 ∨ (wpl T g = wpl T g2 ∧ wdd T g < wdd T g2)))))) := by
  rw [wKK_f hT hg, wKK_f hT h2]
  have a1 := wb_vl (g := g) hT
  have a2 := wb_vl (g := g2) hT
  have b1 := wb_pl hg
  have b2 := wb_pl h2
  have c1 := wb_dd hg
  have c2 := wb_dd h2
  omega
/-- what the number holds -/
theorem wKK_d {T : TD} {g : Nat → Nat} (hT : TDk T) (hg : wGv T g) : wKK T g / 72057594037927936 = wlf T g ∧ wKK T g / 67108864 % 1073741824 = wvl T g ∧ wKK T g % 1048576 = wdd T g ∧ wKK T g < 2 ^ 62 := by
  rw [wKK_f hT hg]
  have a1 := wb_vl (g := g) hT
  have b1 := wb_pl hg
  have c1 := wb_dd hg
  have d1 := wb_lf T g
  have d2 := hT.1
  refine ⟨by omega, by omega, by omega, by omega⟩
theorem l6 {l : Nat} (h : l < 6) : l = 0 ∨ l = 1 ∨ l = 2 ∨ l = 3 ∨ l = 4 ∨ l = 5 := by omega
/-- a digit by dividing -/
def dv9 (x : Nat) : Nat → Nat
  | 0 => x
  | n + 1 => dv9 x n / 9
theorem wdd_g {T : TD} {g : Nat → Nat} (hg : wGv T g) {l : Nat} (hl : l < 6) : dv9 (wdd T g) (5 - l) % 9 = wxd T g l := by
  have h0 := wxd_b (T := T) (wGv_8 hg) (l := 0) (by decide)
  have h1 := wxd_b (T := T) (wGv_8 hg) (l := 1) (by decide)
  have h2 := wxd_b (T := T) (wGv_8 hg) (l := 2) (by decide)
  have h3 := wxd_b (T := T) (wGv_8 hg) (l := 3) (by decide)
  have h4 := wxd_b (T := T) (wGv_8 hg) (l := 4) (by decide)
  have h5 := wxd_b (T := T) (wGv_8 hg) (l := 5) (by decide)
  have e := wdd_e T g
  generalize wdd T g = x at e
  rcases l6 hl with rfl | rfl | rfl | rfl | rfl | rfl
  · show x / 9 / 9 / 9 / 9 / 9 % 9 = _; omega
  · show x / 9 / 9 / 9 / 9 % 9 = _; omega
  · show x / 9 / 9 / 9 % 9 = _; omega
  · show x / 9 / 9 % 9 = _; omega
  · show x / 9 % 9 = _; omega
  · show x % 9 = _; omega
/-- the first place where digits differ decides -/
theorem wdd_l {T : TD} {g g2 : Nat → Nat} (hg : wGv T g) (h2 : wGv T g2) {i : Nat} (hi : i < 6) (hs : ∀ l : Nat, l < i → wxd T g l = wxd T g2 l) (hd : wxd T g i < wxd T g2 i) : wdd T g < wdd T g2 := by
  rw [wdd_e, wdd_e]
  have a0 := wxd_b (T := T) (wGv_8 hg) (l := 0) (by decide)
  have a1 := wxd_b (T := T) (wGv_8 hg) (l := 1) (by decide)
  have a2 := wxd_b (T := T) (wGv_8 hg) (l := 2) (by decide)
  have a3 := wxd_b (T := T) (wGv_8 hg) (l := 3) (by decide)
  have a4 := wxd_b (T := T) (wGv_8 hg) (l := 4) (by decide)
  have a5 := wxd_b (T := T) (wGv_8 hg) (l := 5) (by decide)
  rcases l6 hi with rfl | rfl | rfl | rfl | rfl | rfl
  · omega
  · have s0 := hs 0 (by decide); omega
  · have s0 := hs 0 (by decide); have s1 := hs 1 (by decide); omega
  · have s0 := hs 0 (by decide); have s1 := hs 1 (by decide); have s2 := hs 2 (by decide); omega
  · have s0 := hs 0 (by decide); have s1 := hs 1 (by decide); have s2 := hs 2 (by decide); have s3 := hs 3 (by decide); omega
  · have s0 := hs 0 (by decide); have s1 := hs 1 (by decide); have s2 := hs 2 (by decide); have s3 := hs 3 (by decide); have s4 := hs 4 (by decide); omega
theorem wdd_q {T : TD} {g g2 : Nat → Nat} (hs : ∀ l : Nat, l < wlo T → g l = g2 l) : wdd T g = wdd T g2 := by
  refine zs_c (fun l _ => ?_)
  show (if l < wlo T then g l else 0) * wdg l = (if l < wlo T then g2 l else 0) * wdg l
  by_cases c : l < wlo T
  · rw [if_pos c, if_pos c, hs l c]
  · rw [if_neg c, if_neg c]
/-- only the lots below six count -/
theorem wKK_c {T : TD} {g g2 : Nat → Nat} (h : ∀ l : Nat, l < 6 → g l = g2 l) : wKK T g = wKK T g2 ∧ (wGv T g → wGv T g2) := by
  have w : ∀ b : Nat, wwn g b = wwn g2 b := fun b => zs_c (fun l hl => by show (if g l = b then 1 else 0) = (if g2 l = b then 1 else 0); rw [h l hl])
  have s : ∀ b : Nat, wsp T g b = wsp T g2 b := fun b => zs_c (fun l hl => by show (if g l = b then wpz T l b else 0) = (if g2 l = b then wpz T l b else 0); rw [h l hl])
  have p : ∀ b : Nat, wpp T g b = wpp T g2 b := fun b => zs_c (fun l hl => by show (if g l = b then wpc T l b * 1048576 + b * wdg l else 0) = (if g2 l = b then wpc T l b * 1048576 + b * wdg l else 0); rw [h l hl])
  have r : wrs T g = wrs T g2 := zs_c (fun l hl => by show (if g l = 8 ∧ l < wlo T then 72057594037927936 + 8 * wdg l else 0) = (if g2 l = 8 ∧ l < wlo T then 72057594037927936 + 8 * wdg l else 0); rw [h l hl])
  refine ⟨?_, fun q => ⟨fun l hl => by rw [← h l hl]; exact q.1 l hl, fun b hb => by rw [← w b]; exact q.2 b hb⟩⟩
  unfold wKK
  rw [r]
  have : zs (wbc T g) 8 = zs (wbc T g2) 8 := zs_c (fun b _ => by unfold wbc wvb; rw [p b, s b, w b])
  rw [this]
/-- the best: the least number of a giving -/
def wBest (T : TD) (K : Nat) : Prop := (∃ g : Nat → Nat, wGv T g ∧ wKK T g = K) ∧ ∀ g : Nat → Nat, wGv T g → K ≤ wKK T g
theorem wBest_u {T : TD} {K K2 : Nat} (h : wBest T K) (h2 : wBest T K2) : K = K2 := by
  obtain ⟨⟨g, a, b⟩, c⟩ := h
  obtain ⟨⟨g2, a2, b2⟩, c2⟩ := h2
  have q1 := c g2 a2
  have q2 := c2 g a
  omega
end ST47
