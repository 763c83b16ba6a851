/-! ===== numbers in a range, tests of arguments ===== -/
def rg (n : Nat) (x : Int32) : Prop := ∃ i : Nat, i < n ∧ x = nI i
theorem rg_or (n : Nat) (hn : n < 2 ^ 31) (x : Int32) : rg n x ∨ x < 0 ∨ nI n ≤ x := by
  rcases pk_ix x hn with h | h | ⟨j, hj, e⟩
  · exact Or.inr (Or.inl h)
  · exact Or.inr (Or.inr h)
  · exact Or.inl ⟨j, hj, e⟩
theorem rg_lo {n : Nat} {x : Int32} (hn : n < 2 ^ 31) (h : rg n x) : ¬ x < 0 := by
  obtain ⟨i, hi, rfl⟩ := h
  exact nI_pos (by omega)
theorem rg_hi {n : Nat} {x : Int32} (hn : n < 2 ^ 31) (h : rg n x) : x < nI n := by
  obtain ⟨i, hi, rfl⟩ := h
  exact nI_lt hi hn
theorem rg_mk {n : Nat} {x : Int32} (hn : n < 2 ^ 31) (h0 : ¬ x < 0) (h1 : x < nI n) : rg n x := by
  rcases rg_or n hn x with h | h | h
  · exact h
  · exact absurd h h0
  · exact absurd h1 (Int32.not_lt.mpr h)
theorem oi_in {β : Type} {n : Nat} {x : Int32} {k : Option β} (hn : n < 2 ^ 31) (h : rg n x) : oi x n k = k := by
  obtain ⟨i, hi, rfl⟩ := h
  unfold oi
  rw [if_neg (nI_in hi hn)]
theorem ob_s {α β : Type} (a : α) (u : SS) (k : α → SS → Option β) : ob (some (a, u)) k = k a u := rfl
theorem ov_s {β : Type} (u : SS) (k : SS → Option β) : ov (some u) k = k u := rfl
theorem lt_e {α β : Type} (a : α) (k : α → β) : lt a k = k a := rfl
theorem gI_sI (u : SS) (k j : Nat) (v : Int32) : gI (sI u k v) j = if j = k then v else gI u j := rfl
theorem gI_sJ (u : SS) (k j : Nat) (v : Int64) : gI (sJ u k v) j = gI u j := rfl
theorem gI_tA (u : SS) (a j : Nat) (i x : Int32) : gI (tA u a i x) j = gI u j := rfl
theorem gI_tZ (u : SS) (a j : Nat) (i x : Int32) : gI (tZ u a i x) j = gI u j := rfl
theorem gI_tL (u : SS) (a j : Nat) (i : Int32) (x : Int64) : gI (tL u a i x) j = gI u j := rfl
theorem gA_sI (u : SS) (k a : Nat) (v : Int32) : gA (sI u k v) a = gA u a := rfl
theorem gA_sJ (u : SS) (k a : Nat) (v : Int64) : gA (sJ u k v) a = gA u a := rfl
theorem gA_tA (u : SS) (a b : Nat) (i x : Int32) : gA (tA u a i x) b = if b = a then upd (gA u a) i.toNatClampNeg x else gA u b := rfl
theorem gA_tZ (u : SS) (a b : Nat) (i x : Int32) : gA (tZ u a i x) b = if b = a then upd (gA u a) i.toNatClampNeg (vp_nar .boolean x) else gA u b := rfl
theorem gA_tL (u : SS) (a b : Nat) (i : Int32) (x : Int64) : gA (tL u a i x) b = gA u b := rfl
/-! refusals -/
def rsB (u : SS) (w : Int32) : SS := tA u 0 (-w) ((gA u 0 (-w).toNatClampNeg) + (1 : Int32))
def rsM (u : SS) (w : Int32) : SS := tA u 11 (-w) ((gA u 11 (-w).toNatClampNeg) + (1 : Int32))
def rwd (w : Int32) : Prop := ¬ (0 : Int32) ≤ w ∧ ¬ (8 : Int32) ≤ -w ∧ ¬ (-w < 0 ∨ 8 ≤ (-w).toNatClampNeg)
theorem rwd1 : rwd (-1) := ⟨by decide, by decide, by decide⟩
theorem rwd2 : rwd (-2) := ⟨by decide, by decide, by decide⟩
theorem rwd3 : rwd (-3) := ⟨by decide, by decide, by decide⟩
theorem rwd4 : rwd (-4) := ⟨by decide, by decide, by decide⟩
theorem rwd5 : rwd (-5) := ⟨by decide, by decide, by decide⟩
theorem rwd6 : rwd (-6) := ⟨by decide, by decide, by decide⟩
theorem rwd7 : rwd (-7) := ⟨by decide, by decide, by decide⟩
theorem rfB {w : Int32} (h : rwd w) (u : SS) : f_X9_refuse w u = some (w, rsB u w) := by
  unfold f_X9_refuse oi
  rw [if_neg h.1, if_neg h.2.1, if_neg h.2.2, if_neg h.2.2]
  rfl
theorem rfM {w : Int32} (h : rwd w) (u : SS) : f_X10_refuse w u = some (w, rsM u w) := by
  unfold f_X10_refuse oi
  rw [if_neg h.2.2, if_neg h.2.2]
  rfl
def farI (w : Int32) : Int64 := (4000000000000000000 : Int64) - w.toInt64
theorem rlB {w : Int32} (h : rwd w) (u : SS) : f_X9_refuseLong w u = some (farI w, rsB u w) := by
  unfold f_X9_refuseLong
  rw [rfB h]
  rfl
theorem rlM {w : Int32} (h : rwd w) (u : SS) : f_X10_refuseFar w u = some (farI w, rsM u w) := by
  unfold f_X10_refuseFar oi
  rw [if_neg h.2.2, if_neg h.2.2]
  rfl
/-! tests of arguments -/
theorem noBidder_t {b : Int32} (h : rg 8 b) (u : SS) : f_X9_noBidder b u = some (0, u) := by
  unfold f_X9_noBidder
  rw [if_neg (rg_lo (by decide) h), if_pos (show b < (8 : Int32) from rg_hi (n := 8) (by decide) h)]
theorem noBidder_f {b : Int32} (h : ¬ rg 8 b) (u : SS) : f_X9_noBidder b u = some (1, u) := by
  unfold f_X9_noBidder
  by_cases h2 : b < 0
  · rw [if_pos h2]
  · rw [if_neg h2, if_neg (show ¬ b < (8 : Int32) from fun h3 => h (rg_mk (n := 8) (by decide) h2 h3))]
theorem noScorer_t {b : Int32} (h : rg 6 b) (u : SS) : f_X9_noScorer b u = some (0, u) := by
  unfold f_X9_noScorer
  rw [if_neg (rg_lo (by decide) h), if_pos (show b < (6 : Int32) from rg_hi (n := 6) (by decide) h)]
theorem noScorer_f {b : Int32} (h : ¬ rg 6 b) (u : SS) : f_X9_noScorer b u = some (1, u) := by
  unfold f_X9_noScorer
  by_cases h2 : b < 0
  · rw [if_pos h2]
  · rw [if_neg h2, if_neg (show ¬ b < (6 : Int32) from fun h3 => h (rg_mk (n := 6) (by decide) h2 h3))]
theorem le_nI {x : Int32} {n : Nat} (hn : n + 1 < 2 ^ 31) : x ≤ nI n ↔ x < nI (n + 1) := by
  rw [Int32.le_iff_toInt_le, Int32.lt_iff_toInt_lt, nI_toInt (by omega), nI_toInt hn]
  omega
theorem noPart_t {b : Int32} (h : rg 2 b) (u : SS) : f_X9_noPart b u = some (0, u) := by
  unfold f_X9_noPart
  rw [if_neg (rg_lo (by decide) h), if_pos (show b ≤ (1 : Int32) from (le_nI (n := 1) (by decide)).mpr (rg_hi (n := 2) (by decide) h))]
theorem noPart_f {b : Int32} (h : ¬ rg 2 b) (u : SS) : f_X9_noPart b u = some (1, u) := by
  unfold f_X9_noPart
  by_cases h2 : b < 0
  · rw [if_pos h2]
  · rw [if_neg h2, if_neg (show ¬ b ≤ (1 : Int32) from fun h3 => h (rg_mk (n := 2) (by decide) h2 ((le_nI (n := 1) (by decide)).mp h3)))]
theorem noLot_t {b : Int32} {u : SS} {L : Nat} (hL : gI u 2 = nI L) (hL2 : L ≤ 6) (h : rg L b) : f_X9_noLot b u = some (0, u) := by
  unfold f_X9_noLot
  rw [hL, if_neg (rg_lo (by omega) h), if_pos (rg_hi (by omega) h)]
theorem noLot_f {b : Int32} {u : SS} {L : Nat} (hL : gI u 2 = nI L) (hL2 : L ≤ 6) (h : ¬ rg L b) : f_X9_noLot b u = some (1, u) := by
  unfold f_X9_noLot
  rw [hL]
  by_cases h2 : b < 0
  · rw [if_pos h2]
  · rw [if_neg h2, if_neg (fun h3 => h (rg_mk (by omega) h2 h3))]
theorem noBid_t {b l : Int32} {u : SS} {L : Nat} (hL : gI u 2 = nI L) (hL2 : L ≤ 6) (h : rg 8 b ∧ rg L l) : f_X9_noBid b l u = some (0, u) := by
  unfold f_X9_noBid
  rw [noBidder_t h.1, ob_s, if_pos rfl, noLot_t hL hL2 h.2, ob_s, if_pos rfl]
theorem noBid_f {b l : Int32} {u : SS} {L : Nat} (hL : gI u 2 = nI L) (hL2 : L ≤ 6) (h : ¬ (rg 8 b ∧ rg L l)) : f_X9_noBid b l u = some (1, u) := by
  unfold f_X9_noBid
  by_cases hb : rg 8 b
  · rw [noBidder_t hb, ob_s, if_pos rfl, noLot_f hL hL2 (fun hl => h ⟨hb, hl⟩), ob_s, if_neg (by decide)]
  · rw [noBidder_f hb, ob_s, if_neg (by decide)]
theorem in_t {b c : Int32} {n : Nat} (hn : n + 1 < 2 ^ 31) (hc : c = nI n) (h : rg (n + 1) b) (u : SS) : f_X10_in b 0 c u = some (1, u) := by
  subst hc
  unfold f_X10_in
  rw [if_neg (rg_lo hn h), if_neg (Int32.not_lt.mpr ((le_nI hn).mpr (rg_hi hn h)))]
theorem in_f {b c : Int32} {n : Nat} (hn : n + 1 < 2 ^ 31) (hc : c = nI n) (h : ¬ rg (n + 1) b) (u : SS) : f_X10_in b 0 c u = some (0, u) := by
  subst hc
  unfold f_X10_in
  by_cases h2 : b < 0
  · rw [if_pos h2]
  · rw [if_neg h2, if_pos (Int32.not_le.mp (fun h3 => h (rg_mk hn h2 ((le_nI hn).mp h3))))]
theorem isBidder_t {b : Int32} (h : rg 8 b) (u : SS) : f_X10_isBidder b u = some (1, u) := by
  unfold f_X10_isBidder
  rw [in_t (n := 7) (by decide) (by decide) h, ob_s, if_neg (by decide)]
theorem isBidder_f {b : Int32} (h : ¬ rg 8 b) (u : SS) : f_X10_isBidder b u = some (0, u) := by
  unfold f_X10_isBidder
  rw [in_f (n := 7) (by decide) (by decide) h, ob_s, if_neg (by decide)]
theorem isScorer_t {b : Int32} (h : rg 6 b) (u : SS) : f_X10_isScorer b u = some (1, u) := by
  unfold f_X10_isScorer
  rw [in_t (n := 5) (by decide) (by decide) h, ob_s, if_neg (by decide)]
theorem isScorer_f {b : Int32} (h : ¬ rg 6 b) (u : SS) : f_X10_isScorer b u = some (0, u) := by
  unfold f_X10_isScorer
  rw [in_f (n := 5) (by decide) (by decide) h, ob_s, if_neg (by decide)]
theorem isLot_t {b : Int32} {u : SS} {L : Nat} (hL : gI u 2 = nI L) (h1 : 1 ≤ L) (h2 : L ≤ 6) (h : rg L b) : f_X10_isLot b u = some (1, u) := by
  unfold f_X10_isLot
  rw [hL, in_t (n := L - 1) (by omega) (show nI L - (1 : Int32) = nI (L - 1) from pk_sub (a := L) (b := 1) h1) (by rw [Nat.sub_add_cancel h1]; exact h), ob_s, if_neg (by decide)]
theorem isLot_f {b : Int32} {u : SS} {L : Nat} (hL : gI u 2 = nI L) (h1 : 1 ≤ L) (h2 : L ≤ 6) (h : ¬ rg L b) : f_X10_isLot b u = some (0, u) := by
  unfold f_X10_isLot
  rw [hL, in_f (n := L - 1) (by omega) (show nI L - (1 : Int32) = nI (L - 1) from pk_sub (a := L) (b := 1) h1) (by rw [Nat.sub_add_cancel h1]; exact h), ob_s, if_neg (by decide)]
theorem cellB (i j : Nat) : nI i * (6 : Int32) + nI j = nI (i * 6 + j) := by
  show nI i * nI 6 + nI j = _
  rw [pk_mul, nI_add]
theorem cellM (i j : Nat) : (8 : Int32) * nI j + nI i = nI (8 * j + i) := by
  show nI 8 * nI j + nI i = _
  rw [pk_mul, nI_add]
theorem cellB_rg {i j : Nat} (hi : i < 8) (hj : j < 6) : rg 48 (nI i * (6 : Int32) + nI j) := ⟨i * 6 + j, by omega, cellB i j⟩
theorem cellM_rg {i j : Nat} (hi : i < 8) (hj : j < 6) : rg 48 ((8 : Int32) * nI j + nI i) := ⟨8 * j + i, by omega, cellM i j⟩
