/-! THE CLAIM OUT OF ONE WALK OF THE LAW'S BODY. Your part is whole_start (and what it stands on); all else here is the same for every law, but numbers. -/
def R_law : String := "BidsJudgedLaw"
def lw_P (b : Addr) (xs : List Int32) (args : Array Value) (s : State) : Prop := args = #[.ref b] ∧ s.IntsAt b xs ∧ xs.length ≤ 5120 ∧ (Jvm.Cond.and given_1 narrow_1).before args s = true
def lw_Q (_ : Array Value) (s : State) (o : Outcome) (t : State) : Prop := o = .returned (some (.int 1)) ∧ Framed s o t [] 600000 7302250
def lw_Z (below : List Frame) (a : Array Value) (s : State) : State → Prop := fun t => ∃ o, t.status = .running ∧ Ended t below o ∧ lw_Q a s o t
/-- the law's own end, with 1 on the stack, nothing written that was there before, its room as the claim has it -/
theorem lw_ret {p : Program} {l : Launch} {e : Env} {s : State} {m : MethodId} {below : List Frame} {meth : Method} {c : Code} {b : Nat} (hx : p.tables.exec = Jvm.exec) (hb : c.code = code) (hr : meth.sig.returnType = ret) (hlocks : meth.locks = false) {pc : Nat} {H : Heap} {ls : Array Slot} (hdg : decode code pc = .ok (.ireturn, 1)) : W p l e room_1 s m #[Value.ref b] below meth c H [] 600000 7302250 (lw_Z below #[Value.ref b] s) (F0 m pc ls [.int 1]) := by
  intro T hT X
  obtain ⟨fs, hret, hrun, hended, hW, hframe⟩ := X.leave (v := some (.int 1)) (hlocks := hlocks) (fun h => by rw [hr] at h; cases h)
  have hmeth' : T.vm.method? m = some meth := X.method'
  refine ⟨T.setFrames fs, ?_, .returned (some (.int 1)), hrun, hended, rfl, ⟨_, rfl⟩, hW, hframe⟩
  jvm_step X.here [X.here.top, hx, hb, hdg, hmeth', hr, ret, narrow_b1]
  (try refine ⟨rfl, ?_⟩); (try refine ⟨rfl, ?_⟩)
  first | (intro acts; rw [hret _ acts rfl rfl rfl]) | rw [hret _ _ rfl rfl rfl]
  exact Steps.refl _
/-- what holds at the law's entry: the machine, the code, the tables' words (any of lw_tbl by 'hts w (by decide +kernel)'), the script of L ints xs at the cell b, what the Statement gives of the start (any of its parts by flat_of_before) -/
def lw_At (p : Program) (s : State) (m : MethodId) (meth : Method) (c : Code) (b L : Nat) (xs : Nat → Int32) : Prop :=
  p.tables.exec = Jvm.exec ∧ c.code = code ∧ meth.sig.returnType = ret ∧ c.maxLocals = 4 ∧ s.vm.findClass R_law = some m.cls ∧ (∀ w ∈ lw_tbl, w.before #[Value.ref b] s = true) ∧ va_X b L xs s s.heap ∧ b < s.heap.size ∧ meth.locks = false ∧ (Jvm.Cond.and given_1 narrow_1).before #[Value.ref b] s = true
section LAWC
variable {wd : WD} {ev : EV} {p : Program} {l : Launch} {e : Env} {R : Room} {s : State} {m : MethodId} {args : Array Value} {below : List Frame} {meth : Method} {c : Code} {cc : ByteArray} {nL : Nat} {own : String} {H : Heap} {locs : List Loc} {Q : State → Prop} {pc : Nat} {ls : Array Slot} {u u' : SS} {kc ks : Nat}
variable {y : MethodName} {bytes : ByteArray} {maxL d n index : Nat} {rt : Option FieldType} {b : Nat} {As rest stk : List Value} {D : va_G} {wr : va_W}
abbrev Al (s : State) : Nat → Prop := fun q => s.heap.size ≤ q
/-- what stays as it is over a whole run of one object: the law's side -/
def LC (wd : WD) (ev : EV) (D : va_G) (s : State) : Prop := ev.1 = D ∧ va_K D vwCl (wd.2.2.2 ev) s ∧ wd.2.2.1 ev (Al s) s ∧ (∀ u : SS, va_D (Al s) (wd.1 ev u)) ∧ (∀ j, j < wd.2.1 → Al s (ev.2.1 j))
theorem law_run {Qc : Array Value → State → Outcome → State → Prop} (ok : wOK wd) (hC : LC wd ev D s) (hx : p.tables.exec = Jvm.exec) (hb : c.code = cc) (hml : c.maxLocals = nL) (hown : s.vm.findClass own = some m.cls) (hts : ∀ w ∈ lw_g, w.before args s = true) (hP : va_P D vwCl (wd.1 ev u) H) (hS : va_S (Al s) s.heap H locs)
    (hM : Met l y (Cond.code y bytes maxL rt :: lw_g) (rmk d) (va_Pc (.ref b :: As) (PW wd ev H.size u)) Qc 0 0 (aN wd.2.1 ev H.size)) (hk : lkV y bytes maxL rt n) (hl : Cond.methodLink own index y ∈ lw_g) (hv : RV wd ev u b y.cls) (hsz : ls.size = nL) (hn : As.length = n) (hst : stk = As.reverse ++ .ref b :: rest) (hrm : (rest.map fun v => v.category).sum ≤ 8) (hR : (rmk d).frames + 1 ≤ R.frames ∧ 8 + (maxL + 11) + (rmk d).locals ≤ R.locals) (hd : decode cc pc = .ok (.invokevirtual index, 3)) (hf : kc ≤ R.cells ∧ ks ≤ R.slots) :
    va_Run p l e R s m args below meth c H locs kc ks 0 0 (F0 m pc ls stk) rest (Qc (Value.ref b :: As).toArray) (aN wd.2.1 ev H.size) := by
  obtain ⟨hE, hK, hZ, hD, had⟩ := hC
  subst hE
  obtain ⟨h1, h2, h3, h4, h5⟩ := hk
  obtain ⟨q0, ci, fs, q, g1, g2, g3⟩ := hv
  have hcw : CallW R s args own y.cls index y bytes maxL rt (Cond.code y bytes maxL rt :: lw_g) (rmk d) 0 0 n :=
    cwV n hts (good_1 hl (good_1 h1 (good_1 h2 (good_1 h3 (good_1 h4 good_g))))) rfl rfl rfl ⟨rfl, h5⟩ hR
  refine va_runV (As := As) (rest := rest) ⟨hx, hb, hml, hown, hts⟩ hM hcw ⟨PW_blind ok, g3 ▸ va_recv hK hP g2 g1, fun U hU hW => ⟨rfl, ?_⟩⟩ rfl hn hsz hst (lv_room hrm) hd hf
  refine ⟨by rw [hU], by rw [hU]; exact hP, va_K.moved hW.alike hK, ⟨(hD u).1, fun k q hk => ?_⟩, ok.1 ev _ _ s U hZ hW (fun a h1 h2 => by rw [hU]; exact hS.2.1 a h1 h2) (fun q hq => ?_)⟩
  · obtain ⟨j, hj, e⟩ := ok.2.2 ev u k q hk
    exact Or.inl ⟨j, hj, e⟩
  · rcases hq with ⟨j, hj, e⟩ | hq
    · rw [e]; exact had j hj
    · exact Nat.le_trans hS.1 hq
theorem law_A (hC : LC wd ev D s) (hS : va_S (Al s) s.heap H locs) : ∀ q, aN wd.2.1 ev H.size q → Al s q := fun q hq => by
  rcases hq with ⟨j, hj, e⟩ | hq
  · rw [e]; exact hC.2.2.2.2 j hj
  · exact Nat.le_trans hS.1 hq
theorem law_keep {H1 : Heap} (hR : va_P D vwCl wr H) (hap : ∀ (k : Nat) (q : Nat × va_E), wr[k]? = some q → ∀ j, j < wd.2.1 → q.1 ≠ ev.2.1 j) (hk : ∀ q : Nat, q < H.size → ¬ aN wd.2.1 ev H.size q → H1[q]? = H[q]?) : va_P D vwCl wr H1 := fun k q h => by
  have h1 := (hR k q h).lt
  refine (hR k q h).kept (hk q.1 h1 (fun hq => ?_))
  rcases hq with ⟨j, hj, e⟩ | hq
  · exact hap k q h j hj e
  · exact absurd hq (Nat.not_le.mpr h1)
theorem law_I {r : Int32} {a : Array Value} (hC : LC wd ev D s) (hS : va_S (Al s) s.heap H locs) (hR : va_P D vwCl wr H) (hap : ∀ (k : Nat) (q : Nat × va_E), wr[k]? = some q → ∀ j, j < wd.2.1 → q.1 ≠ ev.2.1 j) (hr : va_Run p l e R s m args below meth c H locs kc ks 0 0 (F0 m pc ls stk) rest (va_Qi (fun x z => x = r ∧ z = u') (QB wd ev H.size) (aN wd.2.1 ev H.size) a) (aN wd.2.1 ev H.size)) (k : ∀ (H1 : Heap) (locs1 : List Loc), va_P D vwCl (wd.1 ev u') H1 → va_P D vwCl wr H1 → va_S (Al s) s.heap H1 locs1 → W p l e R s m args below meth c H1 locs1 kc ks Q (F0 m (pc + 3) ls (.int r :: rest))) : W p l e R s m args below meth c H locs kc ks Q (F0 m pc ls stk) := by
  refine va_calli hr hS (fun q _ h2 => law_A hC hS q h2) (fun q h => law_A hC hS q h) (fun x z t H1 locs1 ht hvm hp hB hz hk hS1 => ?_)
  obtain ⟨rfl, rfl⟩ := hp
  exact k H1 locs1 (by rw [← ht, ← hC.1]; exact hB.1) (law_keep hR hap hk) hS1
theorem law_L {r : Int64} {a : Array Value} (hC : LC wd ev D s) (hS : va_S (Al s) s.heap H locs) (hR : va_P D vwCl wr H) (hap : ∀ (k : Nat) (q : Nat × va_E), wr[k]? = some q → ∀ j, j < wd.2.1 → q.1 ≠ ev.2.1 j) (hr : va_Run p l e R s m args below meth c H locs kc ks 0 0 (F0 m pc ls stk) rest (va_Ql (fun x z => x = r ∧ z = u') (QB wd ev H.size) (aN wd.2.1 ev H.size) a) (aN wd.2.1 ev H.size)) (k : ∀ (H1 : Heap) (locs1 : List Loc), va_P D vwCl (wd.1 ev u') H1 → va_P D vwCl wr H1 → va_S (Al s) s.heap H1 locs1 → W p l e R s m args below meth c H1 locs1 kc ks Q (F0 m (pc + 3) ls (.long r :: rest))) : W p l e R s m args below meth c H locs kc ks Q (F0 m pc ls stk) := by
  refine va_calll hr hS (fun q _ h2 => law_A hC hS q h2) (fun q h => law_A hC hS q h) (fun x z t H1 locs1 ht hvm hp hB hz hk hS1 => ?_)
  obtain ⟨rfl, rfl⟩ := hp
  exact k H1 locs1 (by rw [← ht, ← hC.1]; exact hB.1) (law_keep hR hap hk) hS1
end LAWC
theorem lg_self (r : Int64) : lg_cmp r r = 0 := by simp [lg_cmp]
theorem law_ix {k L j : Nat} {x : Int32} (ex : x = nI (10 * k)) (h : 10 * (k + 1) ≤ L) (hL : L < 2 ^ 20) (hj : j < 10) : vp_in (x + nI j) L := by
  rw [ex, nI_add]
  exact vp_in_nI (by omega) (by omega)
theorem law_ix0 {k L : Nat} {x : Int32} (ex : x = nI (10 * k)) (h : 10 * (k + 1) ≤ L) (hL : L < 2 ^ 20) : vp_in x L := by
  rw [ex]
  exact vp_in_nI (by omega) (by omega)
theorem law_go {k L : Nat} {x : Int32} (ex : x = nI (10 * k)) (hk : 10 * k ≤ L) (hL : L < 2 ^ 20) (z : ¬ Int32.ofNat L - 10 < x) : 10 * (k + 1) ≤ L := by
  rcases Nat.lt_or_ge L (10 * (k + 1)) with h | h
  · refine absurd ?_ z
    rw [ex, Int32.lt_iff_toInt_lt]
    have e1 : (Int32.ofNat L - 10).toInt = (L : Int) - 10 := pk_sub_toInt (a := L) (b := 10) (by omega) (by omega)
    rw [e1, nI_toInt (by omega)]
    omega
  · exact h
