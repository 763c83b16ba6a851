/-! ===== the words that hold at every call: those of the tables that last ===== -/
def lw_g : List Cond := lw_tbl.filter goodWord
theorem mg {w : Cond} (i : Nat) (h : lw_tbl[i]? = some w) (g : goodWord w = true) : w ∈ lw_g := List.mem_filter.mpr ⟨List.mem_of_getElem? h, g⟩
theorem good_1 {c : Cond} {ws : List Cond} (hc : c ∈ lw_g) (h : GoodIn lw_g ws) : GoodIn lw_g (c :: ws) := fun w hw => (List.mem_cons.mp hw).elim (fun e => e ▸ ⟨hc, good_of_word (List.mem_filter.mp hc).2⟩) (h w)
theorem good_g : GoodIn lw_g lw_g := fun _ h => ⟨h, good_of_word (List.mem_filter.mp h).2⟩
/-! ===== a state: whole fields, long fields, rows of ints, rows of longs ===== -/
abbrev SS : Type := (Nat → Int32) × (Nat → Int64) × (Nat → Nat → Int32) × (Nat → Nat → Int64)
def gI (u : SS) (k : Nat) : Int32 := u.1 k
def gJ (u : SS) (k : Nat) : Int64 := u.2.1 k
def gA (u : SS) (a : Nat) : Nat → Int32 := u.2.2.1 a
def gL (u : SS) (a : Nat) : Nat → Int64 := u.2.2.2 a
def sI (u : SS) (k : Nat) (v : Int32) : SS := (va_up u.1 k v, u.2)
def sJ (u : SS) (k : Nat) (v : Int64) : SS := (u.1, va_up u.2.1 k v, u.2.2)
def sA (u : SS) (a : Nat) (f : Nat → Int32) : SS := (u.1, u.2.1, va_up u.2.2.1 a f, u.2.2.2)
def sL (u : SS) (a : Nat) (f : Nat → Int64) : SS := (u.1, u.2.1, u.2.2.1, va_up u.2.2.2 a f)
def tA (u : SS) (a : Nat) (i : Int32) (x : Int32) : SS := sA u a (upd (gA u a) i.toNatClampNeg x)
def tZ (u : SS) (a : Nat) (i : Int32) (x : Int32) : SS := sA u a (upd (gA u a) i.toNatClampNeg (vp_nar .boolean x))
def tL (u : SS) (a : Nat) (i : Int32) (x : Int64) : SS := sL u a (vp_updL (gL u a) i.toNatClampNeg x)
/-! ===== what a method does, as a function: nothing where it would go wrong ===== -/
def lt {α β : Type} (e : α) (k : α → β) : β := k e
def ob {α β : Type} (o : Option (α × SS)) (k : α → SS → Option β) : Option β := match o with
  | none => none
  | some (a, u) => k a u
def ov {β : Type} (o : Option SS) (k : SS → Option β) : Option β := match o with
  | none => none
  | some u => k u
def oi {β : Type} (i : Int32) (n : Nat) (k : Option β) : Option β := if i < 0 ∨ n ≤ i.toNatClampNeg then none else k
theorem lt_some {α β : Type} {e : α} {k : α → Option β} {r : β} (h : lt e k = some r) : ∃ x, x = e ∧ k x = some r := ⟨e, rfl, h⟩
theorem ob_some {α β : Type} {o : Option (α × SS)} {k : α → SS → Option β} {r : β} (h : ob o k = some r) : ∃ a u, o = some (a, u) ∧ k a u = some r := by
  match o, h with
  | some (a, u), h => exact ⟨a, u, rfl, h⟩
theorem ov_some {β : Type} {o : Option SS} {k : SS → Option β} {r : β} (h : ov o k = some r) : ∃ u, o = some u ∧ k u = some r := by
  match o, h with
  | some u, h => exact ⟨u, rfl, h⟩
theorem oi_some {β : Type} {i : Int32} {n : Nat} {k : Option β} {r : β} (h : oi i n k = some r) : vp_in i n ∧ k = some r := by
  unfold oi at h
  by_cases c : i < 0 ∨ n ≤ i.toNatClampNeg
  · rw [if_pos c] at h; cases h
  · rw [if_neg c] at h; exact ⟨c, h⟩
theorem it_pos {β : Type} {c : Prop} [d : Decidable c] {a b : Option β} {r : β} (h : c) (e : (if c then a else b) = some r) : a = some r := by rw [if_pos h] at e; exact e
theorem it_neg {β : Type} {c : Prop} [d : Decidable c] {a b : Option β} {r : β} (h : ¬ c) (e : (if c then a else b) = some r) : b = some r := by rw [if_neg h] at e; exact e
theorem it_none {β : Type} {c : Prop} [d : Decidable c] {b : Option β} {r : β} (e : (if c then none else b) = some r) : ¬ c ∧ b = some r := by
  by_cases h : c
  · rw [if_pos h] at e; cases e
  · rw [if_neg h] at e; exact ⟨h, e⟩
theorem bo_nar {v : Int32} (h : ¬ ¬ (v = 0 ∨ v = 1)) : narrow .boolean (.int v) = .int v := by
  rcases Classical.not_not.mp h with h | h <;> subst h <;> decide +kernel
theorem bo_fit {v : Int32} (h : ¬ ¬ (v = 0 ∨ v = 1)) : fits .boolean (.int v) = true := by
  rcases Classical.not_not.mp h with h | h <;> subst h <;> decide +kernel
/-! ===== worlds ===== -/
abbrev EV : Type := va_G × (Nat → Nat) × (Nat → ClassId) × Nat
abbrev WD : Type := (EV → SS → va_W) × Nat × (EV → (Nat → Prop) → State → Prop) × (EV → List (ClassId × FieldType))
def aN (n : Nat) (ev : EV) (sz : Nat) : Nat → Prop := fun q => (∃ k, k < n ∧ q = ev.2.1 k) ∨ sz ≤ q
theorem aN_mono {n : Nat} {ev : EV} {a b q : Nat} (h : a ≤ b) (hq : aN n ev b q) : aN n ev a q := hq.elim Or.inl (fun z => Or.inr (Nat.le_trans h z))
theorem aN_lt {n : Nat} {ev : EV} {a b q : Nat} (hl : q < b) (hq : aN n ev b q) : aN n ev a q := hq.elim Or.inl (fun z => absurd z (Nat.not_le.mpr hl))
def wOK (wd : WD) : Prop :=
  (∀ (ev : EV) (A B : Nat → Prop) (s U : State), wd.2.2.1 ev A s → s.WarmedH U.vm → (∀ a : Nat, a < s.heap.size → ¬ A a → U.heap[a]? = s.heap[a]?) → (∀ q, B q → A q) → wd.2.2.1 ev B U) ∧
  (∀ (ev : EV) (A : Nat → Prop) (s U : State), wd.2.2.1 ev A s → s.vm = U.vm → U.heap = s.heap → wd.2.2.1 ev A U) ∧
  (∀ (ev : EV) (u : SS) (k : Nat) (q : Nat × va_E), (wd.1 ev u)[k]? = some q → ∃ j, j < wd.2.1 ∧ q.1 = ev.2.1 j)
def PW (wd : WD) (ev : EV) (sz : Nat) (u : SS) (U : State) : Prop := U.heap.size = sz ∧ va_P ev.1 vwCl (wd.1 ev u) U.heap ∧ va_K ev.1 vwCl (wd.2.2.2 ev) U ∧ va_D (aN wd.2.1 ev sz) (wd.1 ev u) ∧ wd.2.2.1 ev (aN wd.2.1 ev sz) U
def QB (wd : WD) (ev : EV) (sz : Nat) (u : SS) (t : State) : Prop := va_P ev.1 vwCl (wd.1 ev u) t.heap ∧ va_K ev.1 vwCl (wd.2.2.2 ev) t ∧ va_D (aN wd.2.1 ev sz) (wd.1 ev u)
def rmk (d : Nat) : Room := { frames := d, cells := 0, slots := 0, locals := 40 * d }
def MI (wd : WD) (l : Launch) (y : MethodName) (c : ByteArray) (mL : Nat) (rt : Option FieldType) (d : Nat) (ev : EV) (av : List Value) (u : SS) (r : Int32) (u' : SS) : Prop := ∀ sz : Nat, Met l y (Cond.code y c mL rt :: lw_g) (rmk d) (va_Pc av (PW wd ev sz u)) (va_Qi (fun x z => x = r ∧ z = u') (QB wd ev sz) (aN wd.2.1 ev sz)) 0 0 (aN wd.2.1 ev sz)
def ML (wd : WD) (l : Launch) (y : MethodName) (c : ByteArray) (mL : Nat) (rt : Option FieldType) (d : Nat) (ev : EV) (av : List Value) (u : SS) (r : Int64) (u' : SS) : Prop := ∀ sz : Nat, Met l y (Cond.code y c mL rt :: lw_g) (rmk d) (va_Pc av (PW wd ev sz u)) (va_Ql (fun x z => x = r ∧ z = u') (QB wd ev sz) (aN wd.2.1 ev sz)) 0 0 (aN wd.2.1 ev sz)
def MV (wd : WD) (l : Launch) (y : MethodName) (c : ByteArray) (mL : Nat) (rt : Option FieldType) (d : Nat) (ev : EV) (av : List Value) (u : SS) (u' : SS) : Prop := ∀ sz : Nat, Met l y (Cond.code y c mL rt :: lw_g) (rmk d) (va_Pc av (PW wd ev sz u)) (va_Qv (fun z => z = u') (QB wd ev sz) (aN wd.2.1 ev sz)) 0 0 (aN wd.2.1 ev sz)
def VW (wd : WD) (ev : EV) (s : State) (u : SS) (H : Heap) (locs : List Loc) : Prop := va_P ev.1 vwCl (wd.1 ev u) H ∧ va_D (aN wd.2.1 ev s.heap.size) (wd.1 ev u) ∧ va_S (aN wd.2.1 ev s.heap.size) s.heap H locs
theorem VW.nm {wd : WD} {ev : EV} {s : State} {u v : SS} {H : Heap} {locs : List Loc} (e : v = u) (h : VW wd ev s u H locs) : VW wd ev s v H locs := e ▸ h
def CX (wd : WD) (ev : EV) (p : Program) (s : State) (m : MethodId) (c : Code) (cc : ByteArray) (nL : Nat) (own : String) (args : Array Value) : Prop := p.tables.exec = Jvm.exec ∧ c.code = cc ∧ c.maxLocals = nL ∧ s.vm.findClass own = some m.cls ∧ (∀ w ∈ lw_g, w.before args s = true) ∧ va_K ev.1 vwCl (wd.2.2.2 ev) s ∧ wd.2.2.1 ev (aN wd.2.1 ev s.heap.size) s
def ZI (wd : WD) (ev : EV) (s : State) (below : List Frame) (a : Array Value) (r : Int32) (u' : SS) : State → Prop := MQ below (va_Qi (fun x z => x = r ∧ z = u') (QB wd ev s.heap.size) (aN wd.2.1 ev s.heap.size)) a s 0 0 (aN wd.2.1 ev s.heap.size)
def ZL (wd : WD) (ev : EV) (s : State) (below : List Frame) (a : Array Value) (r : Int64) (u' : SS) : State → Prop := MQ below (va_Ql (fun x z => x = r ∧ z = u') (QB wd ev s.heap.size) (aN wd.2.1 ev s.heap.size)) a s 0 0 (aN wd.2.1 ev s.heap.size)
def ZV (wd : WD) (ev : EV) (s : State) (below : List Frame) (a : Array Value) (u' : SS) : State → Prop := MQ below (va_Qv (fun z => z = u') (QB wd ev s.heap.size) (aN wd.2.1 ev s.heap.size)) a s 0 0 (aN wd.2.1 ev s.heap.size)
/-! ===== a method's body ===== -/
section BODY
variable {wd : WD} {l : Launch} {y : MethodName} {c : ByteArray} {mL d : Nat} {rt : Option FieldType} {ev : EV} {av : List Value} {u u' : SS} {own : String}
theorem bodyI {r : Int32} (hy : plainName y.cls = true) (ho : y.cls = own) (hn : (lg_sl av).length ≤ mL)
    (body : ∀ (p : Program) (e : Env) (s : State) (m : MethodId) (below : List Frame) (meth : Method) (cd : Code) (ls : Array Slot) (H : Heap) (locs : List Loc), CX wd ev p s m cd c mL own av.toArray → meth.sig.returnType = rt → meth.locks = false → VW wd ev s u H locs → lv_has ls mL (lv_args 0 av) →
      W p l e (rmk d) s m av.toArray below meth cd H locs 0 0 (ZI wd ev s below av.toArray r u') (F0 m 0 ls [])) : MI wd l y c mL rt d ev av u r u' := by
  intro sz
  refine Met.ofW (cc := c) (maxL := mL) (ret := rt) hy rfl ?_
  intro p e s m args below meth cd s₁ B hml hv
  obtain ⟨rfl, rfl, hP, hK, hD, hZ⟩ := hv
  have hts := atoms_spec (ws := Cond.code y c mL rt :: lw_g) B.pre
  rw [lg_entry_eq]
  exact body p e s m below meth cd _ s.heap [] ⟨B.exec, B.bytes, hml, ho ▸ findClass_of_methodNamed B.named, fun w h => hts w (List.mem_cons_of_mem _ h), hK, hZ⟩ B.returns B.notSynchronized ⟨hP, hD, va_S.rf⟩ (lv_entry av hn)
theorem bodyL {r : Int64} (hy : plainName y.cls = true) (ho : y.cls = own) (hn : (lg_sl av).length ≤ mL)
    (body : ∀ (p : Program) (e : Env) (s : State) (m : MethodId) (below : List Frame) (meth : Method) (cd : Code) (ls : Array Slot) (H : Heap) (locs : List Loc), CX wd ev p s m cd c mL own av.toArray → meth.sig.returnType = rt → meth.locks = false → VW wd ev s u H locs → lv_has ls mL (lv_args 0 av) →
      W p l e (rmk d) s m av.toArray below meth cd H locs 0 0 (ZL wd ev s below av.toArray r u') (F0 m 0 ls [])) : ML wd l y c mL rt d ev av u r u' := by
  intro sz
  refine Met.ofW (cc := c) (maxL := mL) (ret := rt) hy rfl ?_
  intro p e s m args below meth cd s₁ B hml hv
  obtain ⟨rfl, rfl, hP, hK, hD, hZ⟩ := hv
  have hts := atoms_spec (ws := Cond.code y c mL rt :: lw_g) B.pre
  rw [lg_entry_eq]
  exact body p e s m below meth cd _ s.heap [] ⟨B.exec, B.bytes, hml, ho ▸ findClass_of_methodNamed B.named, fun w h => hts w (List.mem_cons_of_mem _ h), hK, hZ⟩ B.returns B.notSynchronized ⟨hP, hD, va_S.rf⟩ (lv_entry av hn)
theorem bodyV (hy : plainName y.cls = true) (ho : y.cls = own) (hn : (lg_sl av).length ≤ mL)
    (body : ∀ (p : Program) (e : Env) (s : State) (m : MethodId) (below : List Frame) (meth : Method) (cd : Code) (ls : Array Slot) (H : Heap) (locs : List Loc), CX wd ev p s m cd c mL own av.toArray → meth.sig.returnType = rt → meth.locks = false → VW wd ev s u H locs → lv_has ls mL (lv_args 0 av) →
      W p l e (rmk d) s m av.toArray below meth cd H locs 0 0 (ZV wd ev s below av.toArray u') (F0 m 0 ls [])) : MV wd l y c mL rt d ev av u u' := by
  intro sz
  refine Met.ofW (cc := c) (maxL := mL) (ret := rt) hy rfl ?_
  intro p e s m args below meth cd s₁ B hml hv
  obtain ⟨rfl, rfl, hP, hK, hD, hZ⟩ := hv
  have hts := atoms_spec (ws := Cond.code y c mL rt :: lw_g) B.pre
  rw [lg_entry_eq]
  exact body p e s m below meth cd _ s.heap [] ⟨B.exec, B.bytes, hml, ho ▸ findClass_of_methodNamed B.named, fun w h => hts w (List.mem_cons_of_mem _ h), hK, hZ⟩ B.returns B.notSynchronized ⟨hP, hD, va_S.rf⟩ (lv_entry av hn)
end BODY
/-! ===== ends, calls ===== -/
section ROWS
variable {wd : WD} {ev : EV} {p : Program} {l : Launch} {e : Env} {R : Room} {s : State} {m : MethodId} {args : Array Value} {below : List Frame} {meth : Method} {c : Code} {cc : ByteArray} {nL : Nat} {own : String} {H : Heap} {locs : List Loc} {Q : State → Prop} {pc : Nat} {ls : Array Slot} {u u' u1 : SS} {kc ks : Nat}
theorem tope {rest : List Value} {x x' : Int32} (h : x' = x) (k : W p l e R s m args below meth c H locs kc ks Q (F0 m pc ls (.int x' :: rest))) : W p l e R s m args below meth c H locs kc ks Q (F0 m pc ls (.int x :: rest)) := h ▸ k
theorem topel {rest : List Value} {x x' : Int64} (h : x' = x) (k : W p l e R s m args below meth c H locs kc ks Q (F0 m pc ls (.long x' :: rest))) : W p l e R s m args below meth c H locs kc ks Q (F0 m pc ls (.long x :: rest)) := h ▸ k
theorem retI {r v : Int32} (hc : CX wd ev p s m c cc nL own args) (hr : meth.sig.returnType = some .int) (hlk : meth.locks = false) (hw : VW wd ev s u H locs) (hf : (some (v, u) : Option (Int32 × SS)) = some (r, u')) (hd : decode cc pc = .ok (.ireturn, 1)) : W p l e R s m args below meth c H locs 0 0 (ZI wd ev s below args r u') (F0 m pc ls [.int v]) := by
  obtain ⟨rfl, rfl⟩ := Prod.mk.inj (Option.some.inj hf)
  exact W.iret hc.1 hc.2.1 hr (fun t ht hW => ⟨⟨v, u, rfl, ⟨rfl, rfl⟩, by rw [ht]; exact hw.1, va_K.moved hW.alike hc.2.2.2.2.2.1, hw.2.1⟩, hw.2.2.F ht⟩) hw.2.2.2.2 hd hlk
theorem retZ {r v : Int32} (hc : CX wd ev p s m c cc nL own args) (hr : meth.sig.returnType = some .boolean) (hlk : meth.locks = false) (hw : VW wd ev s u H locs) (hn : narrow .boolean (.int v) = .int v) (hf : (some (v, u) : Option (Int32 × SS)) = some (r, u')) (hd : decode cc pc = .ok (.ireturn, 1)) : W p l e R s m args below meth c H locs 0 0 (ZI wd ev s below args r u') (F0 m pc ls [.int v]) := by
  obtain ⟨rfl, rfl⟩ := Prod.mk.inj (Option.some.inj hf)
  exact W.zret hc.1 hc.2.1 hr hn (fun t ht hW => ⟨⟨v, u, rfl, ⟨rfl, rfl⟩, by rw [ht]; exact hw.1, va_K.moved hW.alike hc.2.2.2.2.2.1, hw.2.1⟩, hw.2.2.F ht⟩) hw.2.2.2.2 hd hlk
theorem retL {r v : Int64} (hc : CX wd ev p s m c cc nL own args) (hr : meth.sig.returnType = some .long) (hlk : meth.locks = false) (hw : VW wd ev s u H locs) (hf : (some (v, u) : Option (Int64 × SS)) = some (r, u')) (hd : decode cc pc = .ok (.lreturn, 1)) : W p l e R s m args below meth c H locs 0 0 (ZL wd ev s below args r u') (F0 m pc ls [.long v]) := by
  obtain ⟨rfl, rfl⟩ := Prod.mk.inj (Option.some.inj hf)
  exact W.lret hc.1 hc.2.1 hr (fun t ht hW => ⟨⟨v, u, rfl, ⟨rfl, rfl⟩, by rw [ht]; exact hw.1, va_K.moved hW.alike hc.2.2.2.2.2.1, hw.2.1⟩, hw.2.2.F ht⟩) hw.2.2.2.2 hd hlk
theorem retV (hc : CX wd ev p s m c cc nL own args) (hr : meth.sig.returnType = none) (hlk : meth.locks = false) (hw : VW wd ev s u H locs) (hf : (some u : Option SS) = some u') (hd : decode cc pc = .ok (.return_, 1)) : W p l e R s m args below meth c H locs 0 0 (ZV wd ev s below args u') (F0 m pc ls []) := by
  obtain rfl := Option.some.inj hf
  exact W.vret hc.1 hc.2.1 hr (fun t ht hW => ⟨⟨u, rfl, rfl, by rw [ht]; exact hw.1, va_K.moved hW.alike hc.2.2.2.2.2.1, hw.2.1⟩, hw.2.2.F ht⟩) hw.2.2.2.2 hd hlk
/-- what a callee needs: its words -/
def lkV (y : MethodName) (bytes : ByteArray) (maxL : Nat) (rt : Option FieldType) (n : Nat) : Prop := Cond.instanceMethod y ∈ lw_g ∧ Cond.selects y.cls y y ∈ lw_g ∧ Cond.initialized y.cls ∈ lw_g ∧ Cond.code y bytes maxL rt ∈ lw_g ∧ (y.cls ≠ "java/lang/invoke/MethodHandle" ∧ y.cls ≠ "java/lang/invoke/VarHandle" ∧ (parseMethodDescriptor y.desc).map (fun d => d.parameters.length) = some n)
def lkS (y : MethodName) (bytes : ByteArray) (maxL : Nat) (rt : Option FieldType) (n : Nat) : Prop := Cond.static y ∈ lw_g ∧ Cond.initialized y.cls ∈ lw_g ∧ Cond.code y bytes maxL rt ∈ lw_g ∧ (y.cls ≠ "java/lang/invoke/MethodHandle" ∧ y.cls ≠ "java/lang/invoke/VarHandle" ∧ (parseMethodDescriptor y.desc).map (fun d => d.parameters.length) = some n)
def RV (wd : WD) (ev : EV) (u : SS) (b : Nat) (C : String) : Prop := ∃ (q0 ci : Nat) (fs : List Value) (q : vw_C), (wd.1 ev u)[q0]? = some (b, .inr (ci, fs)) ∧ vwCl[ci]? = some q ∧ q.1 = C
theorem PW_blind (ok : wOK wd) {sz : Nat} {av : List Value} : FrameBlind (va_Pc av (PW wd ev sz u)) := by
  intro a U g mk q
  obtain ⟨q0, q1, qP, qK, qD, qZ⟩ := q
  exact ⟨q0, q1, qP, va_K.moved (u := U) (U := U.calling g mk a) (Vm.Alike.refl U.vm) qK, qD, ok.2.1 ev _ U _ qZ rfl rfl⟩
theorem PW_at (ok : wOK wd) (hc : CX wd ev p s m c cc nL own args) (hw : VW wd ev s u H locs) {U : State} (hU : U.heap = H) (hW : s.WarmedH U.vm) : PW wd ev H.size u U := by
  refine ⟨by rw [hU], by rw [hU]; exact hw.1, va_K.moved hW.alike hc.2.2.2.2.2.1, ⟨hw.2.1.1, fun k q hk => ?_⟩, ok.1 ev _ _ s U hc.2.2.2.2.2.2 hW (fun a h1 h2 => by rw [hU]; exact hw.2.2.2.1 a h1 h2) (fun q hq => aN_mono hw.2.2.1 hq)⟩
  obtain ⟨j, hj, e⟩ := ok.2.2 ev u k q hk
  exact Or.inl ⟨j, hj, e⟩
theorem VW_back (ok : wOK wd) (hw : VW wd ev s u H locs) {t : State} {H1 : Heap} {locs1 : List Loc} (ht : t.heap = H1) (hB : QB wd ev H.size u1 t) (hS : va_S (aN wd.2.1 ev s.heap.size) s.heap H1 locs1) : VW wd ev s u1 H1 locs1 := by
  refine ⟨by rw [← ht]; exact hB.1, ⟨hB.2.2.1, fun k q hk => ?_⟩, hS⟩
  obtain ⟨j, hj, e⟩ := ok.2.2 ev u1 k q hk
  exact Or.inl ⟨j, hj, e⟩
variable {y : MethodName} {bytes : ByteArray} {maxL d n index : Nat} {rt : Option FieldType} {b : Nat} {As rest stk : List Value}
theorem runV_ok {Qc : Array Value → State → Outcome → State → Prop} (ok : wOK wd) (hc : CX wd ev p s m c cc nL own args) (hw : VW wd ev s u H locs) (hM : Met l y (Cond.code y bytes maxL rt :: lw_g) (rmk d) (va_Pc (.ref b :: As) (PW wd ev H.size u)) Qc 0 0 (aN wd.2.1 ev H.size)) (hk : lkV y bytes maxL rt n) (hl : Cond.methodLink own index y ∈ lw_g) (hv : RV wd ev u b y.cls) (hsz : ls.size = nL) (hn : As.length = n) (hst : stk = As.reverse ++ .ref b :: rest) (hrm : (rest.map fun v => v.category).sum ≤ 8) (hR : (rmk d).frames + 1 ≤ R.frames ∧ 8 + (maxL + 11) + (rmk d).locals ≤ R.locals) (hd : decode cc pc = .ok (.invokevirtual index, 3)) :
    va_Run p l e R s m args below meth c H locs 0 0 0 0 (F0 m pc ls stk) rest (Qc (Value.ref b :: As).toArray) (aN wd.2.1 ev H.size) := by
  obtain ⟨h1, h2, h3, h4, h5⟩ := hk
  obtain ⟨q0, ci, fs, q, g1, g2, g3⟩ := hv
  have hcw : CallW R s args own y.cls index y bytes maxL rt (Cond.code y bytes maxL rt :: lw_g) (rmk d) 0 0 n :=
    cwV n hc.2.2.2.2.1 (good_1 hl (good_1 h1 (good_1 h2 (good_1 h3 (good_1 h4 good_g))))) rfl rfl rfl ⟨rfl, h5⟩ hR
  exact va_runV (As := As) (rest := rest) ⟨hc.1, hc.2.1, hc.2.2.1, hc.2.2.2.1, hc.2.2.2.2.1⟩ hM hcw ⟨PW_blind ok, g3 ▸ va_recv hc.2.2.2.2.2.1 hw.1 g2 g1, fun U hU hW => ⟨rfl, PW_at ok hc hw hU hW⟩⟩ rfl hn hsz hst (lv_room hrm) hd ⟨Nat.zero_le _, Nat.zero_le _⟩
theorem runS_ok {Qc : Array Value → State → Outcome → State → Prop} (ok : wOK wd) (hc : CX wd ev p s m c cc nL own args) (hw : VW wd ev s u H locs) (hM : Met l y (Cond.code y bytes maxL rt :: lw_g) (rmk d) (va_Pc As (PW wd ev H.size u)) Qc 0 0 (aN wd.2.1 ev H.size)) (hk : lkS y bytes maxL rt n) (hl : Cond.methodLink own index y ∈ lw_g) (hsz : ls.size = nL) (hn : As.length = n) (hst : stk = As.reverse ++ rest) (hrm : (rest.map fun v => v.category).sum ≤ 8) (hR : (rmk d).frames + 1 ≤ R.frames ∧ 8 + (maxL + 11) + (rmk d).locals ≤ R.locals) (hd : decode cc pc = .ok (.invokestatic index, 3)) :
    va_Run p l e R s m args below meth c H locs 0 0 0 0 (F0 m pc ls stk) rest (Qc As.toArray) (aN wd.2.1 ev H.size) := by
  obtain ⟨h1, h3, h4, h5⟩ := hk
  have hcw := va_cwS (R := R) (own := own) (index := index) (rm := rmk d) (ret := rt) (maxL := maxL) (bytes := bytes) (mc := 0) (ms := 0) (ws := Cond.code y bytes maxL rt :: lw_g) n hc.2.2.2.2.1 (good_1 hl (good_1 h1 (good_1 h3 (good_1 h4 good_g)))) rfl rfl rfl h5 hR
  exact va_runS (As := As) (rest := rest) ⟨hc.1, hc.2.1, hc.2.2.1, hc.2.2.2.1, hc.2.2.2.2.1⟩ hM hcw ⟨PW_blind ok, fun U hU hW => ⟨rfl, PW_at ok hc hw hU hW⟩⟩ rfl hn hsz hst (lv_room hrm) hd ⟨Nat.zero_le _, Nat.zero_le _⟩
theorem runN_ok {Qc : Array Value → State → Outcome → State → Prop} {host : String} (ok : wOK wd) (hc : CX wd ev p s m c cc nL own args) (hw : VW wd ev s u H locs) (hM : Met l y (Cond.code y bytes maxL rt :: lw_g) (rmk d) (va_Pc As (PW wd ev H.size u)) Qc 0 0 (aN wd.2.1 ev H.size)) (hk : lkS y bytes maxL rt n) (hl : va_Nw (.methodLinkNest own index y host) s) (hsz : ls.size = nL) (hn : As.length = n) (hst : stk = As.reverse ++ rest) (hrm : (rest.map fun v => v.category).sum ≤ 8) (hR : (rmk d).frames + 1 ≤ R.frames ∧ 8 + (maxL + 11) + (rmk d).locals ≤ R.locals) (hd : decode cc pc = .ok (.invokestatic index, 3)) :
    va_Run p l e R s m args below meth c H locs 0 0 0 0 (F0 m pc ls stk) rest (Qc As.toArray) (aN wd.2.1 ev H.size) := by
  obtain ⟨h1, h3, h4, h5⟩ := hk
  exact va_runSN (As := As) (rest := rest) (host := host) ⟨hc.1, hc.2.1, hc.2.2.1, hc.2.2.2.1, hc.2.2.2.2.1⟩ hM ⟨va_cnB (ret := rt) n hc.2.2.2.2.1 (good_1 h4 good_g) rfl rfl rfl hl (hc.2.2.2.2.1 _ h3) h5 hR, hc.2.2.2.2.1 _ h1, trivial⟩ ⟨PW_blind ok, fun U hU hW => ⟨rfl, PW_at ok hc hw hU hW⟩⟩ rfl hn hsz hst (lv_room hrm) hd ⟨Nat.zero_le _, Nat.zero_le _⟩
theorem endI {r : Int32} {a : Array Value} (ok : wOK wd) (hw : VW wd ev s u H locs) (hr : va_Run p l e R s m args below meth c H locs 0 0 0 0 (F0 m pc ls stk) rest (va_Qi (fun x z => x = r ∧ z = u1) (QB wd ev H.size) (aN wd.2.1 ev H.size) a) (aN wd.2.1 ev H.size)) (k : ∀ (H1 : Heap) (locs1 : List Loc), VW wd ev s u1 H1 locs1 → W p l e R s m args below meth c H1 locs1 0 0 Q (F0 m (pc + 3) ls (.int r :: rest))) : W p l e R s m args below meth c H locs 0 0 Q (F0 m pc ls stk) := by
  refine va_calli hr hw.2.2 (fun q h1 h2 => aN_lt h1 h2) (fun q h => aN_mono hw.2.2.1 h) (fun x z t H1 locs1 ht hvm hp hB hz hk hS => ?_)
  obtain ⟨rfl, rfl⟩ := hp
  exact k H1 locs1 (VW_back ok hw ht hB hS)
theorem endL {r : Int64} {a : Array Value} (ok : wOK wd) (hw : VW wd ev s u H locs) (hr : va_Run p l e R s m args below meth c H locs 0 0 0 0 (F0 m pc ls stk) rest (va_Ql (fun x z => x = r ∧ z = u1) (QB wd ev H.size) (aN wd.2.1 ev H.size) a) (aN wd.2.1 ev H.size)) (k : ∀ (H1 : Heap) (locs1 : List Loc), VW wd ev s u1 H1 locs1 → W p l e R s m args below meth c H1 locs1 0 0 Q (F0 m (pc + 3) ls (.long r :: rest))) : W p l e R s m args below meth c H locs 0 0 Q (F0 m pc ls stk) := by
  refine va_calll hr hw.2.2 (fun q h1 h2 => aN_lt h1 h2) (fun q h => aN_mono hw.2.2.1 h) (fun x z t H1 locs1 ht hvm hp hB hz hk hS => ?_)
  obtain ⟨rfl, rfl⟩ := hp
  exact k H1 locs1 (VW_back ok hw ht hB hS)
theorem endV {a : Array Value} (ok : wOK wd) (hw : VW wd ev s u H locs) (hr : va_Run p l e R s m args below meth c H locs 0 0 0 0 (F0 m pc ls stk) rest (va_Qv (fun z => z = u1) (QB wd ev H.size) (aN wd.2.1 ev H.size) a) (aN wd.2.1 ev H.size)) (k : ∀ (H1 : Heap) (locs1 : List Loc), VW wd ev s u1 H1 locs1 → W p l e R s m args below meth c H1 locs1 0 0 Q (F0 m (pc + 3) ls rest)) : W p l e R s m args below meth c H locs 0 0 Q (F0 m pc ls stk) := by
  refine va_callv hr hw.2.2 (fun q h1 h2 => aN_lt h1 h2) (fun q h => aN_mono hw.2.2.1 h) (fun z t H1 locs1 ht hvm hp hB hz hk hS => ?_)
  obtain rfl := hp
  exact k H1 locs1 (VW_back ok hw ht hB hS)
end ROWS
