def wF8 (ev : EV) (u : SS) : va_W := [(ev.2.1 0, .inl (ev.2.2.1 0, 8, .inl (gA u 0)))]
def zF8 (_ : EV) (_ : Nat → Prop) (_ : State) : Prop := True
def tylF8 (ev : EV) : List (ClassId × FieldType) := [(ev.2.2.1 0, .int)]
abbrev wdF8 : WD := (wF8, 1, zF8, tylF8)
theorem adF8 (ev : EV) (u : SS) (k : Nat) (q : Nat × va_E) (h : (wF8 ev u)[k]? = some q) : ∃ j, j < 1 ∧ q.1 = ev.2.1 j := by
  have e : (wF8 ev u).map (fun q => q.1) = (List.range 1).map ev.2.1 := rfl
  have h1 : ((wF8 ev u).map (fun q => q.1))[k]? = some q.1 := by rw [List.getElem?_map, h]; rfl
  rw [e, List.getElem?_map] at h1
  cases hr : (List.range 1)[k]? with
  | none => rw [hr] at h1; cases h1
  | some j =>
    rw [hr] at h1
    exact ⟨j, List.mem_range.mp (List.mem_of_getElem? hr), (Option.some.inj h1).symm⟩
theorem okF8 : wOK wdF8 := ⟨fun _ _ _ _ _ _ _ _ _ => trivial, fun _ _ _ _ _ _ _ => trivial, adF8⟩
section FLDF8
variable {ev : EV} {p : Program} {l : Launch} {e : Env} {R : Room} {s : State} {m : MethodId} {args : Array Value} {below : List Frame} {meth : Method} {c : Code} {cc : ByteArray} {nL index : Nat} {own : String} {H : Heap} {locs : List Loc} {Q : State → Prop} {pc : Nat} {ls : Array Slot} {u : SS} {rest : List Value} {kc ks : Nat}
theorem aF80 {i : Int32} (hc : CX wdF8 ev p s m c cc nL own args) (hw : VW wdF8 ev s u H locs) (hin : vp_in i 8) (hd : decode cc pc = .ok (.iaload, 1)) (k : W p l e R s m args below meth c H locs kc ks Q (F0 m (pc + 1) ls (.int (gA u 0 i.toNatClampNeg) :: rest))) : W p l e R s m args below meth c H locs kc ks Q (F0 m pc ls (.int i :: .ref (ev.2.1 0) :: rest)) :=
  va_iald (D := ev.1) (cl := vwCl) (tys := tylF8 ev) (ws := wF8 ev u) hc.1 hc.2.1 hc.2.2.2.2.2.1 hw.1 0 0 rfl rfl hin hd k
theorem tF80 {i : Int32} {x : Int32} (hc : CX wdF8 ev p s m c cc nL own args) (hw : VW wdF8 ev s u H locs) (hin : vp_in i 8) (hd : decode cc pc = .ok (.iastore, 1)) (k : ∀ (H1 : Heap) (locs1 : List Loc), VW wdF8 ev s (tA u 0 i x) H1 locs1 → W p l e R s m args below meth c H1 locs1 kc ks Q (F0 m (pc + 1) ls rest)) : W p l e R s m args below meth c H locs kc ks Q (F0 m pc ls (.int x :: .int i :: .ref (ev.2.1 0) :: rest)) :=
  va_iast (D := ev.1) (cl := vwCl) (tys := tylF8 ev) (ws := wF8 ev u) hc.1 hc.2.1 hc.2.2.2.2.2.1 hw.1 hw.2.1 hw.2.2 0 0 rfl rfl hin hd (fun H1 locs1 hP hD hS => k H1 locs1 ⟨hP, hD, hS⟩)
theorem nF80 (hc : CX wdF8 ev p s m c cc nL own args) (hw : VW wdF8 ev s u H locs) (hd : decode cc pc = .ok (.arraylength, 1)) (k : W p l e R s m args below meth c H locs kc ks Q (F0 m (pc + 1) ls (.int (8 : Int32) :: rest))) : W p l e R s m args below meth c H locs kc ks Q (F0 m pc ls (.ref (ev.2.1 0) :: rest)) :=
  va_alen (D := ev.1) (cl := vwCl) (tys := tylF8 ev) (ws := wF8 ev u) hc.1 hc.2.1 hc.2.2.2.2.2.1 hw.1 0 0 rfl rfl rfl hd k
end FLDF8
