def wF288 (ev : EV) (u : SS) : va_W := [(ev.2.1 0, .inl (ev.2.2.1 0, 288, .inl (gA u 0)))]
def zF288 (_ : EV) (_ : Nat → Prop) (_ : State) : Prop := True
def tylF288 (ev : EV) : List (ClassId × FieldType) := [(ev.2.2.1 0, .int)]
abbrev wdF288 : WD := (wF288, 1, zF288, tylF288)
theorem adF288 (ev : EV) (u : SS) (k : Nat) (q : Nat × va_E) (h : (wF288 ev u)[k]? = some q) : ∃ j, j < 1 ∧ q.1 = ev.2.1 j := by
  have e : (wF288 ev u).map (fun q => q.1) = (List.range 1).map ev.2.1 := rfl
  have h1 : ((wF288 ev u).map (fun q => q.1))[k]? = some q.1 := by rw [List.getElem?_map, h]; rfl
  rw [e, List.getElem?_map] at h1
  cases hr : (List.range 1)[k]? with
  | none => rw [hr] at h1; cases h1
  | some j =>
    rw [hr] at h1
    exact ⟨j, List.mem_range.mp (List.mem_of_getElem? hr), (Option.some.inj h1).symm⟩
theorem okF288 : wOK wdF288 := ⟨fun _ _ _ _ _ _ _ _ _ => trivial, fun _ _ _ _ _ _ _ => trivial, adF288⟩
section FLDF288
variable {ev : EV} {p : Program} {l : Launch} {e : Env} {R : Room} {s : State} {m : MethodId} {args : Array Value} {below : List Frame} {meth : Method} {c : Code} {cc : ByteArray} {nL index : Nat} {own : String} {H : Heap} {locs : List Loc} {Q : State → Prop} {pc : Nat} {ls : Array Slot} {u : SS} {rest : List Value} {kc ks : Nat}
theorem aF2880 {i : Int32} (hc : CX wdF288 ev p s m c cc nL own args) (hw : VW wdF288 ev s u H locs) (hin : vp_in i 288) (hd : decode cc pc = .ok (.iaload, 1)) (k : W p l e R s m args below meth c H locs kc ks Q (F0 m (pc + 1) ls (.int (gA u 0 i.toNatClampNeg) :: rest))) : W p l e R s m args below meth c H locs kc ks Q (F0 m pc ls (.int i :: .ref (ev.2.1 0) :: rest)) :=
  va_iald (D := ev.1) (cl := vwCl) (tys := tylF288 ev) (ws := wF288 ev u) hc.1 hc.2.1 hc.2.2.2.2.2.1 hw.1 0 0 rfl rfl hin hd k
theorem tF2880 {i : Int32} {x : Int32} (hc : CX wdF288 ev p s m c cc nL own args) (hw : VW wdF288 ev s u H locs) (hin : vp_in i 288) (hd : decode cc pc = .ok (.iastore, 1)) (k : ∀ (H1 : Heap) (locs1 : List Loc), VW wdF288 ev s (tA u 0 i x) H1 locs1 → W p l e R s m args below meth c H1 locs1 kc ks Q (F0 m (pc + 1) ls rest)) : W p l e R s m args below meth c H locs kc ks Q (F0 m pc ls (.int x :: .int i :: .ref (ev.2.1 0) :: rest)) :=
  va_iast (D := ev.1) (cl := vwCl) (tys := tylF288 ev) (ws := wF288 ev u) hc.1 hc.2.1 hc.2.2.2.2.2.1 hw.1 hw.2.1 hw.2.2 0 0 rfl rfl hin hd (fun H1 locs1 hP hD hS => k H1 locs1 ⟨hP, hD, hS⟩)
theorem nF2880 (hc : CX wdF288 ev p s m c cc nL own args) (hw : VW wdF288 ev s u H locs) (hd : decode cc pc = .ok (.arraylength, 1)) (k : W p l e R s m args below meth c H locs kc ks Q (F0 m (pc + 1) ls (.int (288 : Int32) :: rest))) : W p l e R s m args below meth c H locs kc ks Q (F0 m pc ls (.ref (ev.2.1 0) :: rest)) :=
  va_alen (D := ev.1) (cl := vwCl) (tys := tylF288 ev) (ws := wF288 ev u) hc.1 hc.2.1 hc.2.2.2.2.2.1 hw.1 0 0 rfl rfl rfl hd k
end FLDF288
