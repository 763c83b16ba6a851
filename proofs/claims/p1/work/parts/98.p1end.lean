def Rel1 : Nat → SS → SS → Prop
  | 0, u, v => u = uB0 ∧ v = uM0
  | _ + 1, _, _ => True
theorem p1_steps : LawSteps 10 Rel1 :=
  ⟨fun k u v z1 hk h => by
    obtain rfl : k = 0 := by omega
    obtain ⟨rfl, rfl⟩ := h
    exact q_time z1,
  fun k u v z1 z2 hk h => by
    obtain rfl : k = 0 := by omega
    obtain ⟨rfl, rfl⟩ := h
    exact q_rate z1 z2,
  fun k u v z1 hk h => by
    obtain rfl : k = 0 := by omega
    obtain ⟨rfl, rfl⟩ := h
    exact q_lots z1,
  fun k u v z1 hk h => by
    obtain rfl : k = 0 := by omega
    obtain ⟨rfl, rfl⟩ := h
    exact q_closing z1,
  fun k u v z1 z2 z3 z4 z5 z6 z7 z8 z9 hk h => by
    obtain rfl : k = 0 := by omega
    obtain ⟨rfl, rfl⟩ := h
    exact q_bid z1 z2 z3 z4 z5 z6 z7 z8 z9,
  fun k u v z1 z2 hk h => by
    obtain rfl : k = 0 := by omega
    obtain ⟨rfl, rfl⟩ := h
    exact q_withdraw z1 z2,
  fun k u v z1 z2 hk h => by
    obtain rfl : k = 0 := by omega
    obtain ⟨rfl, rfl⟩ := h
    exact q_set z1 z2,
  fun k u v z1 z2 hk h => by
    obtain rfl : k = 0 := by omega
    obtain ⟨rfl, rfl⟩ := h
    exact q_price z1 z2,
  fun k u v z1 z2 z3 z4 hk h => by
    obtain rfl : k = 0 := by omega
    obtain ⟨rfl, rfl⟩ := h
    exact q_note z1 z2 z3 z4,
  fun k u v z1 z2 z3 hk h hz => by
    obtain rfl : k = 0 := by omega
    obtain ⟨rfl, rfl⟩ := h
    exact q_bar z1 z2 z3,
  fun k u v z1 z2 z3 hk h => by
    obtain rfl : k = 0 := by omega
    obtain ⟨rfl, rfl⟩ := h
    exact q_quality z1 z2 z3,
  fun k u v z1 z2 hk h => by
    obtain rfl : k = 0 := by omega
    obtain ⟨rfl, rfl⟩ := h
    exact q_feed z1 z2,
  fun k u v hk h => by
    obtain rfl : k = 0 := by omega
    obtain ⟨rfl, rfl⟩ := h
    exact q_formula,
  fun k u v z1 z2 z3 hk h => by
    obtain rfl : k = 0 := by omega
    obtain ⟨rfl, rfl⟩ := h
    exact q_points z1 z2 z3,
  fun k u v z1 z2 hk h => by
    obtain rfl : k = 0 := by omega
    obtain ⟨rfl, rfl⟩ := h
    exact q_order z1 z2,
  fun k u v z1 z2 z3 z4 hk h => by
    obtain rfl : k = 0 := by omega
    obtain ⟨rfl, rfl⟩ := h
    exact q_gain z1 z2 z3 z4,
  fun k u v z1 z2 z3 hk h => by
    obtain rfl : k = 0 := by omega
    obtain ⟨rfl, rfl⟩ := h
    exact q_turned z1 z2 z3,
  fun k u v z1 z2 hk h => by
    obtain rfl : k = 0 := by omega
    obtain ⟨rfl, rfl⟩ := h
    exact q_low z1 z2,
  fun k u v z1 z2 z3 hk h => by
    obtain rfl : k = 0 := by omega
    obtain ⟨rfl, rfl⟩ := h
    exact q_ask z1 z2 z3,
  fun k u v z1 z2 hk h => by
    obtain rfl : k = 0 := by omega
    obtain ⟨rfl, rfl⟩ := h
    exact q_answer z1 z2,
  fun k u v z1 z2 z3 hk h hz => by
    obtain rfl : k = 0 := by omega
    obtain ⟨rfl, rfl⟩ := h
    exact q_out z1 z2 z3 hz,
  fun k u v z1 z2 hk h => by
    obtain rfl : k = 0 := by omega
    obtain ⟨rfl, rfl⟩ := h
    exact q_most z1 z2,
  fun k u v z1 z2 z3 hk h => by
    obtain rfl : k = 0 := by omega
    obtain ⟨rfl, rfl⟩ := h
    exact q_rebate z1 z2 z3,
  fun k u v z1 hk h => by
    obtain rfl : k = 0 := by omega
    obtain ⟨rfl, rfl⟩ := h
    exact q_whole z1,
  fun k u v z1 hk h => by
    obtain rfl : k = 0 := by omega
    obtain ⟨rfl, rfl⟩ := h
    exact q_winner z1,
  fun k u v z1 hk h => by
    obtain rfl : k = 0 := by omega
    obtain ⟨rfl, rfl⟩ := h
    exact q_award z1,
  fun k u v z1 hk h => by
    obtain rfl : k = 0 := by omega
    obtain ⟨rfl, rfl⟩ := h
    exact q_awarded z1,
  fun k u v z1 z2 hk h => by
    obtain rfl : k = 0 := by omega
    obtain ⟨rfl, rfl⟩ := h
    exact q_challenge z1 z2,
  fun k u v z1 z2 hk h hz => by
    obtain rfl : k = 0 := by omega
    obtain ⟨rfl, rfl⟩ := h
    exact q_judge z1 z2,
  fun k u v hk h => by
    obtain rfl : k = 0 := by omega
    obtain ⟨rfl, rfl⟩ := h
    exact q_sign,
  fun k u v z1 z2 hk h => by
    obtain rfl : k = 0 := by omega
    obtain ⟨rfl, rfl⟩ := h
    exact q_change z1 z2,
  fun k u v z1 z2 z3 hk h => by
    obtain rfl : k = 0 := by omega
    obtain ⟨rfl, rfl⟩ := h
    exact q_likeness z1 z2 z3,
  fun k u v z1 z2 z3 hk h => by
    obtain rfl : k = 0 := by omega
    obtain ⟨rfl, rfl⟩ := h
    exact q_chance z1 z2 z3,
  fun k u v z1 z2 hk h => by
    obtain rfl : k = 0 := by omega
    obtain ⟨rfl, rfl⟩ := h
    exact q_ring z1 z2,
  fun k u v z1 z2 hk h => by
    obtain rfl : k = 0 := by omega
    obtain ⟨rfl, rfl⟩ := h
    exact q_join z1 z2,
  fun k u v z1 hk h => by
    obtain rfl : k = 0 := by omega
    obtain ⟨rfl, rfl⟩ := h
    exact q_call z1,
  fun k u v hk h => by
    obtain rfl : k = 0 := by omega
    obtain ⟨rfl, rfl⟩ := h
    exact q_decline,
  fun k u v z1 hk h => by
    obtain rfl : k = 0 := by omega
    obtain ⟨rfl, rfl⟩ := h
    exact q_room z1,
  fun k u v z1 hk h => by
    obtain rfl : k = 0 := by omega
    obtain ⟨rfl, rfl⟩ := h
    exact q_count z1,
  fun _ _ _ _ _ => trivial⟩
/-- from the entry, for every script of at most 10 ints, the law comes to its end with true -/
theorem whole_start {p : Program} {e : Env} {s : State} {m : MethodId} {below : List Frame} {meth : Method} {c : Code} (l : Launch) {b L : Nat} {xs : Nat → Int32} (hL : L ≤ 10) (C0 : lw_At p s m meth c b L xs) : W p l e room_1 s m #[Value.ref b] below meth c s.heap [] 0 0 (lw_Z below #[Value.ref b] s) (entryFrame m ([Value.ref b] : List Value).toArray 4) := law_start p1_steps ⟨rfl, rfl⟩ l hL C0
