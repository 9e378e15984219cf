/-! the two states at the start; the law from its entry -/
theorem Rel0 : Rel SX0 SM0 := by
  refine ⟨0, 0, 0, ⟨⟨rfl, by omega⟩, ⟨rfl, by omega, fun k hk => absurd hk (Nat.not_lt_zero k)⟩, fun a _ => ⟨0, by omega, rfl⟩, rfl, rfl, rfl, fun a h => absurd h (Nat.not_lt_zero a), fun a h => absurd h (Nat.not_lt_zero a), fun a _ => ⟨rfl, fun k hk => ?_⟩, fun k h => absurd h (Nat.not_lt_zero k)⟩,
    ⟨fun a h => absurd h (Nat.not_lt_zero a), ⟨rfl, ?_, ?_⟩, rfl, ⟨rfl, rfl⟩, ⟨rfl, rfl, by omega, fun k h => absurd h (Nat.not_lt_zero k)⟩, fun a _ _ => ⟨rfl, rfl, rfl, rfl, rfl, rfl⟩⟩⟩
  · exact absurd hk (Nat.not_lt_zero k)
  · rw [rgd]
    show 0 ≤ (0 : Int32).toInt ∧ (0 : Int32).toInt ≤ 1
    decide
  · rw [rgd]
    show 0 ≤ (1 : Int32).toInt ∧ (1 : Int32).toInt ≤ 9
    decide
theorem Sp0 : Sp 5000 Rel := by
  have h : 5000 ≤ 5000 := Nat.le_refl _
  exact ⟨p_act, p_set, p_law, p_say, p_wipe, p_fault h, p_leans h, p_free, p_ask, p_counts, p_drop, p_all h, p_why h, p_under h, p_fall h, p_back h, p_wise h, p_rest h, p_heal h, p_pillar h, p_hangs h, p_safe h, p_beside h, p_told⟩
/-- YOUR PART: from the entry, for every script of at most 2560 ints, the law comes to its end with true -/
theorem whole_start {p : Program} {e : Env} {s : State} {m : MethodId} {below : List Frame} {meth : Method} {c : Code} (l : Launch) {b L : Nat} {xs : Nat → Int32} (hL : L ≤ 2560) (C0 : lw_At p s m meth c b L xs) : W p l e room_1 s m #[Value.ref b] below meth c s.heap [] 0 0 (lw_Z below #[Value.ref b] s) (entryFrame m ([Value.ref b] : List Value).toArray 4) :=
  whole_open Sp0 Rel0 l hL C0
