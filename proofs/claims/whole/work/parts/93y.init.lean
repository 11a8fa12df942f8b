/-! at the start -/
theorem rel_0 : Rel M0x M0y := by
  refine ⟨⟨0, by omega, rfl, rfl, fun j hj => absurd hj (Nat.not_lt_zero j)⟩, ⟨0, by omega, rfl, rfl, fun j hj => absurd hj (Nat.not_lt_zero j), 0, by omega, rfl, rfl, fun j hj => absurd hj (Nat.not_lt_zero j)⟩, ⟨0, by omega, rfl, rfl, fun _ => 0, fun _ => 0, fun k hk => absurd hk (Nat.not_lt_zero k), fun k q hk hq => absurd hq (Nat.not_lt_zero q)⟩, ⟨⟨100, by omega, by omega, rfl, rfl⟩, ⟨false, rfl, rfl⟩, ⟨300, by omega, by omega, rfl, rfl⟩, ⟨false, rfl, rfl⟩⟩, ⟨44, 41, Or.inr ⟨rfl, rfl⟩, rfl, rfl, 0, by omega, rfl, rfl, rfl, rfl, fun k hk => absurd hk (Nat.not_lt_zero k), fun c k hc => ?_⟩⟩
  rw [decide_eq_false (Nat.not_lt_zero k), Bool.false_and]
  exact bit_0 k
theorem sim_all : SimAll Rel := ⟨sim_feed, sim_text, sim_pattern, sim_word, sim_strange, sim_links, sim_longest, sim_tokens, sim_token, sim_sign, sim_same, sim_cost, sim_match, sim_count⟩
