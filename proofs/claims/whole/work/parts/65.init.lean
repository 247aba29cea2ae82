def C00 : CS := (fun i => if i = 2 then 20 else if i = 3 then 1 else if i = 4 then 1 else 0, fun _ => q00, fun _ => 0, fun _ => 0)
theorem cq_00 (k : Nat) : cq C00 k = q00 := by
  funext i
  unfold cq
  by_cases h : i = 10
  · subst h
    rfl
  · rw [if_neg h]
    rfl
theorem qok_00 : QOk q00 := by unfold QOk q00; decide
theorem kr0_00 : KR0 q00 kap0 := by unfold KR0 q00 kap0; decide
theorem cok_0 : COk C00 := by
  refine ⟨Nat.zero_le _, fun k _ => by rw [cq_00]; exact qok_00, fun k _ => rfl, Nat.zero_le _, fun p hp => absurd hp (Nat.not_lt_zero p), by decide, by decide, by decide, by decide, by decide, by decide, Nat.zero_le _, ?_, fun _ _ => rfl⟩
  show fb_sm (fun _ => 0) 512 ≤ 0
  rw [fb_sm_const]
  decide
theorem rx_0 : RX C00 sig0 := by
  refine ⟨cok_0, rfl, fun k _ => by rw [cq_00]; exact kr0_00, fun k hk => absurd hk (Nat.not_lt_zero k), rfl, fun p hp => absurd hp (Nat.not_lt_zero p), rfl, rfl, rfl, rfl, fun _ _ => rfl, rfl, rfl⟩
theorem rm_0 : RM C00 tau0 := by
  refine ⟨cok_0, rfl, fun k hk => absurd hk (Nat.not_lt_zero k), fun _ _ => Or.inl rfl, fun k hk => absurd hk (Nat.not_lt_zero k), fun k _ _ => ⟨rfl, rfl, rfl, rfl, rfl, rfl⟩, rfl, fun p hp => absurd hp (Nat.not_lt_zero p), rfl, rfl, rfl, rfl, fun _ _ => rfl, rfl, rfl⟩
