/-! ===== the world at the start ===== -/
def P0 : Pst := (0, 0, 0, -1, fun _ => 0, fun _ => 0, fun _ => 0, fun _ => 0, fun _ => 0)
theorem P0_W : pW P0 := ⟨Nat.zero_le _, by decide, fun i hi => absurd hi (Nat.not_lt_zero i), rfl, Nat.zero_le _, ⟨by decide, by decide⟩, trivial⟩
def S0 : Wst := (P0, P0, false, 0, fun _ => P0, 0, fun _ => 0)
theorem S0_W : WI S0 := ⟨P0_W, fun h => (by cases h), Nat.zero_le _, fun i hi => absurd hi (Nat.not_lt_zero i), Nat.zero_le _, fun i hi => absurd hi (Nat.not_lt_zero i)⟩
theorem S0_L : LW S0 := by
  refine ⟨⟨?_, fun h => absurd h (Nat.lt_irrefl 0), rfl⟩, fun h => (by cases h), fun i hi => absurd hi (Nat.not_lt_zero i), rfl⟩
  show pc 25 0 ≤ 4
  rw [pc_0]
  exact Nat.zero_le _
theorem S0_C : CI S0 W0 := by
  refine ⟨⟨rfl, rfl, rfl, rfl, fun h => absurd rfl h, fun i hi => absurd hi (Nat.not_lt_zero i), fun i hi => absurd hi (Nat.not_lt_zero i), fun i hi => absurd hi (Nat.not_lt_zero i), fun i hi => absurd hi (Nat.not_lt_zero i), fun i hi => absurd hi (Nat.not_lt_zero i)⟩, rfl, fun h => (by cases h), rfl, fun i hi => absurd hi (Nat.not_lt_zero i), ⟨fun i hi => ?_, fun i j hi hj h => ?_⟩, rfl, fun i hi => absurd hi (Nat.not_lt_zero i)⟩
  · have e : W0.2.2 i = 14 + 6 * i := rfl
    rw [e]
    unfold isSv
    omega
  · have e : W0.2.2 i = 14 + 6 * i := rfl
    have e2 : W0.2.2 j = 14 + 6 * j := rfl
    rw [e, e2] at h
    omega
