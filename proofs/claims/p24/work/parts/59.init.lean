/-! ===== the state that the class's constructor leaves, the law's rows as they begin ===== -/
def swcI (u : swU) : Prop := u.1 0 6 = 1 ∧ u.1 0 7 = 1 ∧ u.1 0 8 = 0 ∧ u.1 0 9 = 0 ∧ u.1 0 10 = 0 ∧ u.1 0 11 = 0 ∧ u.1 1 0 = 0 ∧ (∀ b, b < 6 → u.1 2 b = -1) ∧ u.1 100 1 = 0 ∧ u.1 100 2 = -1 ∧ u.1 100 3 = -1 ∧ u.2 100 = 1 ∧ u.1 200 2 = 0
def lyZ : lyU := (fun _ _ => 0, fun _ _ => 0)
def lyB : lyU := lyI (lyI (lyI lyZ 3 0 1) 8 0 1) 8 2 1
theorem lwRx_init {u : swU} (hu : swcI u) : lwRx 0 u lyB := by
  obtain ⟨u1, u2, u3, u4, u5, u6, u7, u8, u9, u10, u11, u12, u13⟩ := hu
  refine ⟨1, 1, 0, fun _ => 0, fun _ => -1, fun _ => 0, fun _ => -1, fun _ => -1, fun _ => 1, fun _ => (0, fun _ => 0, fun _ _ => 0), (0, fun _ _ => 0, 0, fun _ _ => 0, 0), ⟨Nat.le_refl 1, by omega, u1, rfl⟩, ⟨Nat.le_refl 1, by omega, u2, rfl⟩, ⟨Nat.zero_le _, u3, rfl⟩, fun b hb => ?_, fun b hb => ⟨u8 b hb, ?_, Or.inl rfl⟩, fun v hv => ?_, fun v hv k hk => ?_, fun v hv => ?_, ⟨?_, ?_, Nat.zero_le _⟩, by omega, by omega, Nat.le_refl 0⟩
  · obtain rfl : b = 0 := by omega
    exact ⟨by omega, u7, rfl⟩
  · show lyB.1 5 (6 + b) = -1 + 1
    unfold lyB
    rw [lyI_ne (by omega), lyI_ne (by omega), lyI_ne (by omega)]
    rfl
  · obtain rfl : v = 0 := by omega
    exact ⟨u9, u10, u11, ⟨0, 0, 0, by omega, by omega, by omega, rfl, by decide, by decide, rfl⟩, rfl, trivial, u12⟩
  · obtain rfl : v = 0 := by omega
    have hk2 : (1 : Nat).testBit k = true := hk
    by_cases e : k = 0
    · omega
    · exfalso
      have : (1 : Nat).testBit k = false := Nat.testBit_lt_two_pow (Nat.lt_of_lt_of_le (show 1 < 2 ^ 1 by omega) (Nat.pow_le_pow_right (by omega) (by omega)))
      rw [this] at hk2
      cases hk2
  · obtain rfl : v = 0 := by omega
    refine ⟨⟨Nat.zero_le _, u13, fun k hk => absurd hk (Nat.not_lt_zero k), fun k hk => absurd hk (Nat.not_lt_zero k)⟩, ⟨rfl, fun s hs => ?_⟩, ⟨fun k hk => absurd hk (Nat.not_lt_zero k), fun k hk => absurd hk (Nat.not_lt_zero k), fun j k hj => absurd hj (Nat.not_lt_zero j)⟩, fun k hk => absurd hk (Nat.not_lt_zero k)⟩
    rw [swits_none (fun k hk => absurd hk (Nat.not_lt_zero k))]
    show lwget lyZ 0 s = lN 0
    unfold lwget
    rw [if_pos (by omega)]
    rfl
  · exact ⟨Nat.zero_le _, u4, fun k hk => absurd hk (Nat.not_lt_zero k), fun k hk => absurd hk (Nat.not_lt_zero k), Nat.zero_le _, u5, fun k hk => absurd hk (Nat.not_lt_zero k), u6⟩
  · exact ⟨rfl, rfl, rfl, fun k hk => absurd hk (Nat.not_lt_zero k), fun k hk => absurd hk (Nat.not_lt_zero k)⟩
