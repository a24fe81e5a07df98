theorem z_HW : ∀ t, t < 6 → (1 ≤ (I0 2 t).toInt ∧ (I0 2 t).toInt ≤ 99 ∧ I0 76 (10 + t) = I0 2 t) := by decide +kernel
theorem z_HS : (I0 76 3 = ii 3 ∧ I0 1 8 = ii 3) ∧ (I0 76 4 = ii 1 ∧ I0 1 9 = ii 1) ∧ (I0 76 5 = ii 0 ∧ I0 1 10 = ii 0) ∧ I0 1 11 = I0 76 2 ∧ I0 1 15 = I0 76 8 := by decide +kernel
theorem z_HH : I0 3 1 = ii 0 ∧ I0 3 2 = ii 24 ∧ I0 76 0 = ii 0 := by decide +kernel
theorem z_HP : (I0 76 1 = ii 0 ∧ I0 1 12 = ii 0) ∧ (∀ p, p < 6 → (∀ t, t < 6 → I0 12 (6 * p + t) = ii 0) ∧ I0 5 p = ii 0) := by decide +kernel
theorem z_HT : (I0 76 6 = ii 0 ∧ I0 1 13 = ii 0) ∧ (I0 76 7 = ii 0 ∧ I0 1 14 = ii 0) ∧ (I0 6 2 = ii 0 ∧ I0 76 82 = ii 0) ∧ (I0 9 2 = ii 0 ∧ I0 76 207 = ii 0) := by decide +kernel
theorem z_KI : I0 0 8 = I0 75 3 ∧ I0 17 2 = ii 24 ∧ I0 75 3 = ii 0 := by decide +kernel
theorem z_ER : ∀ k, k < 7 → I0 74 k = I0 79 k := by decide +kernel
theorem z_SH : ∀ i, i < 4 → (I0 (66 + 2 * i) 1 = ii 0 ∧ I0 89 i = ii 0 ∧ I0 (66 + 2 * i) 2 = ii 0 ∧ I0 90 i = ii 0 ∧ ∀ k, k < 24 → I0 (67 + 2 * i) k = I0 91 (24 * i + k)) := by decide +kernel
theorem z_TR : I0 63 1 = ii 0 ∧ I0 75 28 = ii 0 := by decide +kernel
theorem z_FG : ∀ i, i < 7 → I0 (34 + 2 * i) 2 = ii 24 := by decide +kernel
theorem inv0 : Inv I0 := by
  obtain ⟨s1, s2, s3, s4, s5⟩ := z_HS
  obtain ⟨h1, h2, h3⟩ := z_HH
  obtain ⟨p1, p2⟩ := z_HP
  obtain ⟨t1, t2, t3, t4⟩ := z_HT
  obtain ⟨k1, k2, k3⟩ := z_KI
  refine ⟨fun t ht => ?_, ⟨⟨3, by omega, by omega, s1.1, s1.2⟩, ⟨1, by omega, by omega, s2.1, s2.2⟩, ⟨0, by omega, by omega, s3.1, s3.2⟩, s4, s5⟩, ⟨[], ⟨Nat.zero_le _, fun j hj => absurd hj (Nat.not_lt_zero _)⟩, ⟨h1, h2, fun j hj => absurd hj (Nat.not_lt_zero _)⟩, h3, fun j hj => absurd hj (Nat.not_lt_zero _)⟩, ⟨0, Nat.zero_le _, p1.1, p1.2, fun p hp => absurd hp (Nat.not_lt_zero _), fun p _ hp => p2 p hp⟩, ⟨0, Nat.zero_le _, t1.1, t1.2, fun j hj => absurd hj (Nat.not_lt_zero _)⟩, ⟨0, Nat.zero_le _, t2.1, t2.2, fun j hj => absurd hj (Nat.not_lt_zero _)⟩, ⟨[], ⟨Nat.zero_le _, fun h => absurd rfl h, fun k hk => absurd hk (Nat.not_lt_zero _)⟩, t3.1, t3.2, fun k hk => absurd hk (Nat.not_lt_zero _)⟩, ⟨[], ⟨Nat.zero_le _, fun h => absurd rfl h, fun k hk => absurd hk (Nat.not_lt_zero _)⟩, t4.1, t4.2, fun k hk => absurd hk (Nat.not_lt_zero _)⟩, ⟨k1, k2, Or.inl k3⟩, z_ER, fun i hi => ?_, ⟨0, Nat.zero_le _, z_TR.1, z_TR.2, fun k hk => absurd hk (Nat.not_lt_zero _)⟩, z_FG⟩
  · obtain ⟨a, b, c⟩ := z_HW t ht
    exact ⟨(I0 2 t).toInt, a, b, by rw [c, ii_of], (ii_of _).symm⟩
  · obtain ⟨a, b, c, d, e⟩ := z_SH i hi
    exact ⟨0, 0, Or.inl rfl, by omega, by omega, a, b, c, d, e⟩
