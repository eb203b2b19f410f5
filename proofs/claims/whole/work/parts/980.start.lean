/-! the first state: what the constructors leave is alike on both sides; the claim out of the calls -/
set_option maxRecDepth 100000 in
theorem i0_told : ∀ j : Nat, j < 6 → I0 51 j = Int32.ofNat (if j = 4 then 1 else if j = 5 then 8 else 0) := by decide +kernel
set_option maxRecDepth 100000 in
theorem i0_shop : ∀ j : Nat, j < 6 → I0 3 (5 + j) = Int32.ofNat (if j = 4 then 1 else if j = 5 then 8 else 0) := by decide +kernel
set_option maxRecDepth 100000 in
theorem i0_stand : ∀ k : Nat, k < 91 → I0 16 k = I0 576 (pi91 k) := by decide +kernel
set_option maxRecDepth 100000 in
theorem i0_day : I0 576 89 = Int32.ofNat 0 := by decide +kernel
set_option maxRecDepth 100000 in
theorem i0_left : ∀ b : Nat, b < 10 → I0 576 b = Int32.ofNat 0 := by decide +kernel
set_option maxRecDepth 100000 in
theorem i0_cut : ∀ c : Nat, c < 6 → I0 576 (82 + c) = -1 := by decide +kernel
set_option maxRecDepth 100000 in
theorem i0_suit : ∀ j : Nat, j < 72 → I0 576 (10 + j) = Int32.ofNat 0 := by decide +kernel
set_option maxRecDepth 100000 in
theorem i0_isTold : ∀ p : Nat, p < 6 → I0 135 p = 0 := by decide +kernel
set_option maxRecDepth 100000 in
theorem i0_pm : ∀ p : Nat, p < 6 → ∀ h : Nat, h < 12 → I0 (129 + p) h = Int32.ofNat 0 := by decide +kernel
set_option maxRecDepth 100000 in
theorem i0_px : ∀ p : Nat, p < 6 → ∀ h : Nat, h < 12 → I0 20 (12 * p + h) = Int32.ofNat 0 := by decide +kernel
set_option maxRecDepth 100000 in
theorem i0_kinds : ∀ h : Nat, h < 12 → I0 36 h = -1 := by decide +kernel
set_option maxRecDepth 100000 in
theorem i0_one : I0 19 3 = Int32.ofNat 0 ∧ I0 23 4 = Int32.ofNat 0 ∧ I0 47 25 = Int32.ofNat 0 ∧ I0 35 3 = Int32.ofNat 0 ∧ I0 47 39 = Int32.ofNat 0 ∧ I0 31 3 = Int32.ofNat 0 ∧ I0 47 40 = Int32.ofNat 0 ∧ I0 31 4 = Int32.ofNat 0 ∧ I0 47 42 = Int32.ofNat 0 ∧ I0 1 1 = Int32.ofNat 0 ∧ I0 47 1 = Int32.ofNat 0 := by decide +kernel
set_option maxRecDepth 100000 in
theorem i0_cnt : I0 0 13 = I0 47 41 ∧ I0 0 14 = I0 49 0 ∧ I0 0 15 = I0 49 1 ∧ I0 0 16 = I0 49 2 ∧ I0 1 6 = I0 47 3 := by decide +kernel
set_option maxRecDepth 100000 in
theorem i0_46 : I0 46 0 = 0 := by decide +kernel
theorem rel_I0 : rel I0 := by
  obtain ⟨o1, o2, o3, o4, o5, o6, o7, o8, o9, o10, o11⟩ := i0_one
  refine ⟨fun j => if j = 4 then 1 else if j = 5 then 8 else 0, fun _ _ => 0, fun _ => 0, fun _ _ => 0, fun _ _ => 0, 0, fun _ _ => 0, 0, fun _ => 0, 0, fun _ => 0, fun _ => 0, 0, 0, fun _ => 0, 0, ?_, ⟨i0_stand, 0, by decide, i0_day, fun b hb => ⟨0, by decide, i0_left b hb, fun _ => rfl⟩, fun c hc => Or.inl (i0_cut c hc), fun j hj => ⟨0, by decide, i0_suit j hj⟩⟩, ?_, ?_, ?_, ?_, ?_, i0_cnt⟩
  · have z : ∀ w : Nat, ¬ w < 0 := fun w => Nat.not_lt_zero w
    refine ⟨⟨by decide, by decide, by decide, by decide, by decide, by decide, by decide, i0_46⟩, i0_told, i0_shop, fun b hb => absurd hb (z b), fun b hb => absurd hb (z b), fun b hb => absurd hb (z b), fun b hb => absurd hb (z b), fun b hb => absurd hb (z b), fun b hb => absurd hb (z b), fun b hb => absurd hb (z b), fun b hb => absurd hb (z b), fun b hb => absurd hb (z b), fun b _ hb => absurd hb (z b), fun b _ hb => absurd hb (z b), fun b hb => absurd hb (z b), fun b _ hb => absurd hb (z b), fun b _ hb => absurd hb (z b)⟩
  · refine ⟨by decide, o1, fun p hp => ?_, fun p h hp hh => (show (0 : Nat) < 6 from by decide), fun p h hp hh => i0_pm p hp h hh, fun p h hp hh => i0_px p hp h hh⟩
    rw [i0_isTold p hp, Nat.zero_testBit]
    rfl
  · exact ⟨by decide, o2, o3, fun k hk => absurd hk (Nat.not_lt_zero k), rfl, fun k hk => absurd hk (Nat.not_lt_zero k), fun h => absurd h (by decide), fun k hk => (show (0 : Nat) ≤ 60 from by decide)⟩
  · exact ⟨by decide, o4, o5, fun k hk => absurd hk (Nat.not_lt_zero k), fun k hk => absurd hk (Nat.not_lt_zero k), fun k hk => absurd hk (Nat.not_lt_zero k), fun j k hj => absurd hj (Nat.not_lt_zero j), fun k hk => absurd hk (Nat.not_lt_zero k), fun h hh _ => i0_kinds h hh⟩
  · exact ⟨by decide, o6, o7, fun w hw => absurd hw (Nat.not_lt_zero w), by decide, o8, o9, fun i hi => absurd hi (Nat.not_lt_zero i)⟩
  · exact ⟨by decide, o10, o11, fun k hk => absurd hk (Nat.not_lt_zero k)⟩
/-- the claim, out of the 41 calls -/
theorem la_run_ops (ho : ops rel) : la_run := la_run_fun fun X hX => law_all ho hX rel_I0 ⟨rfl, rfl⟩
