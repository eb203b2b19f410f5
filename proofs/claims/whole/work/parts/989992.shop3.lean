/-! shop -/
def tnN (nb nc nw no se ha : Nat) : Nat → Nat := fun j => match j with
  | 0 => nb
  | 1 => nc
  | 2 => nw
  | 3 => no
  | 4 => se
  | _ => ha
theorem clampd {x : Int32} {v : Nat} (h : x = Int32.ofNat v) (hv : v < 2147483648) : x = Int32.ofNat x.toNatClampNeg ∧ x.toNatClampNeg = v := by
  have e : x.toNatClampNeg = v := by rw [h]; exact i_clamp hv
  exact ⟨by rw [e]; exact h, e⟩
/-- the shop that both have read -/
theorem shop_rel {i nb nc nw no se ha : Nat} {bc bm K : MJ} (h : sD i nb nc nw no se ha bc bm) (k46 : K 46 0 = 0) (k3 : K 3 5 = bc 9 5 ∧ K 3 6 = bc 9 6 ∧ K 3 7 = bc 9 7 ∧ K 3 8 = bc 9 8 ∧ K 3 9 = bc 9 9 ∧ K 3 10 = bc 9 10) (k45 : ∀ k, k < 10 → K 4 k = bc 10 k ∧ K 5 k = bc 11 k) (k6 : ∀ k, k < 6 → K 6 k = bc 12 k) (k7 : ∀ k, k < 80 → K 7 k = bc 13 k) (k8 : ∀ k, k < 40 → K 8 k = bc 14 k) (k16 : ∀ k, k < 91 → K 16 k = if 3 ≤ k ∧ k < 9 then -1 else if 9 ≤ k ∧ k < 9 + nb then bc 11 (k - 9) else 0)
    (m51 : ∀ j, j < 6 → K 51 j = bm 50 j) (m53 : ∀ c, c < nc → K 53 c = bm 52 c) (m66 : ∀ b, b < nb → ∀ i, i < 2 → K (66 + b) i = bm (55 + b) i) (m94 : ∀ w, w < nw → ∀ i, i < 5 → K (94 + w) i = bm (77 + w) i) (m120 : ∀ w, w < no → ∀ i, i < 5 → K (120 + w) i = bm (111 + w) i) (m576 : ∀ k, k < 91 → K 576 k = if 82 ≤ k ∧ k ≤ 87 then -1 else if k < nb then bm (55 + k) 1 else 0) : (∃ bo st wa od, rShop (tnN nb nc nw no se ha) bo st wa od K) ∧ rStand nb nc K := by
  obtain ⟨⟨l1, l2, l3, l4, l5, l6, l7, l8⟩, D7, ⟨c0, c1, c2, c3, c4, c5⟩, ⟨d0, d1, d2, d3, d4, d5⟩, DB, DC, DW, DO⟩ := h
  have e11 : ∀ b, b < nb → bc 11 b = bm (55 + b) 1 := fun b hb => by
    obtain ⟨v0, v1, g1, g2, g3, g4, g5, g6, g7⟩ := DB b hb
    rw [g5, g7]
  constructor
  · have hB : ∀ b, b < nb → (fun b k => (bm (55 + b) k).toNatClampNeg) b 0 < 6 ∧ 1 ≤ (fun b k => (bm (55 + b) k).toNatClampNeg) b 1 ∧ (fun b k => (bm (55 + b) k).toNatClampNeg) b 1 ≤ 60 ∧ bm (55 + b) 0 = Int32.ofNat ((fun b k => (bm (55 + b) k).toNatClampNeg) b 0) ∧ bm (55 + b) 1 = Int32.ofNat ((fun b k => (bm (55 + b) k).toNatClampNeg) b 1) ∧ bc 10 b = Int32.ofNat ((fun b k => (bm (55 + b) k).toNatClampNeg) b 0) ∧ bc 11 b = Int32.ofNat ((fun b k => (bm (55 + b) k).toNatClampNeg) b 1) := fun b hb => by
      obtain ⟨v0, v1, g1, g2, g3, g4, g5, g6, g7⟩ := DB b hb
      obtain ⟨w1, w2⟩ := clampd g6 (by omega)
      obtain ⟨w3, w4⟩ := clampd g7 (by omega)
      try dsimp only
      exact ⟨by omega, by omega, by omega, w1, w3, by rw [w2]; exact g4, by rw [w4]; exact g5⟩
    have hC : ∀ c, c < nc → (fun c => (bm 52 c).toNatClampNeg) c ≤ 9 ∧ bm 52 c = Int32.ofNat ((fun c => (bm 52 c).toNatClampNeg) c) ∧ bc 12 c = Int32.ofNat ((fun c => (bm 52 c).toNatClampNeg) c) := fun c hc => by
      obtain ⟨v, g1, g2, g3⟩ := DC c hc
      obtain ⟨w1, w2⟩ := clampd g3 (by omega)
      try dsimp only
      exact ⟨by omega, w1, by rw [w2]; exact g2⟩
    have hW : ∀ w, w < nw → (((fun w k => (bm (77 + w) k).toNatClampNeg) w 0 < nc ∧ (fun w k => (bm (77 + w) k).toNatClampNeg) w 1 ≤ (fun w k => (bm (77 + w) k).toNatClampNeg) w 2 ∧ (fun w k => (bm (77 + w) k).toNatClampNeg) w 2 ≤ 11 ∧ (fun w k => (bm (77 + w) k).toNatClampNeg) w 3 < 6 ∧ 1 ≤ (fun w k => (bm (77 + w) k).toNatClampNeg) w 4 ∧ (fun w k => (bm (77 + w) k).toNatClampNeg) w 4 ≤ 9) ∧ ∀ j, j < 5 → bc 13 (5 * w + j) = Int32.ofNat ((fun w k => (bm (77 + w) k).toNatClampNeg) w j) ∧ bm (77 + w) j = Int32.ofNat ((fun w k => (bm (77 + w) k).toNatClampNeg) w j)) := fun w hw => by
      obtain ⟨f, ⟨g0, g1, g2, g3, g4, g5⟩, g6⟩ := DW w hw
      have hf : ∀ j, j < 5 → f j < 100 := fun j hj => by
        match j, hj with
        | 0, _ => omega
        | 1, _ => omega
        | 2, _ => omega
        | 3, _ => omega
        | 4, _ => omega
      have e : ∀ j, j < 5 → (bm (77 + w) j).toNatClampNeg = f j := fun j hj => (clampd (g6 j hj).2 (by have := hf j hj; omega)).2
      try dsimp only
      rw [e 0 (by decide), e 1 (by decide), e 2 (by decide), e 3 (by decide), e 4 (by decide)]
      exact ⟨⟨g0, g1, g2, g3, g4, g5⟩, fun j hj => by rw [e j hj]; exact g6 j hj⟩
    have hO : ∀ w, w < no → (((fun w k => (bm (111 + w) k).toNatClampNeg) w 0 < nc ∧ (fun w k => (bm (111 + w) k).toNatClampNeg) w 1 < 6 ∧ 1 ≤ (fun w k => (bm (111 + w) k).toNatClampNeg) w 2 ∧ (fun w k => (bm (111 + w) k).toNatClampNeg) w 2 ≤ 60 ∧ (fun w k => (bm (111 + w) k).toNatClampNeg) w 3 ≤ 999 ∧ 1 ≤ (fun w k => (bm (111 + w) k).toNatClampNeg) w 4 ∧ (fun w k => (bm (111 + w) k).toNatClampNeg) w 4 ≤ 24) ∧ ∀ j, j < 5 → bc 14 (5 * w + j) = Int32.ofNat ((fun w k => (bm (111 + w) k).toNatClampNeg) w j) ∧ bm (111 + w) j = Int32.ofNat ((fun w k => (bm (111 + w) k).toNatClampNeg) w j)) := fun w hw => by
      obtain ⟨f, ⟨g0, g1, g2, g3, g4, g5, g7⟩, g6⟩ := DO w hw
      have hf : ∀ j, j < 5 → f j < 1000 := fun j hj => by
        match j, hj with
        | 0, _ => omega
        | 1, _ => omega
        | 2, _ => omega
        | 3, _ => omega
        | 4, _ => omega
      have e : ∀ j, j < 5 → (bm (111 + w) j).toNatClampNeg = f j := fun j hj => (clampd (g6 j hj).2 (by have := hf j hj; omega)).2
      try dsimp only
      rw [e 0 (by decide), e 1 (by decide), e 2 (by decide), e 3 (by decide), e 4 (by decide)]
      exact ⟨⟨g0, g1, g2, g3, g4, g5, g7⟩, fun j hj => by rw [e j hj]; exact g6 j hj⟩
    generalize (fun (b k : Nat) => (bm (55 + b) k).toNatClampNeg) = bo at hB
    generalize (fun (c : Nat) => (bm 52 c).toNatClampNeg) = st at hC
    generalize (fun (w k : Nat) => (bm (77 + w) k).toNatClampNeg) = wa at hW
    generalize (fun (w k : Nat) => (bm (111 + w) k).toNatClampNeg) = od at hO
    refine ⟨bo, st, wa, od, ⟨l1, l2, l3, l4, l5, l6, l7, k46⟩, fun j hj => ?_, fun j hj => ?_, fun b (hb : b < nb) => ⟨(hB b hb).1, (hB b hb).2.1, (hB b hb).2.2.1⟩, fun b (hb : b < nb) => ?_, fun b (hb : b < nb) => ?_, fun b (hb : b < nb) => ?_, fun b (hb : b < nb) => ?_, fun c (hc : c < nc) => (hC c hc).1, fun c (hc : c < nc) => ?_, fun c (hc : c < nc) => ?_, fun w (hw : w < nw) => (hW w hw).1, fun w j (hw : w < nw) hj => ?_, fun w j (hw : w < nw) hj => ?_, fun w (hw : w < no) => (hO w hw).1, fun w j (hw : w < no) hj => ?_, fun w j (hw : w < no) hj => ?_⟩
    · rw [m51 j hj]
      match j, hj with
      | 0, _ => exact d0
      | 1, _ => exact d1
      | 2, _ => exact d2
      | 3, _ => exact d3
      | 4, _ => exact d4
      | 5, _ => exact d5
    · match j, hj with
      | 0, _ => exact k3.1.trans c0
      | 1, _ => exact k3.2.1.trans c1
      | 2, _ => exact k3.2.2.1.trans c2
      | 3, _ => exact k3.2.2.2.1.trans c3
      | 4, _ => exact k3.2.2.2.2.1.trans c4
      | 5, _ => exact k3.2.2.2.2.2.trans c5
    · rw [m66 b hb 0 (by decide)]; exact (hB b hb).2.2.2.1
    · rw [m66 b hb 1 (by decide)]; exact (hB b hb).2.2.2.2.1
    · rw [(k45 b (by omega)).1]; exact (hB b hb).2.2.2.2.2.1
    · rw [(k45 b (by omega)).2]; exact (hB b hb).2.2.2.2.2.2
    · rw [m53 c hc]; exact (hC c hc).2.1
    · rw [k6 c (by omega)]; exact (hC c hc).2.2
    · rw [m94 w hw j hj]; exact ((hW w hw).2 j hj).2
    · rw [k7 _ (by omega)]; exact ((hW w hw).2 j hj).1
    · rw [m120 w hw j hj]; exact ((hO w hw).2 j hj).2
    · rw [k8 _ (by omega)]; exact ((hO w hw).2 j hj).1
  · constructor
    · intro k hk
      rw [k16 k hk]
      unfold pi91
      by_cases z0 : k = 0
      · rw [if_pos z0, m576 89 (by decide), if_neg (by omega), if_neg (by omega), if_neg (by decide), if_neg (by omega)]
      rw [if_neg z0]
      by_cases z1 : k = 1
      · rw [if_pos z1, m576 90 (by decide), if_neg (by omega), if_neg (by omega), if_neg (by decide), if_neg (by omega)]
      rw [if_neg z1]
      by_cases z2 : k = 2
      · rw [if_pos z2, m576 88 (by decide), if_neg (by omega), if_neg (by omega), if_neg (by decide), if_neg (by omega)]
      rw [if_neg z2]
      by_cases z3 : k < 9
      · rw [if_pos z3, m576 _ (by omega), if_pos (by omega), if_pos (by omega)]
      rw [if_neg z3, m576 _ (by omega), if_neg (by omega)]
      by_cases z4 : k < 9 + nb
      · rw [if_pos (by omega), if_neg (by omega), if_pos (by omega), e11 _ (by omega)]
      · rw [if_neg (by omega)]
        by_cases z5 : 82 ≤ k - 9 ∧ k - 9 ≤ 87
        · omega
        · rw [if_neg z5, if_neg (by omega)]
    · refine ⟨0, by decide, ?_, fun b hb => ?_, fun c hc => Or.inl ?_, fun j hj => ⟨0, by decide, ?_⟩⟩
      · rw [m576 89 (by decide), if_neg (by decide), if_neg (by omega)]; rfl
      · by_cases z : b < nb
        · obtain ⟨v0, v1, g1, g2, g3, g4, g5, g6, g7⟩ := DB b z
          exact ⟨v1, by omega, by rw [m576 b (by omega), if_neg (by omega), if_pos z, g7], fun h => by omega⟩
        · exact ⟨0, by omega, by rw [m576 b (by omega), if_neg (by omega), if_neg z]; rfl, fun _ => rfl⟩
      · rw [m576 _ (by omega), if_pos (by omega)]
      · rw [m576 _ (by omega), if_neg (by omega), if_neg (by omega)]; rfl
