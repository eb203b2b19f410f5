/-! feed -/
theorem nar_byte (x : Int32) : vp_nar .byte x = x.toInt8.toInt32 := rfl
theorem byte_ok (x : Int32) : ∃ b, b < 256 ∧ x &&& 255 = Int32.ofNat b ∧ vp_nar .byte (x.toInt8.toInt32) = sb8 b := by
  have h1 : x &&& 255 = Int32.ofNat (x.toBitVec.toNat % 256) := by
    apply Int32.toBitVec_inj.mp
    rw [Int32.toBitVec_and]
    apply BitVec.eq_of_toNat_eq
    rw [BitVec.toNat_and]
    show x.toBitVec.toNat &&& 255 = (BitVec.ofNat 32 (x.toBitVec.toNat % 256)).toNat
    rw [BitVec.toNat_ofNat, Nat.mod_eq_of_lt (by omega), show (255 : Nat) = 2 ^ 8 - 1 from rfl, Nat.and_two_pow_sub_one_eq_mod]
  refine ⟨x.toBitVec.toNat % 256, Nat.mod_lt _ (by decide), h1, ?_⟩
  rw [nar_byte]
  unfold sb8
  rw [← h1]
  have h2 : (x.toInt8.toInt32).toInt8 = x.toInt8 := by simp
  have h3 : (x &&& 255).toInt8 = x.toInt8 := by
    apply Int8.toBitVec_inj.mp
    rw [Int32.toBitVec_toInt8, Int32.toBitVec_toInt8, Int32.toBitVec_and]
    rw [BitVec.signExtend_eq_setWidth_of_le _ (by decide), BitVec.signExtend_eq_setWidth_of_le _ (by decide)]
    apply BitVec.eq_of_toNat_eq
    rw [BitVec.toNat_setWidth, BitVec.toNat_setWidth, BitVec.toNat_and]
    show (x.toBitVec.toNat &&& 255) % 2 ^ 8 = _
    rw [show (255 : Nat) = 2 ^ 8 - 1 from rfl, Nat.and_two_pow_sub_one_eq_mod, Nat.mod_mod]
  rw [h2, h3]
def shF : Nat → Int32
  | 0 => 24
  | 1 => 16
  | 2 => 8
  | 3 => 0
  | _ => -8
theorem append_ok {M : MJ} {u : Nat} {p : Int32} (hu : u + 4 ≤ 600) (e : M 1 1 = Int32.ofNat u) : ∃ b : MJ, f_tap_append18 p M = some b ∧ b 1 1 = Int32.ofNat (u + 4) ∧ (∀ a k, a ≠ 2 → ¬ (a = 1 ∧ k = 1) → b a k = M a k) ∧ (∀ k, k < u → b 2 k = M 2 k) ∧ (∀ j, j < 4 → b 2 (u + j) = vp_nar .byte ((p >>> (shF j &&& 31)).toInt8.toInt32)) := by
  unfold f_tap_append18
  refine bindx ?_
  refine wh_inv (fun (i : Nat) (s : Int32 × MJ) => s.1 = shF i ∧ s.2 1 1 = Int32.ofNat (u + i) ∧ (∀ a k, a ≠ 2 → ¬ (a = 1 ∧ k = 1) → s.2 a k = M a k) ∧ (∀ k, k < u → s.2 2 k = M 2 k) ∧ (∀ j, j < i → s.2 2 (u + j) = vp_nar .byte ((p >>> (shF j &&& 31)).toInt8.toInt32))) _ 4 ?_ ?_ ⟨rfl, e, fun _ _ _ _ => rfl, fun _ _ => rfl, fun j hj => absurd hj (Nat.not_lt_zero j)⟩
  · rintro i hi ⟨a, N⟩ ⟨e1, e2, e3, e4, e5⟩
    dsimp only at e1 e2 e3 e4 e5
    subst e1
    have hs0 : ¬ shF i < 0 := by
      match i, hi with
      | 0, _ => decide
      | 1, _ => decide
      | 2, _ => decide
      | 3, _ => decide
    have hs1 : shF i + (-8) = shF (i + 1) := by
      match i, hi with
      | 0, _ => rfl
      | 1, _ => rfl
      | 2, _ => rfl
      | 3, _ => rfl
    refine ⟨(shF (i + 1), ab_up1 (ab_up1 N 2 (u + i) (vp_nar .byte ((p >>> (shF i &&& 31)).toInt8.toInt32))) 1 1 (Int32.ofNat (u + i + 1))), ?_, rfl, ?_, fun a k h1 h2 => ?_, fun k hk => ?_, fun j hj => ?_⟩
    · dsimp only
      rw [if_neg hs0, if_neg (show ¬ N 1 1 < 0 from by rw [e2, i_lt0 (by omega)]; exact id), if_pos (show N 1 1 < 600 from by rw [e2, show (600 : Int32) = Int32.ofNat 600 from rfl, i_lt (by omega) (by omega)]; omega), e2, wrb_2 (by omega), ob_some, up_ne (by omega), e2, ob_some, show Int32.ofNat (u + i) + 1 = Int32.ofNat (u + i + 1) from i_addr (n := 1), hs1]
    · dsimp only
      exact up_eq
    · dsimp only
      rw [up_ne h2, up_ne (by omega), e3 a k h1 h2]
    · dsimp only
      rw [up_ne (by omega), up_ne (by omega), e4 k hk]
    · dsimp only
      rw [up_ne (by omega)]
      by_cases hji : j = i
      · subst hji
        rw [up_eq]
      · rw [up_ne (by omega), e5 j (by omega)]
  · rintro ⟨a, N⟩ ⟨e1, e2, e3, e4, e5⟩
    dsimp only at e1 e2 e3 e4 e5
    subst e1
    exact ⟨N, if_pos (show shF 4 < 0 from by decide), N, rfl, e2, e3, e4, e5⟩
def wdF (p1 p2 p3 p4 p5 : Int32) (k : Nat) : Int32 := if k < 4 then p1 else if k < 8 then p2 else if k < 12 then p3 else if k < 16 then p4 else p5
theorem i_mod4 : ∀ k : Nat, k < 20 → (24 : Int32) - (8 : Int32) * (Int32.ofNat k - Int32.ofNat k / 4 * 4) = shF (k % 4) := by decide +kernel
theorem m_feed_loop {M : MJ} {u : Nat} {p1 p2 p3 p4 p5 : Int32} (hu : u + 20 ≤ 600) (e : M 47 1 = Int32.ofNat u) : ∃ b : MJ, f_m_feed266 p1 p2 p3 p4 p5 M = some (Int32.ofNat (u + 20), b) ∧ b 47 1 = Int32.ofNat (u + 20) ∧ (∀ a k, a ≠ 48 → ¬ (a = 47 ∧ (k = 0 ∨ k = 1)) → b a k = M a k) ∧ (∀ k, k < u → b 48 k = M 48 k) ∧ (∀ j, j < 20 → b 48 (u + j) = (wdF p1 p2 p3 p4 p5 j >>> (shF (j % 4) &&& 31)) &&& 255) := by
  unfold f_m_feed266
  rw [e, if_neg (by rw [show Int32.ofNat u + 20 = Int32.ofNat (u + 20) from i_addr (n := 20), show (600 : Int32) = Int32.ofNat 600 from rfl, i_lt (by omega) (by omega)]; omega)]
  suffices h : ∃ c : Int32 × MJ, Option.bind (wh _ ((0 : Int32), ab_up1 M 47 0 0)) (fun b2 => some ((b2 47 1), b2)) = some c ∧ (c.1 = Int32.ofNat (u + 20) ∧ c.2 47 1 = Int32.ofNat (u + 20) ∧ (∀ a k, a ≠ 48 → ¬ (a = 47 ∧ (k = 0 ∨ k = 1)) → c.2 a k = M a k) ∧ (∀ k, k < u → c.2 48 k = M 48 k) ∧ (∀ j, j < 20 → c.2 48 (u + j) = (wdF p1 p2 p3 p4 p5 j >>> (shF (j % 4) &&& 31)) &&& 255)) by
    obtain ⟨⟨c1, c2⟩, h1, h2, h3⟩ := h
    dsimp only at h2 h3
    subst h2
    exact ⟨c2, h1, h3⟩
  refine bindx ?_
  refine wh_inv (fun (i : Nat) (s : Int32 × MJ) => s.1 = Int32.ofNat i ∧ s.2 47 1 = Int32.ofNat (u + i) ∧ (∀ a k, a ≠ 48 → ¬ (a = 47 ∧ (k = 0 ∨ k = 1)) → s.2 a k = M a k) ∧ (∀ k, k < u → s.2 48 k = M 48 k) ∧ (∀ j, j < i → s.2 48 (u + j) = (wdF p1 p2 p3 p4 p5 j >>> (shF (j % 4) &&& 31)) &&& 255)) _ 20 ?_ ?_ ⟨rfl, e, fun a k _ h => up_ne (I := M) (x := 0) (a := 47) (j := 0) (b := a) (k := k) (by omega), fun k _ => up_ne (I := M) (x := 0) (a := 47) (j := 0) (b := 48) (k := k) (by omega), fun j hj => absurd hj (Nat.not_lt_zero j)⟩
  · rintro i hi ⟨a, N⟩ ⟨e1, e2, e3, e4, e5⟩
    dsimp only at e1 e2 e3 e4 e5
    subst e1
    have hw : (if Int32.ofNat i < (4 : Int32) then some p1 else (if Int32.ofNat i < (8 : Int32) then some p2 else (if Int32.ofNat i < (12 : Int32) then some p3 else (if Int32.ofNat i < (16 : Int32) then some p4 else some p5)))) = some (wdF p1 p2 p3 p4 p5 i) := by
      unfold wdF
      by_cases h1 : i < 4
      · rw [if_pos (by rw [i_ltr (by omega) (by decide)]; exact h1), if_pos h1]
      · rw [if_neg (by rw [i_ltr (by omega) (by decide)]; exact h1), if_neg h1]
        by_cases h2 : i < 8
        · rw [if_pos (by rw [i_ltr (by omega) (by decide)]; exact h2), if_pos h2]
        · rw [if_neg (by rw [i_ltr (by omega) (by decide)]; exact h2), if_neg h2]
          by_cases h3 : i < 12
          · rw [if_pos (by rw [i_ltr (by omega) (by decide)]; exact h3), if_pos h3]
          · rw [if_neg (by rw [i_ltr (by omega) (by decide)]; exact h3), if_neg h3]
            by_cases h4 : i < 16
            · rw [if_pos (by rw [i_ltr (by omega) (by decide)]; exact h4), if_pos h4]
            · rw [if_neg (by rw [i_ltr (by omega) (by decide)]; exact h4), if_neg h4]
    refine ⟨(Int32.ofNat (i + 1), ab_up1 (ab_up1 N 48 (u + i) ((wdF p1 p2 p3 p4 p5 i >>> (shF (i % 4) &&& 31)) &&& 255)) 47 1 (Int32.ofNat (u + i + 1))), ?_, rfl, ?_, fun a k h1 h2 => ?_, fun k hk => ?_, fun j hj => ?_⟩
    · dsimp only
      rw [if_pos (by rw [i_ltr (by omega) (by decide)]; exact hi), hw, ob_some, e2, i_mod4 i hi, wr_48 (by omega), ob_some, up_ne (by omega), e2, show Int32.ofNat (u + i) + 1 = Int32.ofNat (u + i + 1) from i_addr (n := 1), show Int32.ofNat i + 1 = Int32.ofNat (i + 1) from i_addr (n := 1)]
    · dsimp only
      exact up_eq
    · dsimp only
      rw [up_ne (by omega), up_ne (by omega), e3 a k h1 h2]
    · dsimp only
      rw [up_ne (by omega), up_ne (by omega), e4 k hk]
    · dsimp only
      rw [up_ne (by omega)]
      by_cases hji : j = i
      · subst hji
        rw [up_eq]
      · rw [up_ne (by omega), e5 j (by omega)]
  · rintro ⟨a, N⟩ ⟨e1, e2, e3, e4, e5⟩
    dsimp only at e1 e2 e3 e4 e5
    subst e1
    exact ⟨N, if_neg (show ¬ Int32.ofNat 20 < (20 : Int32) from by decide), _, rfl, e2, e2, e3, e4, e5⟩
theorem op_feed_ok : op_feed rel := by
  intro p1 p2 p3 p4 p5 I hr
  have hr0 := hr
  obtain ⟨tn, bl, st, wa, od, tb, pk, ln, ht, nl, bh, bs, nk, ni, wt, u, hS, hD, hP, hL, hB, hK, hT, hC⟩ := hr
  obtain ⟨t1, t2, t3, t4⟩ := hT
  by_cases hu : u + 20 ≤ 600
  · obtain ⟨M1, a1, a2, a3, a4, a5⟩ := append_ok (p := p1) (by omega) t2
    obtain ⟨M2, b1, b2, b3, b4, b5⟩ := append_ok (p := p2) (by omega) a2
    obtain ⟨M3, c1, c2, c3, c4, c5⟩ := append_ok (p := p3) (by omega) b2
    obtain ⟨M4, d1, d2, d3, d4, d5⟩ := append_ok (p := p4) (by omega) c2
    obtain ⟨M5, f1, f2, f3, f4, f5⟩ := append_ok (p := p5) (by omega) d2
    have z : ∀ a k, a ≠ 2 → ¬ (a = 1 ∧ k = 1) → M5 a k = I a k := fun a k h1 h2 => by
      rw [f3 a k h1 h2, d3 a k h1 h2, c3 a k h1 h2, b3 a k h1 h2, a3 a k h1 h2]
    have zo : ∀ k, k < u → M5 2 k = I 2 k := fun k hk => by
      rw [f4 k (by omega), d4 k (by omega), c4 k (by omega), b4 k (by omega), a4 k hk]
    have zn : ∀ j, j < 20 → M5 2 (u + j) = vp_nar .byte ((wdF p1 p2 p3 p4 p5 j >>> (shF (j % 4) &&& 31)).toInt8.toInt32) := by
      intro j hj
      unfold wdF
      by_cases h1 : j < 4
      · rw [if_pos h1, f4 _ (by omega), d4 _ (by omega), c4 _ (by omega), b4 _ (by omega), a5 j h1, Nat.mod_eq_of_lt h1]
      · by_cases h2 : j < 8
        · rw [if_neg h1, if_pos h2, f4 _ (by omega), d4 _ (by omega), c4 _ (by omega), show u + j = u + 4 + j % 4 by omega, b5 (j % 4) (by omega)]
        · by_cases h3 : j < 12
          · rw [if_neg h1, if_neg h2, if_pos h3, f4 _ (by omega), d4 _ (by omega), show u + j = u + 4 + 4 + j % 4 by omega, c5 (j % 4) (by omega)]
          · by_cases h4 : j < 16
            · rw [if_neg h1, if_neg h2, if_neg h3, if_pos h4, f4 _ (by omega), show u + j = u + 4 + 4 + 4 + j % 4 by omega, d5 (j % 4) (by omega)]
            · rw [if_neg h1, if_neg h2, if_neg h3, if_neg h4, show u + j = u + 4 + 4 + 4 + 4 + j % 4 by omega, f5 (j % 4) (by omega)]
    have e47 : M5 47 1 = Int32.ofNat u := (z 47 1 (by decide) (by omega)).trans t3
    obtain ⟨N, n1, n2, n3, n4, n5⟩ := m_feed_loop (p1 := p1) (p2 := p2) (p3 := p3) (p4 := p4) (p5 := p5) hu e47
    refine ⟨Int32.ofNat (u + 20), M5, N, ?_, n1, ?_⟩
    · unfold f_x_feed17
      rw [t2, if_neg (by rw [show (580 : Int32) = Int32.ofNat 580 from rfl, i_lt (by omega) (by omega)]; omega), a1, ob_some, b1, ob_some, c1, ob_some, d1, ob_some, f1, ob_some, f2]
    · have y : ∀ a k, a ≠ 2 → ¬ (a = 1 ∧ k = 1) → a ≠ 48 → ¬ (a = 47 ∧ (k = 0 ∨ k = 1)) → N a k = I a k := fun a k h1 h2 h3 h4 => (n3 a k h3 h4).trans (z a k h1 h2)
      refine ⟨tn, bl, st, wa, od, tb, pk, ln, ht, nl, bh, bs, nk, ni, wt, u + 20, rShop_congr (fun a k h => y a k (by omega) (by omega) (by omega) (by omega)) hS, rStand_congr (fun a k h => y a k (by omega) (by omega) (by omega) (by omega)) hD, rPat_congr (fun a k h => y a k (by omega) (by omega) (by omega) (by omega)) hP, rLaw_congr (fun a k h => y a k (by omega) (by omega) (by omega) (by omega)) hL, rBook_congr (fun a k h => y a k (by omega) (by omega) (by omega) (by omega)) hB, rPast_congr (fun a k h => y a k (by omega) (by omega) (by omega) (by omega)) hK, ⟨hu, ?_, n2, fun k hk => ?_⟩, ?_⟩
      · rw [n3 1 1 (by decide) (by omega), f2]
      · by_cases hku : k < u
        · obtain ⟨b, q1, q2, q3⟩ := t4 k hku
          exact ⟨b, q1, by rw [n4 k hku, z 48 k (by decide) (by omega)]; exact q2, by rw [n3 2 k (by decide) (by omega), zo k hku]; exact q3⟩
        · obtain ⟨b, q1, q2, q3⟩ := byte_ok (wdF p1 p2 p3 p4 p5 (k - u) >>> (shF ((k - u) % 4) &&& 31))
          have h1 := n5 (k - u) (by omega)
          have h2 := zn (k - u) (by omega)
          rw [show u + (k - u) = k by omega] at h1 h2
          exact ⟨b, q1, h1.trans q2, by rw [n3 2 k (by decide) (by omega), h2, q3]⟩
      · obtain ⟨c1, c2, c3, c4, c5⟩ := hC
        refine ⟨?_, ?_, ?_, ?_, ?_⟩
        all_goals rw [y _ _ (by omega) (by omega) (by omega) (by omega), y _ _ (by omega) (by omega) (by omega) (by omega)]
        · exact c1
        · exact c2
        · exact c3
        · exact c4
        · exact c5
  · refine ⟨-1, I, ab_up1 I 47 0 0, ?_, ?_, rel_agr hr0 (agr_up agr_rf rfl)⟩
    · unfold f_x_feed17
      rw [t2, if_pos (by rw [show (580 : Int32) = Int32.ofNat 580 from rfl, i_lt (by omega) (by omega)]; omega)]
    · unfold f_m_feed266
      rw [t3, if_pos (by rw [show Int32.ofNat u + 20 = Int32.ofNat (u + 20) from i_addr (n := 20), show (600 : Int32) = Int32.ofNat 600 from rfl, i_lt (by omega) (by omega)]; omega)]
