/-! texts: how each begins and ends -/
section TEXT
variable {I : MJ} {B : Nat → Nat} {n u : Nat}
theorem nTx_ok {k mo : Nat} (hu : I 1 1 = Int32.ofNat u) (h6 : u ≤ 600) (h1 : k ≤ mo) (h2 : k ≤ u) (h3 : mo ≤ 600) : f_x_needText37 (Int32.ofNat k) (Int32.ofNat mo) I = some (.inr (), I) := by
  unfold f_x_needText37
  by_cases h : u < mo
  · rw [if_pos (by rw [hu]; exact lt_l h (by omega)), hu, show f_x_needWithin38 (Int32.ofNat k) 0 (Int32.ofNat u) I = _ from nWW_ok (lo := 0) (Nat.zero_le _) h2 (by omega), tb_inr]
  · rw [if_neg (by rw [hu]; exact nlt_l h (by omega) (by omega)), show f_x_needWithin38 (Int32.ofNat k) 0 (Int32.ofNat mo) I = _ from nWW_ok (lo := 0) (Nat.zero_le _) h1 (by omega), tb_inr]
theorem nTx_no {p : Int32} {mo : Nat} (hu : I 1 1 = Int32.ofNat u) (h6 : u ≤ 600) (h3 : mo ≤ 600) (h : p < Int32.ofNat 0 ∨ Int32.ofNat (min u mo) < p) : f_x_needText37 p (Int32.ofNat mo) I = some (.inl 1, ab_up1 I 0 15 (I 0 15 + 1)) := by
  unfold f_x_needText37
  by_cases h1 : u < mo
  · rw [min_l (by omega)] at h
    rw [if_pos (by rw [hu]; exact lt_l h1 (by omega)), hu, show f_x_needWithin38 p 0 (Int32.ofNat u) I = _ from nWW_no h]
    rfl
  · rw [min_r (by omega)] at h
    rw [if_neg (by rw [hu]; exact nlt_l h1 (by omega) (by omega)), show f_x_needWithin38 p 0 (Int32.ofNat mo) I = _ from nWW_no h]
    rfl
/-- the model's two bounds of a text say the same -/
theorem mTx_no {p : Int32} {mo : Nat} (h6 : u ≤ 600) (h3 : mo ≤ 600) (h : p < Int32.ofNat 0 ∨ Int32.ofNat (min u mo) < p) : (p < Int32.ofNat 0 ∨ Int32.ofNat u < p) ∨ Int32.ofNat mo < p := by
  rcases h with h | h
  · exact Or.inl (Or.inl h)
  · by_cases h1 : u < mo
    · rw [min_l (by omega)] at h
      exact Or.inl (Or.inr h)
    · rw [min_r (by omega)] at h
      exact Or.inr h
theorem tape_B (h : rTape u I) : ∃ B : Nat → Nat, ∀ k, k < u → B k < 256 ∧ I 48 k = Int32.ofNat (B k) ∧ I 2 k = sb8 (B k) := by
  refine ⟨fun k => (I 48 k).toNatClampNeg, fun k hk => ?_⟩
  obtain ⟨b, hb, h1, h2⟩ := h.2.2.2 k hk
  have e : (I 48 k).toNatClampNeg = b := by rw [h1]; exact i_clamp (by omega)
  try dsimp only
  rw [e]
  exact ⟨hb, h1, h2⟩
theorem x_open (hn : n ≤ 600) (hB : ∀ k, k < n → B k < 256 ∧ I 2 k = sb8 (B k)) : ∃ J, f_tap_open40 (Int32.ofNat n) I = some J ∧ cR B n J (sk B n 0) ∧ ∀ a k, ¬ (a = 1 ∧ 2 ≤ k ∧ k ≤ 6) → J a k = I a k := by
  unfold f_tap_open40
  refine ⟨_, rfl, ⟨⟨hn, ?_, fun k hk => ⟨(hB k hk).1, ?_⟩⟩, ?_, ?_, 0, Nat.zero_le _, ?_, rfl⟩, fun a k h => ?_⟩
  · rw [up_ne (by omega), up_ne (by omega), up_eq]
  · rw [up_ne (by omega), up_ne (by omega), up_ne (by omega), up_ne (by omega), up_ne (by omega)]
    exact (hB k hk).2
  · rw [up_ne (by omega), up_eq]
  · rw [up_eq]
  · rw [up_ne (by omega), up_ne (by omega), up_ne (by omega), up_ne (by omega), up_eq]
    rfl
  · rw [up_ne (by omega), up_ne (by omega), up_ne (by omega), up_ne (by omega), up_ne (by omega)]
theorem m_starts (hn : n ≤ 600) (hB : ∀ k, k < n → B k < 256 ∧ I 48 k = Int32.ofNat (B k)) : ∃ J, f_m_starts269 (Int32.ofNat n) I = some J ∧ mR B n J (sk B n 0) ∧ J 47 4 = Int32.ofNat (sk B n 0) ∧ (J 47 1 = Int32.ofNat 0 ∧ J 47 7 = Int32.ofNat 0 ∧ J 47 8 = Int32.ofNat 0) ∧ ∀ a k, ¬ (a = 47 ∧ (k = 1 ∨ k = 2 ∨ k = 4 ∨ k = 5 ∨ k = 6 ∨ k = 7 ∨ k = 8)) → J a k = I a k := by
  unfold f_m_starts269
  generalize hJ : ab_up1 (ab_up1 (ab_up1 (ab_up1 (ab_up1 (ab_up1 (ab_up1 I 47 1 (0 : Int32)) 47 2 (Int32.ofNat n)) 47 4 (0 : Int32)) 47 5 (0 : Int32)) 47 6 (-1 : Int32)) 47 7 (0 : Int32)) 47 8 (0 : Int32) = J
  have f : ∀ a k, ¬ (a = 47 ∧ (k = 1 ∨ k = 2 ∨ k = 4 ∨ k = 5 ∨ k = 6 ∨ k = 7 ∨ k = 8)) → J a k = I a k := fun a k h => by
    rw [← hJ, up_ne (by omega), up_ne (by omega), up_ne (by omega), up_ne (by omega), up_ne (by omega), up_ne (by omega), up_ne (by omega)]
  have j : mR B n J (sk B n 0) := by
    refine ⟨⟨hn, ?_, fun k hk => ⟨(hB k hk).1, ?_⟩⟩, ?_, ?_, 0, Nat.zero_le _, ?_, rfl⟩
    · rw [← hJ, up_ne (by omega), up_ne (by omega), up_ne (by omega), up_ne (by omega), up_ne (by omega), up_eq]
    · rw [f 48 k (by omega)]
      exact (hB k hk).2
    · rw [← hJ, up_ne (by omega), up_ne (by omega), up_ne (by omega), up_eq]
    · rw [← hJ, up_ne (by omega), up_ne (by omega), up_eq]
    · rw [← hJ, up_ne (by omega), up_ne (by omega), up_ne (by omega), up_ne (by omega), up_eq]
      rfl
  have z1 : J 47 1 = Int32.ofNat 0 := by
    rw [← hJ, up_ne (by omega), up_ne (by omega), up_ne (by omega), up_ne (by omega), up_ne (by omega), up_ne (by omega), up_eq]
    rfl
  have z7 : J 47 7 = Int32.ofNat 0 := by
    rw [← hJ, up_ne (by omega), up_eq]
    rfl
  have z8 : J 47 8 = Int32.ofNat 0 := by
    rw [← hJ, up_eq]
    rfl
  obtain ⟨h1, h2, h3, h4⟩ := mR_blanks j
  have h4' := h4
  rw [h3, ob_some]
  refine ⟨_, rfl, ?_, up_eq, ⟨by rw [up_ne (by omega)]; exact z1, by rw [up_ne (by omega)]; exact z7, by rw [up_ne (by omega)]; exact z8⟩, fun a k h => by rw [up_ne (by omega), f a k h]⟩
  exact h4'
theorem x_close {v : Int32} {J : MJ} : f_tap_close65 v J = some (if J 1 5 = 0 then v else J 1 5 - 10, ab_up1 J 1 1 0) := by
  unfold f_tap_close65
  rw [o_ite, ob_some]
theorem m_lays {a b r many : Nat} (ha : ∀ k, k < many → rdp a (Int32.ofNat k) = some (a + 1 + k)) (hb : ∀ k, k < many → rdp b (Int32.ofNat k) = some (b + 1 + k)) (hKa : ∀ k, k < many → KS (a + 1 + k) = (100, r)) (hKb : ∀ k, k < many → KS (b + 1 + k) = (100, r)) (hr : r < 1000) (hm : many < 1000) (ha2 : a + many < 699) (hb2 : b + many < 699) (hd : a + many ≤ b ∨ b + many ≤ a) : ∃ J, f_m_lays263 a b (Int32.ofNat many) I = some J ∧ (∀ g k, ¬ (b < g ∧ g ≤ b + many) → J g k = I g k) ∧ ∀ k, k < many → ∀ i, i < r → J (b + 1 + k) i = I (a + 1 + k) i := by
  unfold f_m_lays263
  refine bindx (wh_inv (fun k s => ∃ J : MJ, s = (Int32.ofNat k, J) ∧ (∀ g j, ¬ (b < g ∧ g ≤ b + many) → J g j = I g j) ∧ ∀ j, j < k → ∀ i, i < r → J (b + 1 + j) i = I (a + 1 + j) i) _ many ?_ ?_ ⟨I, rfl, fun _ _ _ => rfl, fun j hj => absurd hj (Nat.not_lt_zero j)⟩)
  · intro k hk s hs
    obtain ⟨J, rfl, j1, j2⟩ := hs
    try dsimp only
    rw [if_pos (lt_l hk (by omega))]
    refine bindl (wh_inv (fun i s => ∃ M : MJ, s = (Int32.ofNat i, M) ∧ (∀ g j, g ≠ b + 1 + k → M g j = J g j) ∧ ∀ j, j < i → M (b + 1 + k) j = I (a + 1 + k) j) _ r ?_ ?_ ⟨J, rfl, fun _ _ _ => rfl, fun j hj => absurd hj (Nat.not_lt_zero j)⟩)
    · intro i hi s hs
      obtain ⟨M, rfl, m1, m2⟩ := hs
      try dsimp only
      rw [hb k hk, ob_some, KS_in (hKb k hk) (by decide), if_pos (by omega), ob_some, if_pos (lt_l hi (by omega)), ob_some, ha k hk, ob_some, rd_ok (hKa k hk) hi (by omega) (by omega), ob_some, wr_ok (hKb k hk) hi (by omega) (by omega), ob_some]
      refine ⟨_, rfl, _, Prod.ext i_addr rfl, fun g j hg => by rw [up_ne (fun h => hg h.1), m1 g j hg], fun j hj => ?_⟩
      by_cases e : j = i
      · rw [e, up_eq, m1 _ _ (by omega), j1 _ _ (by omega)]
      · rw [up_ne (fun h => e h.2), m2 j (by omega)]
    · intro s hs
      obtain ⟨M, rfl, m1, m2⟩ := hs
      try dsimp only
      rw [hb k hk, ob_some, KS_in (hKb k hk) (by decide), if_pos (by omega), ob_some, if_neg Int32.lt_irrefl]
      refine ⟨_, rfl, _, rfl, M, Prod.ext i_addr rfl, fun g j hg => by rw [m1 g j (by omega), j1 g j hg], fun j hj i hi => ?_⟩
      by_cases e : j = k
      · rw [e]
        exact m2 i hi
      · rw [m1 _ _ (by omega), j2 j (by omega) i hi]
  · intro s hs
    obtain ⟨J, rfl, j1, j2⟩ := hs
    try dsimp only
    rw [if_neg Int32.lt_irrefl]
    exact ⟨_, rfl, J, rfl, j1, j2⟩
theorem sk_le {p : Nat} (hp : p ≤ n) : p ≤ sk B n p ∧ sk B n p ≤ n := ⟨(scn_ok hp).1, (scn_ok hp).2.1⟩
theorem nmE_gt {q : Nat} (hq : q < n) (h : dgP B q = true) : q + 1 ≤ nmE B n q ∧ nmE B n q ≤ n := by
  have := scn_ok (P := dgP B) (n := n) (p := q + 1) hq
  unfold nmE
  rw [scn_yes hq h]
  exact ⟨this.1, this.2.1⟩
theorem wdE_ge {q : Nat} (hq : q ≤ n) : q ≤ wdE B n q ∧ wdE B n q ≤ n := ⟨(scn_ok hq).1, (scn_ok hq).2.1⟩
theorem nmO_0 {q lo m : Nat} (h : nmO B n q lo m = 0) : q < n ∧ dgP B q = true ∧ lo ≤ nmV B n q ∧ nmV B n q < m := by
  unfold nmO at h
  by_cases h1 : q < n ∧ dgP B q = true
  · rw [if_neg (fun z => z h1)] at h
    by_cases h2 : lo ≤ nmV B n q ∧ nmV B n q < m
    · exact ⟨h1.1, h1.2, h2.1, h2.2⟩
    · rw [if_neg h2] at h
      cases h
  · rw [if_pos h1] at h
    cases h
theorem wIx_lt : ∀ (ls : List (List Nat)) (w : List Nat) (j : Nat), wIx ls w = some j → j < ls.length
  | [], w, j, hj => by cases hj
  | a :: ls, w, j, hj => by
    by_cases ha : a = w
    · rw [wIx_yes ha] at hj
      cases hj
      exact Nat.succ_pos _
    · rw [wIx_no ha] at hj
      cases hr : wIx ls w with
      | none => rw [hr] at hj; cases hj
      | some i =>
        rw [hr] at hj
        have := wIx_lt ls w i hr
        have hj2 : i + 1 = j := Option.some.inj hj
        rw [List.length_cons]
        omega
end TEXT
