/-! shop: what the model keeps -/
theorem m_stands {I : MJ} {nb nc nw no : Nat} (l1 : nb ≤ 10) (l2 : nc ≤ 6) (l3 : nw ≤ 16) (l4 : no ≤ 8) (h0 : I 50 0 = Int32.ofNat nb) (h1 : I 50 1 = Int32.ofNat nc) (h2 : I 50 2 = Int32.ofNat nw) (h3 : I 50 3 = Int32.ofNat no) : ∃ K, f_m_stands262 I = some K ∧ (∀ j, j < 6 → K 51 j = I 50 j) ∧ (∀ c, c < nc → K 53 c = I 52 c) ∧ (∀ b, b < nb → ∀ i, i < 2 → K (66 + b) i = I (55 + b) i) ∧ (∀ w, w < nw → ∀ i, i < 5 → K (94 + w) i = I (77 + w) i) ∧ (∀ w, w < no → ∀ i, i < 5 → K (120 + w) i = I (111 + w) i) ∧ (∀ k, k < 91 → K 576 k = if 82 ≤ k ∧ k ≤ 87 then -1 else if k < nb then I (55 + k) 1 else 0) ∧ (∀ p, p < 6 → K 135 p = 0) ∧ (K 47 25 = 0 ∧ K 47 39 = 0 ∧ K 47 40 = 0 ∧ K 47 41 = 0 ∧ K 47 42 = 0) ∧ ∀ a k, a ≠ 51 → a ≠ 53 → ¬ (66 ≤ a ∧ a < 76) → ¬ (94 ≤ a ∧ a < 110) → ¬ (120 ≤ a ∧ a < 128) → a ≠ 576 → a ≠ 135 → ¬ (a = 47 ∧ (k = 25 ∨ k = 39 ∨ k = 40 ∨ k = 41 ∨ k = 42)) → K a k = I a k := by
  unfold f_m_stands262
  refine bindx (wh_inv (fun i s => ∃ J : MJ, s = (Int32.ofNat i, J) ∧ (∀ a k, a ≠ 51 → J a k = I a k) ∧ ∀ k, k < i → J 51 k = I 50 k) _ 6 ?_ ?_ ⟨I, rfl, fun _ _ _ => rfl, fun k hk => absurd hk (Nat.not_lt_zero k)⟩)
  · intro i hi s hs
    obtain ⟨J, rfl, j1, j2⟩ := hs
    try dsimp only
    rw [if_pos (show Int32.ofNat i < (6 : Int32) from lt_l (b := 6) hi (by decide)), rd_50 hi, ob_some, wr_51 hi, ob_some]
    refine ⟨_, rfl, _, Prod.ext i_addr rfl, fun a k ha => by rw [up_ne (fun z => ha z.1), j1 a k ha], fun k hk => ?_⟩
    by_cases e : k = i
    · subst e
      rw [up_eq, j1 _ _ (by omega)]
    · rw [up_ne (fun z => e z.2), j2 k (by omega)]
  intro s hs
  obtain ⟨J1, rfl, j1, j2⟩ := hs
  try dsimp only
  rw [if_neg (show ¬ Int32.ofNat 6 < (6 : Int32) from nlt_l (b := 6) (by decide) (by decide) (by decide))]
  refine ⟨_, rfl, ?_⟩
  refine bindx (wh_inv (fun i s => ∃ J : MJ, s = (Int32.ofNat i, J) ∧ (∀ a k, a ≠ 53 → J a k = J1 a k) ∧ ∀ k, k < i → J 53 k = I 52 k) _ nc ?_ ?_ ⟨J1, rfl, fun _ _ _ => rfl, fun k hk => absurd hk (Nat.not_lt_zero k)⟩)
  · intro i hi s hs
    obtain ⟨J, rfl, k1, k2⟩ := hs
    try dsimp only
    rw [if_pos (by rw [k1 _ _ (by omega), j2 1 (by decide), h1]; exact lt_l hi (by omega)), rd_52 (by omega), ob_some, wr_53 (by omega), ob_some]
    refine ⟨_, rfl, _, Prod.ext i_addr rfl, fun a k ha => by rw [up_ne (fun z => ha z.1), k1 a k ha], fun k hk => ?_⟩
    by_cases e : k = i
    · subst e
      rw [up_eq, k1 _ _ (by omega), j1 _ _ (by omega)]
    · rw [up_ne (fun z => e z.2), k2 k (by omega)]
  intro s hs
  obtain ⟨J2, rfl, k1, k2⟩ := hs
  try dsimp only
  rw [if_neg (by rw [k1 _ _ (by omega), j2 1 (by decide), h1]; exact nlt_l (Nat.lt_irrefl _) (by omega) (by omega))]
  refine ⟨_, rfl, ?_⟩
  obtain ⟨J3, a1, a2, a3⟩ := m_lays (I := J2) (a := 54) (b := 65) (r := 2) (many := nb) (fun k hk => rdp_54 (by omega)) (fun k hk => rdp_65 (by omega)) (fun k hk => KS_54 k (by omega)) (fun k hk => KS_65 k (by omega)) (by decide) (by omega) (by omega) (by omega) (by omega)
  rw [k1 51 0 (by omega), j2 0 (by decide), h0, a1, ob_some]
  obtain ⟨J4, b1, b2, b3⟩ := m_lays (I := J3) (a := 76) (b := 93) (r := 5) (many := nw) (fun k hk => rdp_76 (by omega)) (fun k hk => rdp_93 (by omega)) (fun k hk => KS_76 k (by omega)) (fun k hk => KS_93 k (by omega)) (by decide) (by omega) (by omega) (by omega) (by omega)
  rw [a2 51 2 (by omega), k1 51 2 (by omega), j2 2 (by decide), h2, b1, ob_some]
  obtain ⟨J5, c1, c2, c3⟩ := m_lays (I := J4) (a := 110) (b := 119) (r := 5) (many := no) (fun k hk => rdp_110 (by omega)) (fun k hk => rdp_119 (by omega)) (fun k hk => KS_110 k (by omega)) (fun k hk => KS_119 k (by omega)) (by decide) (by omega) (by omega) (by omega) (by omega)
  rw [b2 51 3 (by omega), a2 51 3 (by omega), k1 51 3 (by omega), j2 3 (by decide), h3, c1, ob_some]
  have f5 : ∀ a k, a ≠ 51 → a ≠ 53 → ¬ (66 ≤ a ∧ a < 76) → ¬ (94 ≤ a ∧ a < 110) → ¬ (120 ≤ a ∧ a < 128) → J5 a k = I a k := fun a k g1 g2 g3 g4 g5 => by rw [c2 a k (by omega), b2 a k (by omega), a2 a k (by omega), k1 a k (by omega), j1 a k (by omega)]
  have e51 : ∀ j, j < 6 → J5 51 j = I 50 j := fun j hj => by rw [c2 _ _ (by omega), b2 _ _ (by omega), a2 _ _ (by omega), k1 _ _ (by omega), j2 j hj]
  have e53 : ∀ c, c < nc → J5 53 c = I 52 c := fun c hc => by rw [c2 _ _ (by omega), b2 _ _ (by omega), a2 _ _ (by omega), k2 c hc]
  have e66 : ∀ b, b < nb → ∀ i, i < 2 → J5 (66 + b) i = I (55 + b) i := fun b hb i hi => by rw [c2 _ _ (by omega), b2 _ _ (by omega), show 66 + b = 65 + 1 + b by omega, a3 b hb i hi, k1 _ _ (by omega), j1 _ _ (by omega)]
  have e94 : ∀ w, w < nw → ∀ i, i < 5 → J5 (94 + w) i = I (77 + w) i := fun b hb i hi => by rw [c2 _ _ (by omega), show 94 + b = 93 + 1 + b by omega, b3 b hb i hi, a2 _ _ (by omega), k1 _ _ (by omega), j1 _ _ (by omega)]
  have e120 : ∀ w, w < no → ∀ i, i < 5 → J5 (120 + w) i = I (111 + w) i := fun b hb i hi => by rw [show 120 + b = 119 + 1 + b by omega, c3 b hb i hi, b2 _ _ (by omega), a2 _ _ (by omega), k1 _ _ (by omega), j1 _ _ (by omega)]
  refine bindx (wh_inv (fun i s => ∃ J : MJ, s = (Int32.ofNat i, J) ∧ (∀ a k, a ≠ 576 → J a k = J5 a k) ∧ ∀ k, k < i → J 576 k = if 82 ≤ k ∧ k ≤ 87 then -1 else 0) _ 91 ?_ ?_ ⟨J5, rfl, fun _ _ _ => rfl, fun k hk => absurd hk (Nat.not_lt_zero k)⟩)
  · intro i hi s hs
    obtain ⟨J, rfl, m1, m2⟩ := hs
    try dsimp only
    rw [if_pos (show Int32.ofNat i < (91 : Int32) from lt_l (b := 91) hi (by decide))]
    have e : ∃ v, f_m_in264 (Int32.ofNat i) 82 87 J = some v ∧ (if v = 0 then some (0 : Int32) else some (-1 : Int32)) = some (if 82 ≤ i ∧ i ≤ 87 then -1 else 0) := by
      by_cases g : 82 ≤ i ∧ i ≤ 87
      · refine ⟨1, inW_ok (lo := 82) (hi := 87) g.1 g.2 (by decide), ?_⟩
        rw [if_neg (by decide), if_pos g]
      · refine ⟨0, inW_no ?_, ?_⟩
        · by_cases g1 : i < 82
          · exact Or.inl (lt_l (b := 82) g1 (by decide))
          · exact Or.inr (lt_l (a := 87) (by omega) (by omega))
        · rw [if_pos rfl, if_neg g]
    obtain ⟨v, e1, e2⟩ := e
    rw [e1, ob_some]
    refine bindl ⟨_, e2, ?_⟩
    rw [wr_576 hi, ob_some]
    refine ⟨_, rfl, _, Prod.ext i_addr rfl, fun a k ha => by rw [up_ne (fun z => ha z.1), m1 a k ha], fun k hk => ?_⟩
    by_cases e : k = i
    · subst e
      rw [up_eq]
    · rw [up_ne (fun z => e z.2), m2 k (by omega)]
  intro s hs
  obtain ⟨J6, rfl, m1, m2⟩ := hs
  try dsimp only
  rw [if_neg (show ¬ Int32.ofNat 91 < (91 : Int32) from nlt_l (b := 91) (by decide) (by decide) (by decide))]
  refine ⟨_, rfl, ?_⟩
  refine bindx (wh_inv (fun i s => ∃ J : MJ, s = (Int32.ofNat i, J) ∧ (∀ a k, a ≠ 576 → J a k = J5 a k) ∧ ∀ k, k < 91 → J 576 k = if 82 ≤ k ∧ k ≤ 87 then -1 else if k < i then I (55 + k) 1 else 0) _ nb ?_ ?_ ⟨J6, rfl, m1, fun k hk => by rw [m2 k hk, if_neg (show ¬ k < 0 by omega)]⟩)
  · intro i hi s hs
    obtain ⟨J, rfl, p1, p2⟩ := hs
    try dsimp only
    rw [if_pos (by rw [p1 _ _ (by omega), e51 0 (by decide), h0]; exact lt_l hi (by omega)), rdp_65 (by omega), ob_some, rdrl_65 (by omega) (by decide), ob_some, show (0 : Int32) + Int32.ofNat i = Int32.ofNat (0 + i) from i_addl, wr_576 (by omega), ob_some]
    refine ⟨_, rfl, _, Prod.ext i_addr rfl, fun a k ha => by rw [up_ne (fun z => ha z.1), p1 a k ha], fun k hk => ?_⟩
    by_cases e : k = 0 + i
    · subst e
      rw [up_eq, if_neg (by omega), if_pos (by omega), p1 _ _ (by omega), show 0 + i = i by omega]
      exact e66 i hi 1 (by decide)
    · rw [up_ne (fun z => e z.2), p2 k hk]
      by_cases e0 : 82 ≤ k ∧ k ≤ 87
      · rw [if_pos e0, if_pos e0]
      · rw [if_neg e0, if_neg e0]
        by_cases e2 : k < i
        · rw [if_pos e2, if_pos (by omega)]
        · rw [if_neg e2, if_neg (by omega)]
  intro s hs
  obtain ⟨J7, rfl, p1, p2⟩ := hs
  try dsimp only
  rw [if_neg (by rw [p1 _ _ (by omega), e51 0 (by decide), h0]; exact nlt_l (Nat.lt_irrefl _) (by omega) (by omega))]
  refine ⟨_, rfl, ?_⟩
  refine bindx (wh_inv (fun i s => ∃ J : MJ, s = (Int32.ofNat i, J) ∧ (∀ a k, a ≠ 135 → J a k = J7 a k) ∧ ∀ k, k < i → J 135 k = 0) _ 6 ?_ ?_ ⟨J7, rfl, fun _ _ _ => rfl, fun k hk => absurd hk (Nat.not_lt_zero k)⟩)
  · intro i hi s hs
    obtain ⟨J, rfl, r1, r2⟩ := hs
    try dsimp only
    rw [if_pos (show Int32.ofNat i < (6 : Int32) from lt_l (b := 6) hi (by decide)), wrb_135 hi, nar_0, ob_some]
    refine ⟨_, rfl, _, Prod.ext i_addr rfl, fun a k ha => by rw [up_ne (fun z => ha z.1), r1 a k ha], fun k hk => ?_⟩
    by_cases e : k = i
    · subst e
      rw [up_eq]
    · rw [up_ne (fun z => e z.2), r2 k (by omega)]
  intro s hs
  obtain ⟨J8, rfl, r1, r2⟩ := hs
  try dsimp only
  rw [if_neg (show ¬ Int32.ofNat 6 < (6 : Int32) from nlt_l (b := 6) (by decide) (by decide) (by decide))]
  refine ⟨_, rfl, _, rfl, ?_⟩
  have g : ∀ a k, ¬ (a = 47 ∧ (k = 25 ∨ k = 39 ∨ k = 40 ∨ k = 41 ∨ k = 42)) → (ab_up1 (ab_up1 (ab_up1 (ab_up1 (ab_up1 J8 47 25 (0 : Int32)) 47 39 (0 : Int32)) 47 40 (0 : Int32)) 47 41 (0 : Int32)) 47 42 (0 : Int32)) a k = J8 a k := fun a k h => by rw [up_ne (by omega), up_ne (by omega), up_ne (by omega), up_ne (by omega), up_ne (by omega)]
  have g2 : ∀ a k, ¬ (a = 47 ∧ (k = 25 ∨ k = 39 ∨ k = 40 ∨ k = 41 ∨ k = 42)) → a ≠ 135 → a ≠ 576 → (ab_up1 (ab_up1 (ab_up1 (ab_up1 (ab_up1 J8 47 25 (0 : Int32)) 47 39 (0 : Int32)) 47 40 (0 : Int32)) 47 41 (0 : Int32)) 47 42 (0 : Int32)) a k = J5 a k := fun a k h h2 h3 => by rw [g a k h, r1 a k h2, p1 a k h3]
  refine ⟨fun j hj => ?_, fun c hc => ?_, fun b hb i hi => ?_, fun b hb i hi => ?_, fun b hb i hi => ?_, fun k hk => ?_, fun p hp => ?_, ⟨?_, ?_, ?_, ?_, up_eq⟩, fun a k q1 q2 q3 q4 q5 q6 q7 q8 => ?_⟩
  · rw [g2 _ _ (by omega) (by omega) (by omega), e51 j hj]
  · rw [g2 _ _ (by omega) (by omega) (by omega), e53 c hc]
  · rw [g2 _ _ (by omega) (by omega) (by omega), e66 b hb i hi]
  · rw [g2 _ _ (by omega) (by omega) (by omega), e94 b hb i hi]
  · rw [g2 _ _ (by omega) (by omega) (by omega), e120 b hb i hi]
  · rw [g _ _ (by omega), r1 _ _ (by omega), p2 k hk]
  · rw [g _ _ (by omega), r2 p hp]
  · rw [up_ne (by omega), up_ne (by omega), up_ne (by omega), up_ne (by omega), up_eq]
  · rw [up_ne (by omega), up_ne (by omega), up_ne (by omega), up_eq]
  · rw [up_ne (by omega), up_ne (by omega), up_eq]
  · rw [up_ne (by omega), up_eq]
  · rw [g2 _ _ q8 q7 q6, f5 a k q1 q2 q3 q4 q5]
