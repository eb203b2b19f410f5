/-! shop: the loops of the clauses -/
theorem b_assoc {α β γ : Type} {a : Option α} {f : α → Option β} {k : β → Option γ} : (Option.bind a fun x => Option.bind (f x) k) = Option.bind (Option.bind a f) k := by cases a <;> rfl
noncomputable def shC : Int32 × MJ → Option ((Int32 × MJ) ⊕ MJ) := fun (s1 : Int32 × MJ) =>
  (if (60 : Int32) < s1.1 then
  some (.inr s1.2)
  else
  (Option.bind (f_tap_hasMore42 s1.2) fun w3 =>
  (if w3.1 = 0 then
  some (.inr w3.2)
  else
  (Option.bind (f_sho_readClause44 s1.1 w3.2) fun I4 =>
  (Option.bind (f_tap_sign58 (59 : Int32) I4) fun I5 =>
  some (.inl ((s1.1 + (1 : Int32)), I5))
  )
  )
  )
  )
  )
noncomputable def shM : MJ → Option (MJ ⊕ MJ) := fun (s6 : MJ) =>
  (if (s6 47 5) = 0 then
  (if (s6 47 4) < (s6 47 2) then
  (Option.bind (f_m_clause272 s6) fun I10 =>
  (Option.bind (f_m_blanks270 I10) fun I11 =>
  some (.inl I11)
  )
  )
  else
  some (.inr s6)
  )
  else
  some (.inr s6)
  )
theorem shC_f {s : Int32 × MJ} (h : ¬ s.2 1 5 = 0) : shC s = some (.inr s.2) := by
  unfold shC
  rw [x_more_f h, ob_some, if_pos rfl]
  split <;> rfl
theorem shM_f {J : MJ} (h : ¬ J 47 5 = 0) : shM J = some (.inr J) := by
  unfold shM
  rw [if_neg h]
theorem sD_c {i nb nc nw no se ha : Nat} {Jc Jm Kc : MJ} (h : sD i nb nc nw no se ha Jc Jm) (h1 : ∀ a k, 9 ≤ a → a ≤ 14 → Kc a k = Jc a k) : sD i nb nc nw no se ha Kc Jm := by
  obtain ⟨l, D7, ⟨c0, c1, c2, c3, c4, c5⟩, dm, DB, DC, DW, DO⟩ := h
  exact ⟨l, D7, ⟨(h1 _ _ (by omega) (by omega)).trans c0, (h1 _ _ (by omega) (by omega)).trans c1, (h1 _ _ (by omega) (by omega)).trans c2, (h1 _ _ (by omega) (by omega)).trans c3, (h1 _ _ (by omega) (by omega)).trans c4, (h1 _ _ (by omega) (by omega)).trans c5⟩, dm, sB_c DB (fun b _ => ⟨h1 _ _ (by omega) (by omega), h1 _ _ (by omega) (by omega)⟩) (fun _ _ _ => rfl), sC_c DC (fun b _ => h1 _ _ (by omega) (by omega)) (fun _ _ => rfl), sW_c DW (Nat.le_refl _) (fun j _ => h1 _ _ (by omega) (by omega)) (fun _ _ _ => rfl), sO_c DO (Nat.le_refl _) (fun j _ => h1 _ _ (by omega) (by omega)) (fun _ _ _ => rfl)⟩
theorem fcS_2 {I J K : MJ} (h : fcS I J) (f : fcS J K) : fcS I K := fun a k h1 h2 => (f a k h1 h2).trans (h a k h1 h2)
theorem fmS_2 {I J K : MJ} (h : fmS I J) (f : fmS J K) : fmS I K := fun a k h1 h2 h3 h4 h5 h6 => (f a k h1 h2 h3 h4 h5 h6).trans (h a k h1 h2 h3 h4 h5 h6)
theorem shop_run {B : Nat → Nat} {n : Nat} {C0 M0 : MJ} : ∀ (f i q nb nc nw no se ha : Nat) (Jc Jm : MJ), n - q < f → cR B n Jc q → mR B n Jm q → Jm 47 4 = Int32.ofNat q → sD i nb nc nw no se ha Jc Jm → fcS C0 Jc → fmS M0 Jm → ∃ bc bm, wh shC (Int32.ofNat i, Jc) = some bc ∧ wh shM Jm = some bm ∧ fcS C0 bc ∧ fmS M0 bm ∧ ((∃ i nb nc nw no se ha, sD i nb nc nw no se ha bc bm ∧ bc 1 5 = 0 ∧ bc 1 6 = -1 ∧ bm 47 5 = 0) ∨ ∃ k w, cX bc k w ∧ bm 47 5 = Int32.ofNat k ∧ bm 47 6 = Int32.ofNat w)
  | 0, i, q, nb, nc, nw, no, se, ha, Jc, Jm, hf, _, _, _, _, _, _ => by omega
  | f + 1, i, q, nb, nc, nw, no, se, ha, Jc, Jm, hf, hc, hm, h4, hD, f1, f2 => by
    have hi : i ≤ 60 := hD.1.2.2.2.2.2.2.2
    have hn := hc.1.1
    have hqn := (cR_next hc).1
    obtain ⟨J1, x1, x2, x3, x4⟩ := x_more hc
    by_cases hq : q < n
    · rw [if_pos hq] at x1
      obtain ⟨st, Kc, Km, a1, a2, a3, a4, a5, a6⟩ := clause_it x2 hm hq (sD_c hD fun a k _ _ => x3 a k (by omega))
      have e1 : shC (Int32.ofNat i, Jc) = some (.inl (Int32.ofNat (i + 1), Kc)) := by
        unfold shC
        try dsimp only
        rw [if_neg (show ¬ (60 : Int32) < Int32.ofNat i from nlt_l (a := 60) (by omega) (by decide) (by omega)), x1, ob_some, if_neg (show ¬ (1 : Int32) = 0 by decide), b_assoc, a1, ob_some, i_addr]
      have e2 : shM Jm = some (.inl Km) := by
        unfold shM
        rw [if_pos hm.2.1, if_pos (by rw [h4, hm.1.2.1]; exact lt_l hq (by omega)), b_assoc, a2, ob_some]
      have f1' := fcS_2 (fcS_1 f1 x3) a4
      have f2' := fmS_2 f2 a5
      cases st with
      | some q' =>
        obtain ⟨g1, g2, g3, nb', nc', nw', no', se', ha', g4⟩ := a6 q' rfl
        obtain ⟨bc, bm, r1, r2, r3⟩ := shop_run f (i + 1) q' nb' nc' nw' no' se' ha' Kc Km (by omega) a3.1 a3.2 g2 g4 f1' f2'
        exact ⟨bc, bm, (wh_inl e1).trans r1, (wh_inl e2).trans r2, r3⟩
      | none =>
        obtain ⟨k, w, g1, g2⟩ := a3
        exact ⟨Kc, Km, (wh_inl e1).trans (wh_inr (shC_f (cX_ne g1))), (wh_inl e2).trans (wh_inr (shM_f (mX_ne g2))), f1', f2', Or.inr ⟨k, w, g1, g2.2.1, g2.2.2.1⟩⟩
    · rw [if_neg hq] at x1
      refine ⟨J1, Jm, wh_inr ?_, wh_inr ?_, fcS_1 f1 x3, f2, Or.inl ⟨i, nb, nc, nw, no, se, ha, sD_c hD fun a k _ _ => x3 a k (by omega), x2.2.1, x2.2.2.1, hm.2.1⟩⟩
      · unfold shC
        try dsimp only
        rw [if_neg (show ¬ (60 : Int32) < Int32.ofNat i from nlt_l (a := 60) (by omega) (by decide) (by omega)), x1, ob_some, if_pos rfl]
      · unfold shM
        rw [if_pos hm.2.1, if_neg (by rw [h4, hm.1.2.1]; exact nlt_l hq (by omega) (by omega))]
/-! what the class keeps of a shop -/
theorem x_keepShop {I : MJ} : ∃ J, f_sho_copyFrom60 I = some J ∧ (∀ k, k < 10 → J 4 k = I 10 k ∧ J 5 k = I 11 k) ∧ (∀ k, k < 6 → J 6 k = I 12 k) ∧ (∀ k, k < 80 → J 7 k = I 13 k) ∧ (∀ k, k < 40 → J 8 k = I 14 k) ∧ (J 3 5 = I 9 5 ∧ J 3 6 = I 9 6 ∧ J 3 7 = I 9 7 ∧ J 3 8 = I 9 8 ∧ J 3 9 = I 9 9 ∧ J 3 10 = I 9 10) ∧ ∀ a k, a ≠ 3 → ¬ (4 ≤ a ∧ a ≤ 8) → J a k = I a k := by
  unfold f_sho_copyFrom60
  rw [show f_x_copy22 10 0 4 0 10 I = _ from copy_ok (la := 10) (lb := 10) (sp := 0) (dp := 0) (n := 10) rfl rfl (by decide) (by decide) (by decide) (by decide) (by decide) (by decide), ob_some]
  generalize h1 : ab_cpy I 10 4 0 0 10 = I1
  rw [show f_x_copy22 11 0 5 0 10 I1 = _ from copy_ok (la := 10) (lb := 10) (sp := 0) (dp := 0) (n := 10) rfl rfl (by decide) (by decide) (by decide) (by decide) (by decide) (by decide), ob_some]
  generalize h2 : ab_cpy I1 11 5 0 0 10 = I2
  rw [show f_x_copy22 12 0 6 0 6 I2 = _ from copy_ok (la := 6) (lb := 6) (sp := 0) (dp := 0) (n := 6) rfl rfl (by decide) (by decide) (by decide) (by decide) (by decide) (by decide), ob_some]
  generalize h3 : ab_cpy I2 12 6 0 0 6 = I3
  rw [show f_x_copy22 13 0 7 0 80 I3 = _ from copy_ok (la := 80) (lb := 80) (sp := 0) (dp := 0) (n := 80) rfl rfl (by decide) (by decide) (by decide) (by decide) (by decide) (by decide), ob_some]
  generalize h4 : ab_cpy I3 13 7 0 0 80 = I4
  rw [show f_x_copy22 14 0 8 0 40 I4 = _ from copy_ok (la := 40) (lb := 40) (sp := 0) (dp := 0) (n := 40) rfl rfl (by decide) (by decide) (by decide) (by decide) (by decide) (by decide), ob_some]
  generalize h5 : ab_cpy I4 14 8 0 0 40 = I5
  have n1 : ∀ a k, a ≠ 4 → I1 a k = I a k := fun a k h => by rw [← h1, cpy_ne h]
  have n2 : ∀ a k, a ≠ 5 → I2 a k = I1 a k := fun a k h => by rw [← h2, cpy_ne h]
  have n3 : ∀ a k, a ≠ 6 → I3 a k = I2 a k := fun a k h => by rw [← h3, cpy_ne h]
  have n4 : ∀ a k, a ≠ 7 → I4 a k = I3 a k := fun a k h => by rw [← h4, cpy_ne h]
  have n5 : ∀ a k, a ≠ 8 → I5 a k = I4 a k := fun a k h => by rw [← h5, cpy_ne h]
  have nn : ∀ a k, ¬ (4 ≤ a ∧ a ≤ 8) → I5 a k = I a k := fun a k h => by rw [n5 a k (by omega), n4 a k (by omega), n3 a k (by omega), n2 a k (by omega), n1 a k (by omega)]
  refine ⟨_, rfl, fun k hk => ⟨?_, ?_⟩, fun k hk => ?_, fun k hk => ?_, fun k hk => ?_, ⟨?_, ?_, ?_, ?_, ?_, ?_⟩, fun a k g1 g2 => ?_⟩
  · rw [up_ne (by omega), up_ne (by omega), up_ne (by omega), up_ne (by omega), up_ne (by omega), up_ne (by omega), n5 _ _ (by omega), n4 _ _ (by omega), n3 _ _ (by omega), n2 _ _ (by omega), ← h1, cpy_at, if_pos ⟨Nat.zero_le _, by omega⟩, show 0 + (k - 0) = k by omega]
  · rw [up_ne (by omega), up_ne (by omega), up_ne (by omega), up_ne (by omega), up_ne (by omega), up_ne (by omega), n5 _ _ (by omega), n4 _ _ (by omega), n3 _ _ (by omega), ← h2, cpy_at, if_pos ⟨Nat.zero_le _, by omega⟩, show 0 + (k - 0) = k by omega, n1 _ _ (by omega)]
  · rw [up_ne (by omega), up_ne (by omega), up_ne (by omega), up_ne (by omega), up_ne (by omega), up_ne (by omega), n5 _ _ (by omega), n4 _ _ (by omega), ← h3, cpy_at, if_pos ⟨Nat.zero_le _, by omega⟩, show 0 + (k - 0) = k by omega, n2 _ _ (by omega), n1 _ _ (by omega)]
  · rw [up_ne (by omega), up_ne (by omega), up_ne (by omega), up_ne (by omega), up_ne (by omega), up_ne (by omega), n5 _ _ (by omega), ← h4, cpy_at, if_pos ⟨Nat.zero_le _, by omega⟩, show 0 + (k - 0) = k by omega, n3 _ _ (by omega), n2 _ _ (by omega), n1 _ _ (by omega)]
  · rw [up_ne (by omega), up_ne (by omega), up_ne (by omega), up_ne (by omega), up_ne (by omega), up_ne (by omega), ← h5, cpy_at, if_pos ⟨Nat.zero_le _, by omega⟩, show 0 + (k - 0) = k by omega, n4 _ _ (by omega), n3 _ _ (by omega), n2 _ _ (by omega), n1 _ _ (by omega)]
  · rw [up_ne (by omega), up_ne (by omega), up_ne (by omega), up_ne (by omega), up_ne (by omega), up_eq, nn _ _ (by omega)]
  · rw [up_ne (by omega), up_ne (by omega), up_ne (by omega), up_ne (by omega), up_eq, nn _ _ (by omega)]
  · rw [up_ne (by omega), up_ne (by omega), up_ne (by omega), up_eq, nn _ _ (by omega)]
  · rw [up_ne (by omega), up_ne (by omega), up_eq, nn _ _ (by omega)]
  · rw [up_ne (by omega), up_eq, nn _ _ (by omega)]
  · rw [up_eq, nn _ _ (by omega)]
  · rw [up_ne (by omega), up_ne (by omega), up_ne (by omega), up_ne (by omega), up_ne (by omega), up_ne (by omega), nn _ _ g2]
theorem x_begin {I : MJ} {nb : Nat} (hn : nb ≤ 10) (h : I 3 5 = Int32.ofNat nb) : ∃ J, f_sta_begin13 I = some J ∧ (∀ k, k < 91 → J 16 k = if 3 ≤ k ∧ k < 9 then -1 else if 9 ≤ k ∧ k < 9 + nb then I 5 (k - 9) else 0) ∧ ∀ a k, a ≠ 16 → J a k = I a k := by
  unfold f_sta_begin13
  obtain ⟨F, f1, f2, f3⟩ := fill_ok (a := 16) (n := 91) (x := 0) (I := I) rfl (by decide) (by decide)
  rw [f1, ob_some]
  refine bindx (wh_inv (fun i s => ∃ J : MJ, s = (Int32.ofNat i, J) ∧ (∀ a k, a ≠ 16 → J a k = I a k) ∧ ∀ k, k < 91 → J 16 k = if 3 ≤ k ∧ k < 3 + i then -1 else 0) _ 6 ?_ ?_ ⟨F, rfl, f2, fun k hk => by rw [f3 k hk, if_neg (by omega)]⟩)
  · intro i hi s hs
    obtain ⟨J, rfl, j1, j2⟩ := hs
    try dsimp only
    unfold f_sta_strip14
    rw [if_pos (show Int32.ofNat i < (6 : Int32) from lt_l (b := 6) hi (by decide)), i_addl, put_16 (by omega), ob_some, ob_some]
    refine ⟨_, rfl, _, Prod.ext i_addr rfl, fun a k ha => by rw [up_ne (fun z => ha z.1), j1 a k ha], fun k hk => ?_⟩
    by_cases e : k = 3 + i
    · subst e
      rw [up_eq, if_pos (by omega)]
    · rw [up_ne (fun z => e z.2), j2 k hk]
      by_cases e2 : 3 ≤ k ∧ k < 3 + i
      · rw [if_pos e2, if_pos (by omega)]
      · rw [if_neg e2, if_neg (by omega)]
  · intro s hs
    obtain ⟨J, rfl, j1, j2⟩ := hs
    try dsimp only
    rw [if_neg (show ¬ Int32.ofNat 6 < (6 : Int32) from nlt_l (b := 6) (by decide) (by decide) (by decide))]
    refine ⟨_, rfl, ?_⟩
    refine bindx (wh_inv (fun i s => ∃ K : MJ, s = (Int32.ofNat i, K) ∧ (∀ a k, a ≠ 16 → K a k = I a k) ∧ ∀ k, k < 91 → K 16 k = if 3 ≤ k ∧ k < 9 then -1 else if 9 ≤ k ∧ k < 9 + i then I 5 (k - 9) else 0) _ nb ?_ ?_ ⟨J, rfl, j1, fun k hk => by rw [j2 k hk, if_neg (show ¬ (9 ≤ k ∧ k < 9 + 0) by omega)]⟩)
    · intro i hi s hs
      obtain ⟨K, rfl, k1, k2⟩ := hs
      try dsimp only
      rw [if_pos (by rw [k1 _ _ (by omega), h]; exact lt_l hi (by omega)), at_5 (by omega), ob_some, i_addl, put_16 (by omega), ob_some]
      refine ⟨_, rfl, _, Prod.ext i_addr rfl, fun a k ha => by rw [up_ne (fun z => ha z.1), k1 a k ha], fun k hk => ?_⟩
      by_cases e : k = 9 + i
      · subst e
        rw [up_eq, if_neg (by omega), if_pos (by omega), k1 _ _ (by omega), show 9 + i - 9 = i by omega]
      · rw [up_ne (fun z => e z.2), k2 k hk]
        by_cases e0 : 3 ≤ k ∧ k < 9
        · rw [if_pos e0, if_pos e0]
        · rw [if_neg e0, if_neg e0]
          by_cases e2 : 9 ≤ k ∧ k < 9 + i
          · rw [if_pos e2, if_pos (by omega)]
          · rw [if_neg e2, if_neg (by omega)]
    · intro s hs
      obtain ⟨K, rfl, k1, k2⟩ := hs
      try dsimp only
      rw [if_neg (by rw [k1 _ _ (by omega), h]; exact nlt_l (Nat.lt_irrefl _) (by omega) (by omega))]
      exact ⟨_, rfl, _, rfl, k2, k1⟩
theorem m_nothing {I : MJ} : ∃ J, f_m_tellsNothing261 I = some J ∧ (J 50 0 = Int32.ofNat 0 ∧ J 50 1 = Int32.ofNat 0 ∧ J 50 2 = Int32.ofNat 0 ∧ J 50 3 = Int32.ofNat 0 ∧ J 50 4 = Int32.ofNat 1 ∧ J 50 5 = Int32.ofNat 8) ∧ ∀ a k, a ≠ 50 → J a k = I a k := by
  unfold f_m_tellsNothing261
  refine bindx (wh_inv (fun i s => ∃ J : MJ, s = (Int32.ofNat i, J) ∧ (∀ a k, a ≠ 50 → J a k = I a k) ∧ ∀ k, k < i → J 50 k = Int32.ofNat 0) _ 4 ?_ ?_ ⟨I, rfl, fun _ _ _ => rfl, fun k hk => absurd hk (Nat.not_lt_zero k)⟩)
  · intro i hi s hs
    obtain ⟨J, rfl, j1, j2⟩ := hs
    try dsimp only
    rw [if_pos (show Int32.ofNat i < (4 : Int32) from lt_l (b := 4) hi (by decide)), wr_50 (by omega), ob_some]
    refine ⟨_, rfl, _, Prod.ext i_addr rfl, fun a k ha => by rw [up_ne (fun z => ha z.1), j1 a k ha], fun k hk => ?_⟩
    by_cases e : k = i
    · subst e
      rw [up_eq]
      rfl
    · rw [up_ne (fun z => e z.2), j2 k (by omega)]
  · intro s hs
    obtain ⟨J, rfl, j1, j2⟩ := hs
    try dsimp only
    rw [if_neg (show ¬ Int32.ofNat 4 < (4 : Int32) from nlt_l (b := 4) (by decide) (by decide) (by decide))]
    refine ⟨_, rfl, _, rfl, ⟨?_, ?_, ?_, ?_, ?_, up_eq⟩, fun a k ha => by rw [up_ne (fun z => ha z.1), up_ne (fun z => ha z.1), j1 a k ha]⟩
    · rw [up_ne (by omega), up_ne (by omega), j2 0 (by decide)]
    · rw [up_ne (by omega), up_ne (by omega), j2 1 (by decide)]
    · rw [up_ne (by omega), up_ne (by omega), j2 2 (by decide)]
    · rw [up_ne (by omega), up_ne (by omega), j2 3 (by decide)]
    · rw [up_ne (by omega), up_eq]
      rfl
