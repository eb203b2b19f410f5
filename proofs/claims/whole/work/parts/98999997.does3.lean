/-! work: cutting -/
theorem cutF_ok {bk : Nat → Nat} {nb : Nat} {K : Nat → Int32} (hb : nb ≤ 10) : ∀ (f r : Nat) (L : Nat → Int32), r + f ≤ 13 → (∀ b, b < 10 → ∃ m, m ≤ 60 ∧ L b = Int32.ofNat m ∧ (nb ≤ b → m = 0)) → ∀ b, b < 10 → ∃ m, m ≤ 60 ∧ (cutF bk nb K f r L).2 b = Int32.ofNat m ∧ (nb ≤ b → m = 0)
  | 0, r, L, _, h => h
  | f + 1, r, L, hr, h => by
    by_cases h1 : 12 - f < 12 ∧ K (12 - f) = K (12 - f - 1)
    · have hu : cutF bk nb K (f + 1) r L = cutF bk nb K f (r + 1) L := if_pos h1
      rw [hu]
      exact cutF_ok hb f (r + 1) L (by omega) h
    · cases hc : chF bk L (K (12 - f - 1)) (Int32.ofNat r) nb with
      | none =>
        have hu : cutF bk nb K (f + 1) r L = (false, L) := by
          unfold cutF
          rw [if_neg h1, hc]
        rw [hu]
        exact h
      | some c =>
        have hcn := chF_lt hc
        have hu : cutF bk nb K (f + 1) r L = cutF bk nb K f 1 (fun b => if b = c then L b - Int32.ofNat r else L b) := by
          unfold cutF
          rw [if_neg h1, hc]
          cases f <;> rfl
        rw [hu]
        refine cutF_ok hb f 1 _ (by omega) fun b hb10 => ?_
        by_cases e : b = c
        · subst e
          obtain ⟨m, g1, g2, g3⟩ := h b hb10
          obtain ⟨-, hlt⟩ := chF_ok hc
          rw [g2, i_lt (by omega) (by omega)] at hlt
          refine ⟨m - r, by omega, ?_, fun z => by omega⟩
          rw [if_pos rfl, g2]
          exact i_sub (by omega)
        · rw [if_neg e]
          exact h b hb10
/-- the row behind a cut -/
def ctF (r : Nat → Int32) (nb c : Nat) (L P : Nat → Int32) : Nat → Int32 := fun k => if k < nb then L k else if 10 + 12 * c ≤ k ∧ k < 22 + 12 * c then P (k - (10 + 12 * c)) else if k = 82 + c then r 89 else r k
theorem stV_ct {nb nc c : Nat} {r L P : Nat → Int32} (hb : nb ≤ 10) (hc : c < nc) (hn : nc ≤ 6) (h : stV nb nc r) (hL : ∀ b, b < 10 → ∃ m, m ≤ 60 ∧ L b = Int32.ofNat m ∧ (nb ≤ b → m = 0)) (hP : ∀ h, h < 12 → ∃ m, m ≤ 6 ∧ P h = Int32.ofNat m) : stV nb nc (ctF r nb c L P) := by
  obtain ⟨day, h1, h2, h3, h4, h5⟩ := h
  refine ⟨day, h1, ?_, fun b hb1 => ?_, fun d hd => ?_, fun j hj => ?_⟩
  · unfold ctF
    rw [if_neg (by omega), if_neg (by omega), if_neg (by omega)]
    exact h2
  · unfold ctF
    by_cases e : b < nb
    · rw [if_pos e]
      obtain ⟨m, g1, g2, g3⟩ := hL b hb1
      exact ⟨m, g1, g2, g3⟩
    · rw [if_neg e, if_neg (by omega), if_neg (by omega)]
      exact h3 b hb1
  · unfold ctF
    rw [if_neg (by omega), if_neg (by omega)]
    by_cases e : d = c
    · subst e
      rw [if_pos rfl]
      exact Or.inr ⟨hc, day, Nat.le_refl _, h2⟩
    · rw [if_neg (by omega)]
      exact h4 d hd
  · unfold ctF
    rw [if_neg (by omega)]
    by_cases e : 10 + 12 * c ≤ 10 + j ∧ 10 + j < 22 + 12 * c
    · rw [if_pos e]
      exact hP _ (by omega)
    · rw [if_neg e, if_neg (by omega)]
      exact h5 j hj
theorem st_copyB {I : MJ} : f_sta_copyFrom107 15 17 I = some (ab_cpy I 18 16 0 0 91) := by
  unfold f_sta_copyFrom107
  rw [show f_x_copy22 (17 + 1) 0 (15 + 1) 0 91 I = _ from copy_ok (a := 18) (b := 16) (la := 91) (lb := 91) (sp := 0) (dp := 0) (n := 91) rfl rfl (by decide) (by decide) (by decide) (by decide) (by decide) (by decide)]
  rfl
theorem stE_ct {I J : MJ} {nb c p : Nat} {r L P : Nat → Int32} (hb : nb ≤ 10) (hc : c < 6) (hp : p < 6) (hE : stE (I 16) r) (h20 : ∀ h, h < 12 → J 20 (12 * p + h) = P h) (j3 : ∀ b, b < nb → J 18 (9 + b) = L b) (j4 : ∀ k, k < 91 → k < 9 ∨ 9 + nb ≤ k → J 18 k = I 16 k) : stE ((ab_cpy (ab_cpy (ab_up1 J 18 (3 + c) (J 18 0)) 20 18 (12 * p) (19 + 12 * c) 12) 18 16 0 0 91) 16) (ctF r nb c L P) := fun k hk => by
  rw [cpy_at, if_pos ⟨Nat.zero_le _, by omega⟩, show 0 + (k - 0) = k by omega, cpy_at]
  unfold ctF
  by_cases hA : 19 + 12 * c ≤ k ∧ k < 19 + 12 * c + 12
  · have e : pi91 k = k - 9 := by
      unfold pi91
      repeat' split
      all_goals omega
    rw [if_pos hA, e, if_neg (by omega), if_pos (by omega), up_ne (by omega), h20 _ (by omega), show k - 9 - (10 + 12 * c) = k - (19 + 12 * c) by omega]
  · rw [if_neg hA]
    by_cases hB : k = 3 + c
    · subst hB
      rw [up_eq, pi_cut hc, if_neg (by omega), if_neg (by omega), if_pos rfl, j4 0 (by omega) (by omega), stE_day hE]
    · rw [up_ne (fun z => hB z.2)]
      by_cases hC : 9 ≤ k ∧ k < 9 + nb
      · obtain ⟨b, rfl⟩ : ∃ b, k = 9 + b := ⟨k - 9, by omega⟩
        rw [pi_left, if_pos (by omega), j3 b (by omega)]
      · have u1 : ¬ pi91 k < nb := fun z => by
          unfold pi91 at z
          repeat' split at z
          all_goals omega
        have u2 : ¬ (10 + 12 * c ≤ pi91 k ∧ pi91 k < 22 + 12 * c) := fun z => by
          obtain ⟨z1, z2⟩ := z
          have e : pi91 k = k - 9 ∨ 79 ≤ pi91 k := by
            unfold pi91
            repeat' split
            all_goals omega
          have e2 : pi91 k ≤ 81 → 9 ≤ k ∧ pi91 k = k - 9 := fun y => by
            unfold pi91 at y ⊢
            repeat' split at y
            all_goals (repeat' split) <;> omega
          have := e2 (by omega)
          omega
        have u3 : ¬ pi91 k = 82 + c := fun z => by
          unfold pi91 at z
          repeat' split at z
          all_goals omega
        rw [if_neg u1, if_neg u2, if_neg u3, j4 k hk (by omega), hE k hk]
section CUT
variable {nb nc no tb k v p : Nat} {bk : Nat → Nat} {pk : Nat → Nat → Nat} {Jc Jm : MJ} {r : Nat → Int32}
/-- does a cut go, and what is left then -/
theorem x_allows (h6 : v < 6) (hp : p < 6) (hb : nb ≤ 10) (e5 : Jc 3 5 = Int32.ofNat nb) (h4 : ∀ b, b < nb → Jc 4 b = Int32.ofNat (bk b)) (ht : tb < 64) (e19 : Jc 19 3 = Int32.ofNat tb) (g6 : ∀ p h, p < 6 → h < 12 → Jc 20 (12 * p + h) = Int32.ofNat (pk p h)) (hE : stE (Jc 16) r) (h0 : r (82 + v) = -1) : ∃ J2, f_tra_allowsCut106 (Int32.ofNat v) (Int32.ofNat p) Jc = some ((if tb.testBit p = true ∧ (cutF bk nb (fun h => Int32.ofNat (pk p h)) 12 1 r).1 = true then (1 : Int32) else 0), J2) ∧ (∀ g k, g ≠ 18 → J2 g k = Jc g k) ∧ (tb.testBit p = true → ∀ b, b < nb → J2 18 (9 + b) = (cutF bk nb (fun h => Int32.ofNat (pk p h)) 12 1 r).2 b) ∧ (∀ k, k < 91 → k < 9 ∨ 9 + nb ≤ k → J2 18 k = Jc 16 k) := by
  have hs : f_sta_hasSuit108 15 (Int32.ofNat v) (ab_cpy Jc 16 18 0 0 91) = some 0 := by
    rw [x_hasSuit (t := 15) rfl (by decide) h6, cpy_ne (by decide), stE_cut hE h6, if_pos h0]
  obtain ⟨J1, x1, x2, x3, x4⟩ := x_pattern (I := ab_cpy Jc 16 18 0 0 91) (nb := nb) (tb := tb) (p := p) (bk := bk) (pk := pk) r hp hb (by rw [cpy_ne (by decide)]; exact e5) (fun b hb => by rw [cpy_ne (by decide)]; exact h4 b hb) ht (by rw [cpy_ne (by decide)]; exact e19) (fun p h hp hh => by rw [cpy_ne (by decide)]; exact g6 p h hp hh) (fun b hb => by
    rw [cpy_at, if_pos ⟨Nat.zero_le _, by omega⟩, show 0 + (9 + b - 0) = 9 + b by omega]
    exact stE_left hE (by omega))
  refine ⟨J1, ?_, fun g k hg => by rw [x2 g k hg, cpy_ne hg], x3, fun k hk h => by rw [x4 k h, cpy_at, if_pos ⟨Nat.zero_le _, by omega⟩, show 0 + (k - 0) = k by omega]⟩
  unfold f_tra_allowsCut106
  rw [st_copy, ob_some, hs, ob_some, if_pos rfl, x1, ob_some]
  by_cases hC : tb.testBit p = true ∧ (cutF bk nb (fun h => Int32.ofNat (pk p h)) 12 1 r).1 = true
  · rw [if_pos hC]
    dsimp only
    rw [if_neg (by decide), ob_some]
    exact congrArg some (Prod.ext nar_1 rfl)
  · rw [if_neg hC]
    dsimp only
    rw [if_pos rfl, ob_some]
    exact congrArg some (Prod.ext nar_0 rfl)
theorem x_allows_no (h6 : v < 6) (hE : stE (Jc 16) r) (h0 : ¬ r (82 + v) = -1) : f_tra_allowsCut106 (Int32.ofNat v) (Int32.ofNat p) Jc = some (0, ab_cpy Jc 16 18 0 0 91) := by
  have hs : f_sta_hasSuit108 15 (Int32.ofNat v) (ab_cpy Jc 16 18 0 0 91) = some 1 := by
    rw [x_hasSuit (t := 15) rfl (by decide) h6, cpy_ne (by decide), stE_cut hE h6, if_neg h0]
  unfold f_tra_allowsCut106
  rw [st_copy, ob_some, hs, ob_some, if_neg (by decide), ob_some]
  exact congrArg some (Prod.ext nar_0 rfl)
theorem m_allows (h6 : v < 6) (hp : p < 6) (hb : nb ≤ 10) (e51 : Jm 51 0 = Int32.ofNat nb) (h66 : ∀ b, b < nb → Jm (66 + b) 0 = Int32.ofNat (bk b)) (h135 : ∀ p, p < 6 → Jm 135 p = if tb.testBit p then 1 else 0) (g5 : ∀ p h, p < 6 → h < 12 → Jm (129 + p) h = Int32.ofNat (pk p h)) (hM : ∀ k, k < 91 → Jm 576 k = r k) (h0 : r (82 + v) = -1) : ∃ J2, f_m_canCut306 576 (Int32.ofNat v) (Int32.ofNat p) Jm = some ((if tb.testBit p = true ∧ (cutF bk nb (fun h => Int32.ofNat (pk p h)) 12 1 r).1 = true then (1 : Int32) else 0), J2) ∧ (∀ g k, g ≠ 599 → J2 g k = Jm g k) ∧ (tb.testBit p = true → ∀ b, b < nb → J2 599 b = (cutF bk nb (fun h => Int32.ofNat (pk p h)) 12 1 r).2 b) ∧ (tb.testBit p = true → ∀ k, nb ≤ k → k < 91 → J2 599 k = r k) := by
  have hs := m_hasSuit (I := Jm) (a := 576) (n := 91) (c := v) rfl (by decide) (by decide) h6
  rw [hM _ (by omega), if_pos h0] at hs
  obtain ⟨J2, m1, m2, m3, m4⟩ := m_pattern (I := Jm) (a := 576) (nb := nb) (tb := tb) (p := p) (bk := bk) (pk := pk) r rfl (by decide) (by decide) hp hb e51 h66 h135 g5 (fun b hb => hM b (by omega))
  refine ⟨J2, ?_, m2, m3, fun h k h1 h2 => by rw [m4 h k h1 h2, hM k h2]⟩
  unfold f_m_canCut306
  rw [hs, ob_some, if_pos rfl, m1, ob_some]
  by_cases hC : tb.testBit p = true ∧ (cutF bk nb (fun h => Int32.ofNat (pk p h)) 12 1 r).1 = true
  · rw [if_pos hC]
    dsimp only
    rw [if_neg (by decide), ob_some]
    exact congrArg some (Prod.ext nar_1 rfl)
  · rw [if_neg hC]
    dsimp only
    rw [if_pos rfl, ob_some]
    exact congrArg some (Prod.ext nar_0 rfl)
theorem m_allows_no {q : Int32} (h6 : v < 6) (hM : ∀ k, k < 91 → Jm 576 k = r k) (h0 : ¬ r (82 + v) = -1) : f_m_canCut306 576 (Int32.ofNat v) q Jm = some (0, Jm) := by
  have hs := m_hasSuit (I := Jm) (a := 576) (n := 91) (c := v) rfl (by decide) (by decide) h6
  rw [hM _ (by omega), if_neg h0] at hs
  unfold f_m_canCut306
  rw [hs, ob_some, if_neg (by decide), ob_some]
  exact congrArg some (Prod.ext nar_0 rfl)
theorem x_cut {J2 : MJ} {P : Nat → Int32} (h6 : v < 6) (hp : p < 6) (hb : nb ≤ 10) (hE : stE (Jc 16) r) (ha : f_tra_allowsCut106 (Int32.ofNat v) (Int32.ofNat p) Jc = some (1, J2)) (j2 : ∀ g k, g ≠ 18 → J2 g k = Jc g k) (L : Nat → Int32) (j3 : ∀ b, b < nb → J2 18 (9 + b) = L b) (j4 : ∀ k, k < 91 → k < 9 ∨ 9 + nb ≤ k → J2 18 k = Jc 16 k) (h20 : ∀ h, h < 12 → Jc 20 (12 * p + h) = P h) : ∃ K, f_tra_cutSuit105 (Int32.ofNat v) (Int32.ofNat p) Jc = some (1, K) ∧ fcD Jc K ∧ stE (K 16) (ctF r nb v L P) := by
  refine ⟨ab_cpy (ab_cpy (ab_up1 J2 18 (3 + v) (J2 18 0)) 20 18 (12 * p) (19 + 12 * v) 12) 18 16 0 0 91, ?_, fun a k h1 h2 h3 h4 => by rw [cpy_ne h1, cpy_ne h2, up_ne (fun z => h2 z.1), j2 a k h2], stE_ct hb h6 hp hE (fun h hh => by rw [j2 20 _ (by decide), h20 h hh]) j3 j4⟩
  unfold f_tra_cutSuit105
  rw [ha, ob_some]
  dsimp only
  rw [if_neg (show ¬ (1 : Int32) = 0 by decide)]
  unfold f_sta_dress112
  rw [show f_sta_day113 17 J2 = some (J2 18 0) from x_day (t := 17) rfl (by decide), ob_some, show (3 : Int32) + Int32.ofNat v = Int32.ofNat (3 + v) from i_addl (n := 3), put_18 (by omega), ob_some, x_suitAt, ob_some, show (12 : Int32) * Int32.ofNat p = Int32.ofNat (12 * p) from i_mull (n := 12), show f_x_copy22 20 (Int32.ofNat (12 * p)) 18 (Int32.ofNat (19 + 12 * v)) (12 : Int32) (ab_up1 J2 18 (3 + v) (J2 18 0)) = _ from copy_ok (a := 20) (b := 18) (la := 72) (lb := 91) (sp := 12 * p) (dp := 19 + 12 * v) (n := 12) rfl rfl (by decide) (by decide) (by omega) (by omega) (by decide) (by decide), ob_some, ob_some, st_copyB, ob_some]
theorem m_cut {J2 : MJ} {P : Nat → Int32} (hk : k < 80) (h6 : v < 6) (hp : p < 6) (hb : nb ≤ 10) (e0 : Jm (496 + k) 0 = 0) (e1 : Jm (496 + k) 1 = Int32.ofNat v) (e2 : Jm (496 + k) 2 = Int32.ofNat p) (hM : ∀ k, k < 91 → Jm 576 k = r k) (ha : f_m_canCut306 576 (Int32.ofNat v) (Int32.ofNat p) Jm = some (1, J2)) (j2 : ∀ g k, g ≠ 599 → J2 g k = Jm g k) (L : Nat → Int32) (j3 : ∀ b, b < nb → J2 599 b = L b) (j4 : ∀ k, nb ≤ k → k < 91 → J2 599 k = r k) (g5 : ∀ h, h < 12 → Jm (129 + p) h = P h) : ∃ c : Int32 × MJ, f_m_does304 576 (496 + k) Jm = some c ∧ c.1 = 1 ∧ fmD Jm c.2 ∧ ∀ k, k < 91 → c.2 576 k = ctF r nb v L P k := by
  have rr : ∀ (J : MJ) j, j < 91 → rd J 576 (Int32.ofNat j) = some (J 576 j) := fun J j hj => rd_ok (n := 91) rfl hj (by decide) (by decide)
  have ww : ∀ (J : MJ) j x, j < 91 → wr J 576 (Int32.ofNat j) x = some (ab_up1 J 576 j x) := fun J j x hj => wr_ok (n := 91) rfl hj (by decide) (by decide)
  have k129 : KS (129 + p) = (100, 12) := KS_128 p hp
  have fm2 : fmD Jm J2 := fun a k h1 h2 h3 h4 h5 => j2 a k h2
  unfold f_m_does304
  rw [show rd Jm (496 + k) (1 : Int32) = some (Jm (496 + k) 1) from rdr_495 (k := 1) hk (by decide), ob_some, show rd Jm (496 + k) (0 : Int32) = some (Jm (496 + k) 0) from rdr_495 (k := 0) hk (by decide), ob_some, e0, e1, if_neg (show ¬ (0 : Int32) < 0 by decide), ob_some, if_pos (show (0 : Int32) = 0 from rfl), show rd Jm (496 + k) (2 : Int32) = some (Jm (496 + k) 2) from rdr_495 (k := 2) hk (by decide), ob_some, e2, ha, ob_some]
  dsimp only
  rw [if_neg (show ¬ (1 : Int32) = 0 by decide)]
  refine bindx (wh_inv (fun b s => ∃ J : MJ, s = (Int32.ofNat b, J) ∧ (∀ a k, a ≠ 576 → J a k = J2 a k) ∧ ∀ k, k < 91 → J 576 k = if k < b then J2 599 k else r k) _ 10 ?_ ?_ ⟨J2, rfl, fun _ _ _ => rfl, fun k hk => by rw [if_neg (Nat.not_lt_zero k), j2 _ _ (by decide), hM k hk]⟩)
  · intro b hb s hs
    obtain ⟨J, rfl, a1, a2⟩ := hs
    try dsimp only
    rw [if_pos (show Int32.ofNat b < (10 : Int32) from lt_l (a := b) (b := 10) hb (by omega)), Int32.zero_add, rd_ok (a := 599) (n := 91) (k := b) rfl (by omega) (by decide) (by decide), ob_some, ww _ _ _ (by omega), ob_some]
    refine ⟨_, rfl, _, Prod.ext i_addr rfl, fun a k h => by rw [up_ne (fun z => h z.1), a1 a k h], fun k hk => ?_⟩
    by_cases e : k = b
    · subst e
      rw [up_eq, if_pos (by omega), a1 _ _ (by decide)]
    · rw [up_ne (fun z => e z.2), a2 k hk]
      by_cases e2 : k < b
      · rw [if_pos e2, if_pos (by omega)]
      · rw [if_neg e2, if_neg (by omega)]
  · intro s hs
    obtain ⟨J, rfl, a1, a2⟩ := hs
    try dsimp only
    rw [if_neg (by decide)]
    refine ⟨_, rfl, ?_⟩
    refine bindx (wh_inv (fun h s => ∃ M : MJ, s = (Int32.ofNat h, M) ∧ (∀ a k, a ≠ 576 → M a k = J2 a k) ∧ ∀ k, k < 91 → M 576 k = if 10 + 12 * v ≤ k ∧ k < 10 + 12 * v + h then P (k - (10 + 12 * v)) else J 576 k) _ 12 ?_ ?_ ⟨J, rfl, a1, fun k hk => by rw [if_neg (by omega)]⟩)
    · intro h hh s hs
      obtain ⟨M, rfl, b1, b2⟩ := hs
      try dsimp only
      rw [if_pos (show Int32.ofNat h < (12 : Int32) from lt_l (a := h) (b := 12) hh (by omega)), m_suitOf, ob_some, show rd M (496 + k) (2 : Int32) = some (M (496 + k) 2) from rdr_495 (k := 2) hk (by decide), ob_some, b1 _ _ (by omega), j2 _ _ (by omega), e2, rdp_128 hp, ob_some, rd_ok (a := 129 + p) k129 hh (by omega) (by decide), ob_some, b1 _ _ (by omega), j2 _ _ (by omega), g5 h hh, i_add, ww _ _ _ (by omega), ob_some]
      refine ⟨_, rfl, _, Prod.ext i_addr rfl, fun a k h => by rw [up_ne (fun z => h z.1), b1 a k h], fun k hk => ?_⟩
      by_cases e : k = 10 + 12 * v + h
      · subst e
        rw [up_eq, if_pos (by omega), show 10 + 12 * v + h - (10 + 12 * v) = h by omega]
      · rw [up_ne (fun z => e z.2), b2 k hk]
        by_cases e2 : 10 + 12 * v ≤ k ∧ k < 10 + 12 * v + h
        · rw [if_pos e2, if_pos (by omega)]
        · rw [if_neg e2, if_neg (by omega)]
    · intro s hs
      obtain ⟨M, rfl, b1, b2⟩ := hs
      try dsimp only
      rw [if_neg (by decide)]
      refine ⟨_, rfl, ?_⟩
      rw [show rd M 576 (89 : Int32) = some (M 576 89) from rr M 89 (by decide), ob_some, show (82 : Int32) + Int32.ofNat v = Int32.ofNat (82 + v) from i_addl (n := 82), ww _ _ _ (by omega), ob_some]
      refine ⟨_, rfl, rfl, fmD_up fun a k h1 h2 h3 h4 h5 => by rw [b1 a k h1]; exact fm2 a k h1 h2 h3 h4 h5, fun k hk => ?_⟩
      show (ab_up1 M 576 (82 + v) (M 576 89)) 576 k = ctF r nb v L P k
      unfold ctF
      by_cases e : k = 82 + v
      · subst e
        rw [up_eq, if_neg (by omega), if_neg (by omega), if_pos rfl, b2 89 (by decide), if_neg (by omega), a2 89 (by decide), if_neg (by decide)]
      · rw [up_ne (fun z => e z.2), b2 k hk]
        by_cases e2 : 10 + 12 * v ≤ k ∧ k < 10 + 12 * v + 12
        · rw [if_pos e2, if_neg (show ¬ k < nb by omega), if_pos (show 10 + 12 * v ≤ k ∧ k < 22 + 12 * v by omega)]
        · rw [if_neg e2, a2 k hk, if_neg (show ¬ (10 + 12 * v ≤ k ∧ k < 22 + 12 * v) by omega), if_neg e]
          by_cases e3 : k < nb
          · rw [if_pos e3, if_pos (show k < 10 by omega), j3 k e3]
          · rw [if_neg e3]
            by_cases e4 : k < 10
            · rw [if_pos e4, j4 k (by omega) hk]
            · rw [if_neg e4]
theorem do_cut {z3 : Int32} (hk : k < 80) (hv : v < nc) (hnc : nc ≤ 6) (hp : p < 6) (hb : nb ≤ 10) (e5 : Jc 3 5 = Int32.ofNat nb) (h4 : ∀ b, b < nb → Jc 4 b = Int32.ofNat (bk b)) (ht : tb < 64) (e19 : Jc 19 3 = Int32.ofNat tb) (hpk : ∀ p h, p < 6 → h < 12 → pk p h < 6) (g6 : ∀ p h, p < 6 → h < 12 → Jc 20 (12 * p + h) = Int32.ofNat (pk p h)) (e51 : Jm 51 0 = Int32.ofNat nb) (h66 : ∀ b, b < nb → Jm (66 + b) 0 = Int32.ofNat (bk b)) (h135 : ∀ p, p < 6 → Jm 135 p = if tb.testBit p then 1 else 0) (g5 : ∀ p h, p < 6 → h < 12 → Jm (129 + p) h = Int32.ofNat (pk p h)) (e0 : Jm (496 + k) 0 = 0) (e1 : Jm (496 + k) 1 = Int32.ofNat v) (e2 : Jm (496 + k) 2 = Int32.ofNat p) (hE : stE (Jc 16) r) (hM : ∀ k, k < 91 → Jm 576 k = r k) (hV : stV nb nc r) : DOES (f_tra_step104 0 (Int32.ofNat v) (Int32.ofNat p) z3 Jc) (f_m_does304 576 (496 + k) Jm) nb nc Jc Jm := by
  have h6 : v < 6 := by omega
  have hx : f_tra_step104 0 (Int32.ofNat v) (Int32.ofNat p) z3 Jc = Option.bind (f_tra_cutSuit105 (Int32.ofNat v) (Int32.ofNat p) Jc) fun w4 => some ((vp_nar .boolean w4.1), w4.2) := by
    unfold f_tra_step104
    rw [if_pos (show (0 : Int32) = 0 from rfl)]
  have hxn : ∀ {J2}, f_tra_allowsCut106 (Int32.ofNat v) (Int32.ofNat p) Jc = some (0, J2) → f_tra_step104 0 (Int32.ofNat v) (Int32.ofNat p) z3 Jc = some (0, J2) := fun {J2} h => by
    unfold f_tra_cutSuit105 at hx
    rw [hx, h, ob_some, if_pos rfl, ob_some]
    exact congrArg some (Prod.ext nar_0 rfl)
  have hmn : ∀ {J2}, f_m_canCut306 576 (Int32.ofNat v) (Int32.ofNat p) Jm = some (0, J2) → f_m_does304 576 (496 + k) Jm = some (0, J2) := fun {J2} h => by
    unfold f_m_does304
    rw [show rd Jm (496 + k) (1 : Int32) = some (Jm (496 + k) 1) from rdr_495 (k := 1) hk (by decide), ob_some, show rd Jm (496 + k) (0 : Int32) = some (Jm (496 + k) 0) from rdr_495 (k := 0) hk (by decide), ob_some, e0, e1, if_neg (show ¬ (0 : Int32) < 0 by decide), ob_some, if_pos (show (0 : Int32) = 0 from rfl), show rd Jm (496 + k) (2 : Int32) = some (Jm (496 + k) 2) from rdr_495 (k := 2) hk (by decide), ob_some, e2, h, ob_some, if_pos rfl]
  by_cases h0 : r (82 + v) = -1
  · obtain ⟨C2, c1, c2, c3, c4⟩ := x_allows (nb := nb) (tb := tb) (bk := bk) (pk := pk) h6 hp hb e5 h4 ht e19 g6 hE h0
    obtain ⟨M2, m1, m2, m3, m4⟩ := m_allows (nb := nb) (tb := tb) (bk := bk) (pk := pk) h6 hp hb e51 h66 h135 g5 hM h0
    by_cases hC : tb.testBit p = true ∧ (cutF bk nb (fun h => Int32.ofNat (pk p h)) 12 1 r).1 = true
    · rw [if_pos hC] at c1 m1
      obtain ⟨K, k1, k2, k3⟩ := x_cut (P := fun h => Int32.ofNat (pk p h)) h6 hp hb hE c1 c2 _ (c3 hC.1) c4 (fun h hh => g6 p h hp hh)
      obtain ⟨⟨w, M⟩, n1, n2, n3, n4⟩ := m_cut (P := fun h => Int32.ofNat (pk p h)) hk h6 hp hb e0 e1 e2 hM m1 m2 _ (m3 hC.1) (m4 hC.1) (fun h hh => g5 p h hp hh)
      dsimp only at n2 n3 n4
      subst n2
      refine ⟨1, K, M, _, ?_, n1, Or.inr rfl, k2, n3, k3, n4, stV_ct hb hv hnc hV (cutF_ok hb 12 1 r (by decide) ?_) (fun h hh => ⟨pk p h, by have := hpk p h hp hh; omega, rfl⟩)⟩
      · rw [hx, k1, ob_some]
        exact congrArg some (Prod.ext nar_1 rfl)
      · obtain ⟨-, -, -, h3, -, -⟩ := hV
        exact h3
    · rw [if_neg hC] at c1 m1
      exact ⟨0, C2, M2, r, hxn c1, hmn m1, Or.inl rfl, fun a k h1 h2 h3 h4 => c2 a k h2, fun a k h1 h2 h3 h4 h5 => m2 a k h2, by rw [show C2 16 = Jc 16 from funext fun k => c2 16 k (by decide)]; exact hE, fun k hk => by rw [m2 _ _ (by decide), hM k hk], hV⟩
  · refine ⟨0, ab_cpy Jc 16 18 0 0 91, Jm, r, hxn (x_allows_no h6 hE h0), hmn (m_allows_no h6 hM h0), Or.inl rfl, fun a k h1 h2 h3 h4 => cpy_ne h2, fmD_rf, ?_, hM, hV⟩
    rw [show ab_cpy Jc 16 18 0 0 91 16 = Jc 16 from funext fun k => cpy_ne (by decide)]
    exact hE
end CUT
