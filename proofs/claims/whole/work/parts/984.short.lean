/-! short years: seed and lengths by days -/
def drG (x : Int32) (n : Nat) : Nat := ((drV x (Int32.ofNat n)).getD 0).toNatClampNeg
theorem drG_ok (x : Int32) {n : Nat} (h0 : 0 < n) (hn : n < 32768) : drV x (Int32.ofNat n) = some (Int32.ofNat (drG x n)) ∧ drG x n < n := by
  obtain ⟨k, hk, e⟩ := drV_ok x h0 hn
  have h : drG x n = k := by
    unfold drG
    rw [e]
    exact i_clamp (by omega)
  rw [h]
  exact ⟨e, hk⟩
def mx0 (x : Int32) : Int32 := if 0 < x then x else 0
theorem mx0_ok {m : Nat} (hm : m ≤ 60) : ∃ k, k ≤ 60 ∧ (m = 0 → k = 0) ∧ mx0 (Int32.ofNat m - 1) = Int32.ofNat k := by
  have h : ∀ m : Nat, m < 61 → mx0 (Int32.ofNat m - 1) = Int32.ofNat (m - 1) := by decide +kernel
  exact ⟨m - 1, by omega, by omega, h m (by omega)⟩
def shL (nb q : Nat) (s0 : Int32) (L0 : Nat → Int32) : Nat → Int32 × (Nat → Int32)
  | 0 => (s0, L0)
  | d + 1 => if 0 < nb ∧ drG (shL nb q s0 L0 d).1 16 < q then (drS (drS (shL nb q s0 L0 d).1), fun b => if b = drG (drS (shL nb q s0 L0 d).1) nb then mx0 ((shL nb q s0 L0 d).2 b - 1) else (shL nb q s0 L0 d).2 b) else (drS (shL nb q s0 L0 d).1, (shL nb q s0 L0 d).2)
theorem shL_none {q : Nat} {s0 : Int32} {L0 : Nat → Int32} : ∀ d, (shL 0 q s0 L0 d).2 = L0
  | 0 => rfl
  | d + 1 => by
    unfold shL
    rw [if_neg (fun h => absurd h.1 (by decide))]
    show (shL 0 q s0 L0 d).2 = L0
    exact shL_none (q := q) (s0 := s0) d
theorem shL_ok {nb q : Nat} {s0 : Int32} {L0 : Nat → Int32} (h : ∀ b, b < 10 → ∃ m, m ≤ 60 ∧ L0 b = Int32.ofNat m ∧ (nb ≤ b → m = 0)) : ∀ d b, b < 10 → ∃ m, m ≤ 60 ∧ (shL nb q s0 L0 d).2 b = Int32.ofNat m ∧ (nb ≤ b → m = 0)
  | 0, b, hb => h b hb
  | d + 1, b, hb => by
    obtain ⟨m, m1, m2, m3⟩ := shL_ok (q := q) (s0 := s0) h d b hb
    unfold shL
    split
    · dsimp only
      split
      · obtain ⟨k, k1, k2, k3⟩ := mx0_ok m1
        exact ⟨k, k1, by rw [m2, k3], fun hh => k2 (m3 hh)⟩
      · exact ⟨m, m1, m2, m3⟩
    · exact ⟨m, m1, m2, m3⟩
section SHORT
variable {I : MJ} {nb q days : Nat} {s0 : Int32} {L0 : Nat → Int32}
theorem x_shorten (hb : nb ≤ 10) (hq : q ≤ 16) (hds : days ≤ 60) (e5 : I 3 5 = Int32.ofNat nb) (h0 : ∀ b, b < 10 → I 18 (9 + b) = L0 b) : ∃ J, f_tra_shorten254 s0 (Int32.ofNat q) (Int32.ofNat days) I = some J ∧ (∀ a k, a ≠ 18 → a ≠ 28 → J a k = I a k) ∧ (∀ b, b < 10 → J 18 (9 + b) = (shL nb q s0 L0 days).2 b) ∧ ∀ k, k < 9 ∨ 19 ≤ k → J 18 k = I 18 k := by
  unfold f_tra_shorten254
  by_cases hn : nb = 0
  · subst hn
    rw [shL_none]
    refine bindx ⟨ab_up1 I 28 5 s0, ?_, ?_⟩
    · refine wh_inr ?_
      dsimp only
      rw [if_neg (show ¬ (0 : Int32) < ab_up1 I 28 5 s0 3 5 by rw [up_ne (by omega), e5]; decide)]
      split <;> rfl
    · exact ⟨_, rfl, fun a k _ h => up_ne (by omega), fun b hb => by rw [up_ne (by omega)]; exact h0 b hb, fun k hk => up_ne (by omega)⟩
  refine bindx (wh_inv (fun d s => ∃ J : MJ, s = (Int32.ofNat d, J) ∧ (∀ a k, a ≠ 18 → a ≠ 28 → J a k = I a k) ∧ J 28 5 = (shL nb q s0 L0 d).1 ∧ (∀ b, b < 10 → J 18 (9 + b) = (shL nb q s0 L0 d).2 b) ∧ ∀ k, k < 9 ∨ 19 ≤ k → J 18 k = I 18 k) _ days ?_ ?_ ⟨ab_up1 I 28 5 s0, rfl, fun a k _ h => up_ne (by omega), up_eq, fun b hb => by rw [up_ne (by omega)]; exact h0 b hb, fun k hk => up_ne (by omega)⟩)
  · intro d hd s hs
    obtain ⟨J, rfl, j1, j2, j3, j4⟩ := hs
    have e5' : J 3 5 = Int32.ofNat nb := (j1 3 5 (by decide) (by decide)).trans e5
    obtain ⟨g1, g2⟩ := drG_ok (shL nb q s0 L0 d).1 (n := 16) (by decide) (by decide)
    dsimp only
    rw [if_pos (by rw [i_lt (by omega) (by omega)]; exact hd), if_pos (show (0 : Int32) < J 3 5 by rw [e5']; exact lt_l (a := 0) (b := nb) (by omega) (by omega)), x_draw (by decide), j2, show drV (shL nb q s0 L0 d).1 16 = _ from g1, ob_some, ob_some]
    dsimp only
    by_cases hv : drG (shL nb q s0 L0 d).1 16 < q
    · obtain ⟨g3, g4⟩ := drG_ok (drS (shL nb q s0 L0 d).1) (n := nb) (by omega) (by omega)
      have hs : shL nb q s0 L0 (d + 1) = (drS (drS (shL nb q s0 L0 d).1), fun b => if b = drG (drS (shL nb q s0 L0 d).1) nb then mx0 ((shL nb q s0 L0 d).2 b - 1) else (shL nb q s0 L0 d).2 b) := if_pos ⟨by omega, hv⟩
      rw [if_pos (lt_l hv (by omega)), show ab_up1 J 28 5 (drS (shL nb q s0 L0 d).1) 3 5 = J 3 5 from up_ne (by omega), e5', x_draw (show (0 : Int32) < Int32.ofNat nb from lt_l (a := 0) (b := nb) (by omega) (by omega)), up_eq, g3, ob_some, ob_some]
      dsimp only
      unfold f_sta_shortenBolt256 f_sta_leftOn143
      rw [show (9 : Int32) + Int32.ofNat (drG (drS (shL nb q s0 L0 d).1) nb) = Int32.ofNat (9 + drG (drS (shL nb q s0 L0 d).1) nb) from i_addl (n := 9), at_ok (a := 17 + 1) (n := 91) rfl (by decide) (by decide) (by omega), ob_some, ob_some, put_ok (a := 17 + 1) (n := 91) rfl (by decide) (by decide) (by omega), ob_some, ob_some, ob_some]
      refine ⟨_, rfl, _, Prod.ext i_addr rfl, fun a k h1 h2 => by rw [up_ne (by omega), up_ne (by omega), up_ne (by omega), j1 a k h1 h2], ?_, fun b hb => ?_, fun k hk => by rw [up_ne (by omega), up_ne (by omega), up_ne (by omega), j4 k hk]⟩
      · rw [up_ne (by omega), up_eq, hs]
      · rw [hs]
        dsimp only
        rw [up_ne (a := 28) (b := 17 + 1) (by omega), up_ne (a := 28) (b := 17 + 1) (by omega)]
        by_cases hbb : b = drG (drS (shL nb q s0 L0 d).1) nb
        · subst hbb
          rw [up_eq, if_pos rfl]
          rw [show J (17 + 1) _ = _ from j3 _ hb]
          rfl
        · rw [up_ne (by omega), up_ne (by omega), up_ne (by omega), if_neg hbb]
          exact j3 b hb
    · have hs : shL nb q s0 L0 (d + 1) = (drS (shL nb q s0 L0 d).1, (shL nb q s0 L0 d).2) := if_neg (fun h => hv h.2)
      rw [if_neg (nlt_l hv (by omega) (by omega)), ob_some]
      refine ⟨_, rfl, _, Prod.ext i_addr rfl, fun a k h1 h2 => by rw [up_ne (by omega), j1 a k h1 h2], ?_, fun b hb => ?_, fun k hk => by rw [up_ne (by omega), j4 k hk]⟩
      · rw [hs, up_eq]
      · rw [hs, up_ne (by omega)]
        exact j3 b hb
  · intro s hs
    obtain ⟨J, rfl, j1, j2, j3, j4⟩ := hs
    dsimp only
    rw [if_neg Int32.lt_irrefl]
    exact ⟨_, rfl, _, rfl, j1, j3, j4⟩
theorem m_shortens {ln nc day : Nat} {ht : Nat → Nat} {hw vv cd : Nat → Int32} (hp : lawP ln ht cd hw vv) (hl : lawM ln hw vv I) (hb : nb ≤ 10) (hn : nc ≤ 6) (hq : q ≤ 16) (hds : days ≤ 60) (e0 : I 51 0 = Int32.ofNat nb) (e1 : I 51 1 = Int32.ofNat nc) (hd : I 576 89 = Int32.ofNat day) (h60 : day ≤ 60) : ∃ J, f_m_shortens377 s0 (Int32.ofNat q) (Int32.ofNat days) I = some J ∧ (∀ a k, a ≠ 493 → a ≠ 494 → a ≠ 600 → a ≠ 577 → ¬ (a = 47 ∧ k = 55) → J a k = I a k) ∧ (∀ b, b < 10 → J 577 b = (shL nb q s0 (I 576) days).2 b) ∧ ∀ k, 10 ≤ k → k < 91 → J 577 k = dysI (lvV ln ht hw vv) nc (I 576) days k := by
  have p1 := hp.1
  unfold f_m_shortens377
  rw [copies_ok (la := 91) (lb := 91) rfl rfl (by decide) (by decide) (by decide) (by decide) (by decide), ob_some]
  have c1 : ∀ a k, a ≠ 577 → ¬ (a = 47 ∧ k = 55) → ab_up1 (ab_cpy I 576 577 0 0 91) 47 55 s0 a k = I a k := fun a k h1 h2 => by rw [up_ne h2, cpy_ne h1]
  have c2 : ∀ k, k < 91 → ab_up1 (ab_cpy I 576 577 0 0 91) 47 55 s0 577 k = I 576 k := fun k hk => by rw [up_ne (by omega), cpy_at, if_pos ⟨Nat.zero_le _, by omega⟩, show 0 + (k - 0) = k by omega]
  refine bindx (wh_inv (fun d s => ∃ J : MJ, s = (Int32.ofNat d, J) ∧ (∀ a k, a ≠ 493 → a ≠ 494 → a ≠ 600 → a ≠ 577 → ¬ (a = 47 ∧ k = 55) → J a k = I a k) ∧ ((∀ b, b < 10 → J 577 b = (shL nb q s0 (I 576) d).2 b) ∧ (0 < nb → J 47 55 = (shL nb q s0 (I 576) d).1)) ∧ ∀ k, 10 ≤ k → k < 91 → J 577 k = dysI (lvV ln ht hw vv) nc (I 576) d k) _ days ?_ ?_ ⟨_, rfl, fun a k h1 h2 h3 h4 h5 => c1 a k h4 h5, ⟨fun b hb => c2 b (by omega), fun _ => up_eq⟩, fun k h1 h2 => c2 k h2⟩)
  · intro d hd2 s hs
    obtain ⟨J, rfl, j1, ⟨j2, j3⟩, j4⟩ := hs
    have e0' : J 51 0 = Int32.ofNat nb := (j1 51 0 (by decide) (by decide) (by decide) (by decide) (by decide)).trans e0
    have e1' : J 51 1 = Int32.ofNat nc := (j1 51 1 (by decide) (by decide) (by decide) (by decide) (by decide)).trans e1
    dsimp only
    rw [if_pos (by rw [i_lt (by omega) (by omega)]; exact hd2), m_draw]
    obtain ⟨g1, g2⟩ := drG_ok (J 47 55) (n := 16) (by decide) (by decide)
    rw [show drV (J 47 55) 16 = _ from g1, ob_some, ob_some]
    dsimp only
    -- the day's end, from any memory that is alike
    have fin : ∀ M : MJ, (∀ a k, a ≠ 577 → ¬ (a = 47 ∧ k = 55) → M a k = J a k) → (∀ b, b < 10 → M 577 b = (shL nb q s0 (I 576) (d + 1)).2 b) → (0 < nb → M 47 55 = (shL nb q s0 (I 576) (d + 1)).1) → (∀ k, 10 ≤ k → k < 91 → M 577 k = J 577 k) → ∃ t, (Option.bind (some M) fun b5 => Option.bind (f_m_dayEnds314 577 b5) fun w6 => some (Sum.inl (β := MJ) (Int32.ofNat d + 1, w6.2))) = some (.inl t) ∧ ∃ J : MJ, t = (Int32.ofNat (d + 1), J) ∧ (∀ a k, a ≠ 493 → a ≠ 494 → a ≠ 600 → a ≠ 577 → ¬ (a = 47 ∧ k = 55) → J a k = I a k) ∧ ((∀ b, b < 10 → J 577 b = (shL nb q s0 (I 576) (d + 1)).2 b) ∧ (0 < nb → J 47 55 = (shL nb q s0 (I 576) (d + 1)).1)) ∧ ∀ k, 10 ≤ k → k < 91 → J 577 k = dysI (lvV ln ht hw vv) nc (I 576) (d + 1) k := by
      intro M m1 m2 m3 m4
      have hdi := dysI_day (V := lvV ln ht hw vv) hn hd h60 d
      have h89 : M 577 89 = Int32.ofNat (min 60 (day + d)) := by rw [m4 89 (by omega) (by omega), j4 89 (by omega) (by omega)]; exact hdi
      rw [ob_some]
      by_cases h : day + d < 60
      · obtain ⟨⟨v, K⟩, k1, k2, k3, k4⟩ := m_dayEnds (I := M) (a := 577) (r := M 577) (nc := nc) hp rfl (Or.inr rfl) (lawM_c p1 hl (by rw [m1 _ _ (by decide) (by decide), j1 _ _ (by decide) (by decide) (by decide) (by decide) (by decide)]) (fun a k h1 h2 => by rw [m1 _ _ (by omega) (by omega), j1 _ _ (by omega) (by omega) (by omega) (by omega) (by omega)])) (by rw [m1 _ _ (by decide) (by decide)]; exact e1') hn (fun _ _ => rfl) h89 (by omega)
        dsimp only at k3 k4
        rw [k1, ob_some]
        refine ⟨_, rfl, K, Prod.ext i_addr rfl, fun a k h1 h2 h3 h4 h5 => by rw [k3 a k h1 h2 h3 h4, m1 a k h4 h5, j1 a k h1 h2 h3 h4 h5], ⟨fun b hb => by rw [k4 b (by omega), dyS_out (by omega) (by omega) hn, m2 b hb], fun h0 => by rw [k3 47 55 (by decide) (by decide) (by decide) (by decide), m3 h0]⟩, fun k h1 h2 => ?_⟩
        rw [k4 k h2]
        have h3 : dysI (lvV ln ht hw vv) nc (I 576) (d + 1) = dyS (lvV ln ht hw vv) (dysI (lvV ln ht hw vv) nc (I 576) d) nc := if_neg (by rw [hdi, show (60 : Int32) = Int32.ofNat 60 from rfl, i_eq (by omega) (by omega)]; omega)
        rw [h3]
        exact dyS_congr (fun k h1 h2 => by rw [m4 k h1 h2, j4 k h1 h2]) hn k h1 h2
      · rw [m_dayEnds_no rfl (by decide) (by rw [h89, show min 60 (day + d) = 60 by omega]), ob_some]
        refine ⟨_, rfl, M, Prod.ext i_addr rfl, fun a k h1 h2 h3 h4 h5 => by rw [m1 a k h4 h5, j1 a k h1 h2 h3 h4 h5], ⟨m2, m3⟩, fun k h1 h2 => ?_⟩
        have h3 : dysI (lvV ln ht hw vv) nc (I 576) (d + 1) = dysI (lvV ln ht hw vv) nc (I 576) d := if_pos (by rw [hdi, show min 60 (day + d) = 60 by omega]; rfl)
        rw [h3, m4 k h1 h2, j4 k h1 h2]
    by_cases hn0 : 0 < nb
    · have g2' := g2
      rw [j3 hn0] at g2'
      rw [j3 hn0]
      by_cases hv : drG (shL nb q s0 (I 576) d).1 16 < q
      · obtain ⟨g3, g4⟩ := drG_ok (drS (shL nb q s0 (I 576) d).1) (n := nb) (by omega) (by omega)
        rw [if_pos (lt_l hv (by omega)), if_pos (show (0 : Int32) < ab_up1 J 47 55 (drS (shL nb q s0 (I 576) d).1) 51 0 by rw [up_ne (by omega), e0']; exact lt_l (a := 0) (b := nb) (by omega) (by omega)), show ab_up1 J 47 55 (drS (shL nb q s0 (I 576) d).1) 51 0 = J 51 0 from up_ne (by omega), e0', m_draw, up_eq, g3, ob_some, ob_some]
        dsimp only
        rw [Int32.zero_add, rd_577 (by omega), ob_some]
        unfold f_m_more320
        rw [o_ite, ob_some, ob_some, wr_577 (by omega), ob_some]
        have hs : shL nb q s0 (I 576) (d + 1) = (drS (drS (shL nb q s0 (I 576) d).1), fun b => if b = drG (drS (shL nb q s0 (I 576) d).1) nb then mx0 ((shL nb q s0 (I 576) d).2 b - 1) else (shL nb q s0 (I 576) d).2 b) := if_pos ⟨hn0, hv⟩
        refine fin _ (fun a k h1 h2 => by rw [up_ne (by omega), up_ne h2, up_ne h2]) (fun b hb => ?_) (fun _ => by rw [up_ne (by omega), up_eq, hs]) (fun k h1 h2 => by rw [up_ne (by omega), up_ne (by omega), up_ne (by omega)])
        rw [hs]
        dsimp only
        by_cases hbb : b = drG (drS (shL nb q s0 (I 576) d).1) nb
        · subst hbb
          rw [up_eq, if_pos rfl, up_ne (by omega), up_ne (by omega), j2 _ hb]
          exact i_more 0 _
        · rw [up_ne (by omega), up_ne (by omega), up_ne (by omega), if_neg hbb, j2 b hb]
      · rw [if_neg (nlt_l hv (by omega) (by omega))]
        have hs : shL nb q s0 (I 576) (d + 1) = (drS (shL nb q s0 (I 576) d).1, (shL nb q s0 (I 576) d).2) := if_neg (fun h => hv h.2)
        exact fin _ (fun a k h1 h2 => up_ne h2) (fun b hb => by rw [up_ne (by omega), hs, j2 b hb]) (fun _ => by rw [up_eq, hs]) (fun k h1 h2 => up_ne (by omega))
    · have hz : nb = 0 := by omega
      subst hz
      have hs : ∀ b, (shL 0 q s0 (I 576) (d + 1)).2 b = (shL 0 q s0 (I 576) d).2 b := fun b => by rw [shL_none, shL_none]
      have f0 : ∃ M : MJ, (if Int32.ofNat (drG (J 47 55) 16) < Int32.ofNat q then (if 0 < (ab_up1 J 47 55 (drS (J 47 55)) 51 0) then
(Option.bind (f_m_draw378 (ab_up1 J 47 55 (drS (J 47 55)) 51 0) (ab_up1 J 47 55 (drS (J 47 55)))) fun w7 =>
  (Option.bind (rd w7.2 577 ((0 : Int32) + w7.1)) fun v8 =>
  (Option.bind (f_m_more320 (0 : Int32) (v8 - (1 : Int32)) w7.2) fun v9 =>
  (Option.bind (wr w7.2 577 ((0 : Int32) + w7.1) v9) fun I10 =>
  some I10)))) else some (ab_up1 J 47 55 (drS (J 47 55)))) else some (ab_up1 J 47 55 (drS (J 47 55)))) = some M ∧ M = ab_up1 J 47 55 (drS (J 47 55)) := by
        rw [if_neg (show ¬ (0 : Int32) < ab_up1 J 47 55 (drS (J 47 55)) 51 0 by rw [up_ne (by omega), e0']; decide)]
        split <;> exact ⟨_, rfl, rfl⟩
      obtain ⟨M, f1, rfl⟩ := f0
      rw [f1]
      exact fin _ (fun a k h1 h2 => up_ne h2) (fun b hb => by rw [up_ne (by omega), hs, j2 b hb]) (fun h => absurd h hn0) (fun k h1 h2 => up_ne (by omega))
  · intro s hs
    obtain ⟨J, rfl, j1, ⟨j2, j3⟩, j4⟩ := hs
    dsimp only
    rw [if_neg Int32.lt_irrefl]
    exact ⟨_, rfl, _, rfl, j1, j2, j4⟩
end SHORT
