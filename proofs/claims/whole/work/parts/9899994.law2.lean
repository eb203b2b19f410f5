/-! law -/
theorem rS16 : f_mot_readSum83 16 = F_mot_readSum83 (f_mot_readSum83 15) := rfl
theorem mS16 : f_m_sum293 16 = F_m_sum293 (f_m_sum293 15) := rfl
noncomputable def lwE (I6 : MJ) : Option MJ := (if (I6 47 5) = 0 then (if (I6 47 4) < (I6 47 2) then (Option.bind (f_m_wrong278 (1 : Int32) (I6 47 4) I6) fun I10 => some I10) else some I6) else some I6)
theorem more_at {B : Nat → Nat} {n q : Nat} {J J' : MJ} {v : Int32} (h : cR B n J q) (e : f_tap_hasMore42 J = some (v, J')) : J' 1 2 = Int32.ofNat q := by
  obtain ⟨h1, h2, h3, h4, h5⟩ := cR_next h
  unfold f_tap_hasMore42 at e
  rw [if_pos h.2.1, h3, ob_some] at e
  try dsimp only at e
  by_cases z : byt B n q = (-1 : Int32)
  · rw [if_pos z, ob_some] at e
    rw [← (Prod.mk.inj (Option.some.inj e)).2]
    exact (up_eq (I := J) (a := 1) (j := 2) (x := Int32.ofNat q))
  · rw [if_neg z, ob_some] at e
    rw [← (Prod.mk.inj (Option.some.inj e)).2]
    exact (up_eq (I := J) (a := 1) (j := 2) (x := Int32.ofNat q))
theorem law_read {B : Nat → Nat} {n q : Nat} {C0 K0 : MJ} (hn : n ≤ 150) (h : TT B n (some q) C0 K0) (h8 : K0 47 8 = Int32.ofNat 0) : ∃ st bc b0 b1 bm, f_mot_readFrom82 C0 = some bc ∧ f_m_sum293 16 (ab_up1 K0 47 26 (0 : Int32)) = some b0 ∧ f_m_blanks270 b0 = some b1 ∧ lwE b1 = some bm ∧ TT B n st bc bm ∧ fcL C0 bc ∧ fmL K0 bm ∧ ∀ q', st = some q' → ∃ c, LL c 1 bc bm ∧ c ≤ 150 := by
  have H0 : LL 0 0 (ab_up1 C0 23 5 0) (ab_up1 K0 47 26 0) := ⟨up_eq, up_eq, fun k hk => absurd hk (Nat.not_lt_zero k), fun _ => 0, rfl, fun k hk => absurd hk (Nat.not_lt_zero k), rfl, fun _ _ => Nat.zero_le _⟩
  obtain ⟨st, J1, K1, a1, a2, a3, a4, a5, a6⟩ := sum_it (rc := f_mot_readSum83 15) (rm := f_m_sum293 15) (d := 0) (by omega) hn (fun _ => HCl_all hn 15 0 (by omega) (by omega)) q 0 0 (ab_up1 C0 23 5 0) (ab_up1 K0 47 26 0) (TT_mu (TT_cu h (by decide) (by decide)) (by omega) (by omega)) (by rw [up_ne (by omega)]; exact h8) H0 (Nat.zero_le _) (Nat.zero_le _)
  obtain ⟨K2, b1, b2, b3, b4⟩ := tt_blanks a3
  have fc : fcL C0 J1 := fcL_2 (fun a j z1 z2 z3 => up_ne (by omega)) a4
  have fm : fmL K0 K2 := fmL_1 (fmL_2 (fun a j z1 z2 => up_ne (by omega)) a5) b3
  have hC : ∀ R, (Option.bind (f_tap_hasMore42 J1) fun w2 => Option.bind (α := MJ) (if w2.1 = 0 then some w2.2 else (Option.bind (f_tap_fail50 (1 : Int32) (w2.2 1 2) w2.2) fun I4 => some I4)) fun b3 => some b3) = R → f_mot_readFrom82 C0 = R := fun R r => by
    unfold f_mot_readFrom82
    rw [show f_mot_readSum83 16 (0 : Int32) (ab_up1 C0 23 5 0) = some J1 from by rw [rS16]; exact a1, ob_some]
    exact r
  have hM : f_m_sum293 16 (ab_up1 K0 47 26 (0 : Int32)) = some K1 := by rw [mS16]; exact a2
  cases st with
  | none =>
    obtain ⟨u1, u2⟩ := TT_none b2
    refine ⟨none, J1, K1, K2, K2, hC _ ?_, hM, b1, ?_, b2, fc, fm, fun q' e => by cases e⟩
    · rw [x_more_f u1, ob_some]
      try dsimp only
      rw [if_pos rfl, ob_some]
    · unfold lwE
      rw [if_neg u2]
  | some q1 =>
    obtain ⟨z1, z2, c, z3, z4⟩ := a6 q1 rfl
    have hq1 := (TT_some b2).2.2
    obtain ⟨J2, m1, m2, m3, -⟩ := x_more b2.1
    have hL := LL_1 (by omega) z3 m3 b3
    by_cases hq : q1 < n
    · rw [if_pos hq] at m1
      have t2 : TT B n (some q1) J2 K2 := ⟨m2, b2.2⟩
      obtain ⟨J3, K3, w1, w2, w3, w4, w5⟩ := tt_fail (k := 1) (w := q1) (by omega) t2
      refine ⟨none, J3, K1, K2, K3, hC _ ?_, hM, b1, ?_, w3, fcL_1 (fcL_1 fc m3) w4, fmL_1 fm w5, fun q' e => by cases e⟩
      · rw [m1, ob_some]
        try dsimp only
        rw [if_neg (show ¬ (1 : Int32) = 0 by decide), more_at b2.1 m1, show f_tap_fail50 1 (Int32.ofNat q1) J2 = some J3 from w1, ob_some, ob_some]
      · unfold lwE
        rw [if_pos (TT_some b2).2.1, b4 q1 rfl, b2.2.1.2.1, if_pos (lt_l hq (by omega)), show f_m_wrong278 1 (Int32.ofNat q1) K2 = some K3 from w2, ob_some]
    · rw [if_neg hq] at m1
      refine ⟨some q1, J2, K1, K2, K2, hC _ ?_, hM, b1, ?_, ⟨m2, b2.2⟩, fcL_1 fc m3, fm, fun q' e => ⟨c, hL, by omega⟩⟩
      · rw [m1, ob_some]
        try dsimp only
        rw [if_pos rfl, ob_some]
      · unfold lwE
        rw [if_pos (TT_some b2).2.1, b4 q1 rfl, b2.2.1.2.1, if_neg (nlt_l hq (by omega) (by omega))]
set_option maxHeartbeats 2000000 in
theorem op_law_ok : op_law rel := by
  intro p I hr
  have hr0 := hr
  obtain ⟨tn, bl, st, wa, od, tb, pk, ln, ht, nl, bh, bs, nk, ni, wt, u, hS, hD, hP, hL, hB, hK, hT, hC⟩ := hr
  have hu : u ≤ 600 := hT.1
  have tu : I 1 1 = Int32.ofNat u := hT.2.1
  have mu : I 47 1 = Int32.ofNat u := hT.2.2.1
  rcases rcW p (lo := 0) (hi := min u 150) (by omega) (Nat.zero_le _) with ⟨n, -, hn, rfl⟩ | hp
  · obtain ⟨B, hTB⟩ := tape_B hT
    have hn1 : n ≤ u := by omega
    have hn2 : n ≤ 150 := by omega
    have hn6 : n ≤ 600 := by omega
    obtain ⟨C0, o1, o2, o3⟩ := x_open (I := I) (B := B) hn6 (fun k hk => ⟨(hTB k (by omega)).1, (hTB k (by omega)).2.2⟩)
    obtain ⟨K0, s1, s2, s3, s4, s5⟩ := m_starts (I := I) (B := B) hn6 (fun k hk => ⟨(hTB k (by omega)).1, (hTB k (by omega)).2.1⟩)
    obtain ⟨st0, bc, z1, z2, z3, r1, -, -, -, -, r4, -, -⟩ := law_read (K0 := K0) hn2 ⟨o2, s2⟩ s4.2.2
    have bcI : ∀ a k, ¬ (a = 1 ∧ 2 ≤ k ∧ k ≤ 6) → a ≠ 25 → ¬ (a = 23 ∧ k = 5) → bc a k = I a k := fun a k h1 h2 h3 => by rw [r4 a k (by omega) h2 h3, o3 a k h1]
    have hX : ∃ v J, f_x_law81 (Int32.ofNat n) I = some (.inr v, J) ∧ J 1 1 = Int32.ofNat 0 ∧ J 1 6 = bc 1 6 ∧ (∀ a k, a ≠ 1 → a ≠ 25 → ¬ (a = 23 ∧ (k = 4 ∨ k = 5)) → a ≠ 24 → J a k = I a k) ∧ (bc 1 5 = 0 → v = 1 ∧ J 23 4 = bc 23 5 ∧ ∀ k, k < 150 → J 24 k = bc 25 k) ∧ (¬ bc 1 5 = 0 → v = bc 1 5 - 10 ∧ J 23 4 = I 23 4 ∧ ∀ k, J 24 k = I 24 k) := by
      unfold f_x_law81
      rw [show f_x_needText37 (Int32.ofNat n) 150 I = _ from nTx_ok (mo := 150) tu hu (by omega) (by omega) (by decide), tb_inr, o1, ob_some, r1, ob_some, x_sound, ob_some]
      by_cases h5 : bc 1 5 = 0
      · rw [if_pos h5, if_neg (by decide)]
        unfold f_mot_keep90
        rw [show f_x_copy22 25 0 24 0 150 (ab_up1 bc 23 4 (bc 23 5)) = _ from copy_ok (la := 150) (lb := 150) (sp := 0) (dp := 0) (n := 150) rfl rfl (by decide) (by decide) (by decide) (by decide) (by decide) (by decide), ob_some, ob_some, ob_some, x_close, ob_some]
        dsimp only
        have hcp : ∀ a k, a ≠ 24 → ¬ (a = 23 ∧ k = 4) → ab_cpy (ab_up1 bc 23 4 (bc 23 5)) 25 24 0 0 150 a k = bc a k := fun a k h1 h2 => by rw [cpy_ne h1, up_ne h2]
        refine ⟨_, _, rfl, (up_eq (I := ab_cpy (ab_up1 bc 23 4 (bc 23 5)) 25 24 0 0 150) (a := 1) (j := 1) (x := 0)), ?_, fun a k h1 h2 h3 h4 => ?_, fun _ => ⟨?_, ?_, fun k hk => ?_⟩, fun z => absurd h5 z⟩
        · rw [up_ne (by omega), hcp 1 6 (by decide) (by decide)]
        · rw [up_ne (by omega), hcp a k h4 (by omega), bcI a k (by omega) h2 (by omega)]
        · rw [if_pos (by rw [hcp 1 5 (by decide) (by decide)]; exact h5)]
        · rw [up_ne (by omega), cpy_ne (by decide), up_eq]
        · rw [up_ne (by omega), cpy_at, if_pos ⟨Nat.zero_le _, by omega⟩, up_ne (by omega), show 0 + (k - 0) = k by omega]
      · rw [if_neg h5, if_pos rfl, ob_some, x_close, ob_some]
        dsimp only
        refine ⟨_, _, rfl, (up_eq (I := bc) (a := 1) (j := 1) (x := 0)), ?_, fun a k h1 h2 h3 h4 => ?_, fun z => absurd z h5, fun _ => ⟨?_, ?_, fun k => ?_⟩⟩
        · rw [up_ne (by omega)]
        · rw [up_ne (by omega), bcI a k (by omega) h2 (by omega)]
        · rw [if_neg h5]
        · rw [up_ne (by omega), bcI _ _ (by omega) (by omega) (by omega)]
        · rw [up_ne (by omega), bcI _ _ (by omega) (by omega) (by omega)]
    obtain ⟨v, J, x1, x2, x3, x4, x5, x6⟩ := hX
    -- the model's
    have J48 : ∀ k, J 48 k = I 48 k := fun k => x4 _ _ (by omega) (by omega) (by omega) (by omega)
    have J471 : J 47 1 = Int32.ofNat u := by rw [x4 _ _ (by omega) (by omega) (by omega) (by omega)]; exact mu
    obtain ⟨K1, t1, t2, t3, t4, t5⟩ := m_starts (I := ab_up1 J 47 0 0) (B := B) hn6 (fun k hk => ⟨(hTB k (by omega)).1, by rw [up_ne (by omega), J48]; exact (hTB k (by omega)).2.1⟩)
    obtain ⟨sz, bc', bm0, bm1, bm, r1', q1, q2, q3, q4, -, q5, q6⟩ := law_read (K0 := K1) hn2 ⟨o2, t2⟩ t4.2.2
    have hbc : bc' = bc := Option.some.inj (r1'.symm.trans r1)
    subst hbc
    have bmI : ∀ a k, ¬ (a = 47 ∧ (k = 0 ∨ k = 1 ∨ k = 2 ∨ k = 4 ∨ k = 5 ∨ k = 6 ∨ k = 7 ∨ k = 8 ∨ k = 26)) → ¬ (307 ≤ a ∧ a < 467) → bm a k = J a k := fun a k h1 h2 => by rw [q5 a k (by omega) h2, t5 a k (by omega), up_ne (by omega)]
    have b1 : bm 47 1 = Int32.ofNat 0 := by rw [q5 47 1 (by omega) (by omega)]; exact t4.1
    have b0 : bm 47 0 = 0 := by rw [q5 47 0 (by omega) (by omega), t5 47 0 (by omega), up_eq]
    have hgd := mTx_ok (I := ab_up1 J 47 0 0) (k := n) (mo := 150) (u := u) (by rw [up_ne (by omega)]; exact J471) hu hn2 hn1 (by decide)
    have hM : ∀ R, (if (bm 47 5) = 0 then (Option.bind (f_m_lays263 306 145 (bm 47 26) (ab_up1 (ab_up1 bm 47 3 (-1 : Int32)) 47 25 (bm 47 26))) fun I8 => some ((1 : Int32), I8)) else (Option.bind (f_m_ends286 bm) fun w9 => some (w9.1, w9.2))) = R → f_m_law292 (Int32.ofNat n) J = R := fun R r => by
      unfold f_m_law292
      refine (bind_key hgd).trans ?_
      try dsimp only
      rw [bad_0 up_eq, ob_some, if_pos rfl]
      try dsimp only
      rw [t1, ob_some, q1, ob_some, q2, ob_some]
      exact (congrArg (fun z => Option.bind z _) (show lwE bm1 = some bm from q3)).trans r
    obtain ⟨c1, c2, c3, c4, c5⟩ := hC
    cases sz with
    | some q' =>
      have n1 : bc' 1 5 = 0 := (TT_some q4).1
      have n3 : bm 47 5 = 0 := (TT_some q4).2.1
      have n2 : bc' 1 6 = -1 := q4.1.2.2.1
      obtain ⟨y1, y2, y3⟩ := x5 n1
      obtain ⟨c, ⟨l1, l2, l3, ht', l4, l5, l6, l7⟩, hc⟩ := q6 q' rfl
      obtain ⟨K, k1, k2, k3⟩ := m_lays (I := ab_up1 (ab_up1 bm 47 3 (-1)) 47 25 (Int32.ofNat c)) (a := 306) (b := 145) (r := 2) (many := c) (fun k hk => rdp_306 (by omega)) (fun k hk => rdp_145 (by omega)) (fun k hk => KS_306 k (by omega)) (fun k hk => KS_145 k (by omega)) (by decide) (by omega) (by omega) (by omega) (by omega)
      have kJ : ∀ a k, ¬ (a = 47 ∧ (k = 0 ∨ k = 1 ∨ k = 2 ∨ k = 3 ∨ k = 4 ∨ k = 5 ∨ k = 6 ∨ k = 7 ∨ k = 8 ∨ k = 25 ∨ k = 26)) → ¬ (307 ≤ a ∧ a < 467) → ¬ (145 < a ∧ a ≤ 145 + c) → K a k = J a k := fun a k h1 h2 h3 => by rw [k2 a k h3, up_ne (by omega), up_ne (by omega), bmI a k (by omega) h2]
      have kI : ∀ a k, ¬ (a = 47 ∧ (k = 0 ∨ k = 1 ∨ k = 2 ∨ k = 3 ∨ k = 4 ∨ k = 5 ∨ k = 6 ∨ k = 7 ∨ k = 8 ∨ k = 25 ∨ k = 26)) → ¬ (307 ≤ a ∧ a < 467) → ¬ (145 < a ∧ a ≤ 145 + c) → a ≠ 1 → a ≠ 25 → ¬ (a = 23 ∧ (k = 4 ∨ k = 5)) → a ≠ 24 → K a k = I a k := fun a k h1 h2 h3 h4 h5 h6 h7 => by rw [kJ a k h1 h2 h3, x4 a k h4 h5 h6 h7]
      have k146 : ∀ k, k < c → ∀ i, i < 2 → K (146 + k) i = bm (307 + k) i := fun k hk i hi => by rw [show 146 + k = 145 + 1 + k by omega, k3 k hk i hi, up_ne (by omega), up_ne (by omega), show 306 + 1 + k = 307 + k by omega]
      refine ⟨_, J, 1, K, x1, hM _ ?_, ⟨tn, bl, st, wa, od, tb, pk, c, ht', nl, bh, bs, nk, ni, wt, 0, rShop_congr (fun a k h => kI a k (by omega) (by omega) (by omega) (by omega) (by omega) (by omega) (by omega)) hS, rStand_congr (fun a k h => kI a k (by omega) (by omega) (by omega) (by omega) (by omega) (by omega) (by omega)) hD, rPat_congr (fun a k h => kI a k (by omega) (by omega) (by omega) (by omega) (by omega) (by omega) (by omega)) hP, ⟨hc, ?_, ?_, fun k hk => ?_, l4, fun k hk => ?_, fun _ => l6, l7⟩, rBook_congr (fun a k h => kI a k (by omega) (by omega) (by omega) (by omega) (by omega) (by omega) (by omega)) hB, rPast_congr (fun a k h => kI a k (by omega) (by omega) (by omega) (by omega) (by omega) (by omega) (by omega)) hK, ⟨by decide, ?_, ?_, fun k hk => absurd hk (Nat.not_lt_zero k)⟩, ⟨?_, ?_, ?_, ?_, ?_⟩⟩, okI_0 ?_ y1⟩
      · rw [if_pos n3, l2, k1, ob_some]
      · rw [kJ _ _ (by omega) (by omega) (by omega), y2, l1]
      · rw [k2 _ _ (by omega), up_eq]
      · rw [kJ _ _ (by omega) (by omega) (by omega), y3 k (by omega), k146 k hk 0 (by decide), k146 k hk 1 (by decide)]
        exact l3 k hk
      · rw [k146 k hk 0 (by decide)]
        exact l5 k hk
      · rw [kJ 1 1 (by omega) (by omega) (by omega), x2]
      · rw [k2 _ _ (by omega), up_ne (by omega), up_ne (by omega)]; exact b1
      · rw [kI _ _ (by omega) (by omega) (by omega) (by omega) (by omega) (by omega) (by omega), kI _ _ (by omega) (by omega) (by omega) (by omega) (by omega) (by omega) (by omega)]; exact c1
      · rw [kI _ _ (by omega) (by omega) (by omega) (by omega) (by omega) (by omega) (by omega), kI _ _ (by omega) (by omega) (by omega) (by omega) (by omega) (by omega) (by omega)]; exact c2
      · rw [kI _ _ (by omega) (by omega) (by omega) (by omega) (by omega) (by omega) (by omega), kI _ _ (by omega) (by omega) (by omega) (by omega) (by omega) (by omega) (by omega)]; exact c3
      · rw [kI _ _ (by omega) (by omega) (by omega) (by omega) (by omega) (by omega) (by omega), kI _ _ (by omega) (by omega) (by omega) (by omega) (by omega) (by omega) (by omega)]; exact c4
      · rw [kJ 1 6 (by omega) (by omega) (by omega), x3, n2, k2 _ _ (by omega), up_ne (by omega), up_eq]
      · rw [k2 _ _ (by omega), up_ne (by omega), up_ne (by omega)]; exact b0
    | none =>
      obtain ⟨k, w, g1, g2⟩ := q4
      have hf : ¬ bc' 1 5 = 0 := cX_ne g1
      have hf2 : ¬ bm 47 5 = 0 := mX_ne g2
      obtain ⟨y1, y2, y3⟩ := x6 hf
      have kI : ∀ a k, a ≠ 1 → ¬ (a = 47 ∧ (k = 0 ∨ k = 1 ∨ k = 2 ∨ k = 3 ∨ k = 4 ∨ k = 5 ∨ k = 6 ∨ k = 7 ∨ k = 8 ∨ k = 26)) → ¬ (307 ≤ a ∧ a < 467) → a ≠ 25 → ¬ (a = 23 ∧ k = 5) → (ab_up1 bm 47 3 (bm 47 6)) a k = I a k := fun a k h1 h2 h3 h4 h5 => by
        rw [up_ne (by omega), bmI a k (by omega) h3]
        by_cases e : a = 23 ∧ k = 4
        · obtain ⟨rfl, rfl⟩ := e
          exact y2
        · by_cases e2 : a = 24
          · subst e2
            exact y3 k
          · exact x4 a k h1 h4 (by omega) e2
      refine ⟨_, J, bm 47 5 - 10, ab_up1 bm 47 3 (bm 47 6), x1, hM _ ?_, ⟨tn, bl, st, wa, od, tb, pk, ln, ht, nl, bh, bs, nk, ni, wt, 0, rShop_congr (fun a k h => kI a k (by omega) (by omega) (by omega) (by omega) (by omega)) hS, rStand_congr (fun a k h => kI a k (by omega) (by omega) (by omega) (by omega) (by omega)) hD, rPat_congr (fun a k h => kI a k (by omega) (by omega) (by omega) (by omega) (by omega)) hP, rLaw_congr (fun a k h => kI a k (by omega) (by omega) (by omega) (by omega) (by omega)) hL, rBook_congr (fun a k h => kI a k (by omega) (by omega) (by omega) (by omega) (by omega)) hB, rPast_congr (fun a k h => kI a k (by omega) (by omega) (by omega) (by omega) (by omega)) hK, ⟨by decide, ?_, ?_, fun k hk => absurd hk (Nat.not_lt_zero k)⟩, ⟨?_, ?_, ?_, ?_, ?_⟩⟩, okI_0 ?_ ?_⟩
      · rw [if_neg hf2]
        rfl
      · rw [up_ne (by omega), bmI 1 1 (by omega) (by omega)]; exact x2
      · rw [up_ne (by omega)]; exact b1
      · rw [kI _ _ (by decide) (by decide) (by decide) (by decide) (by decide), kI _ _ (by decide) (by decide) (by decide) (by decide) (by decide)]; exact c1
      · rw [kI _ _ (by decide) (by decide) (by decide) (by decide) (by decide), kI _ _ (by decide) (by decide) (by decide) (by decide) (by decide)]; exact c2
      · rw [kI _ _ (by decide) (by decide) (by decide) (by decide) (by decide), kI _ _ (by decide) (by decide) (by decide) (by decide) (by decide)]; exact c3
      · rw [kI _ _ (by decide) (by decide) (by decide) (by decide) (by decide), kI _ _ (by decide) (by decide) (by decide) (by decide) (by decide)]; exact c4
      · rw [up_eq, up_ne (by omega), bmI 1 6 (by omega) (by omega), x3, g1.2.2, g2.2.2.1]
      · rw [up_ne (by omega)]; exact b0
      · rw [y1, g1.2.1, g2.2.1]
  · refine qref (E := 1) (w := 1) (by decide) hr0 ?_ ?_ (Or.inl ⟨rfl, rfl⟩)
    · unfold f_x_law81
      rw [show f_x_needText37 p 150 I = _ from nTx_no (mo := 150) tu hu (by decide) hp]
      rfl
    · unfold f_m_law292
      refine (bind_key (mTx_bad (I := ab_up1 (ab_up1 I 0 (14 + 1) (I 0 (14 + 1) + 1)) 47 0 0) (mo := 150) mu hu (by decide) hp)).trans ?_
      try dsimp only
      rw [show f_m_bad268 1 1 1 _ = _ from bad_ref (E := 1) (by decide) (by decide)]
      rfl
