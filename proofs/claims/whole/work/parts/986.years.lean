/-! years -/
section YRS
variable {J : MJ} {t c nc nb : Nat}
theorem x_bareHours (hK : KS (t + 1) = (100, 91)) (ha : t + 1 < 699) (hc : c < 6) : f_sta_bareHours154 t (Int32.ofNat c) J = some (if J (t + 1) (3 + c) = -1 then 0 else hoursF (fun h => J (t + 1) (19 + 12 * c + h)) 6) := by
  unfold f_sta_bareHours154
  rw [x_hasSuit hK ha hc, ob_some]
  by_cases h : J (t + 1) (3 + c) = -1
  · rw [if_pos h, if_pos rfl, if_pos h]
    rfl
  · rw [if_neg h, if_neg (by decide), if_neg h, x_suitAt, ob_some, x_hoursOf hK ha (by decide) (by omega)]
    rfl
theorem x_allBare (e6 : J 3 6 = Int32.ofNat nc) (hn : nc ≤ 6) : f_x_allBareHours253 J = some (sm (fun c => if J 18 (3 + c) = -1 then 0 else hoursF (fun h => J 18 (19 + 12 * c + h)) 6) nc) := by
  unfold f_x_allBareHours253
  rw [wh_sum0 (fun c => if J 18 (3 + c) = -1 then 0 else hoursF (fun h => J 18 (19 + 12 * c + h)) 6) nc ?_ ?_]
  · rfl
  · intro c hc s
    try dsimp only
    rw [if_pos (by rw [e6, i_lt (by omega) (by omega)]; exact hc), x_bareHours (t := 17) rfl (by decide) (by omega), ob_some, i_addr]
  · intro s
    exact if_neg (by rw [e6]; exact Int32.lt_irrefl)
theorem x_empty (hn : nb ≤ 10) : f_sta_emptyBolts257 (Int32.ofNat nb) J = some (sm (fun b => if J 18 (9 + b) = 0 then 1 else 0) nb) := by
  unfold f_sta_emptyBolts257
  rw [wh_sum0 (fun b => if J 18 (9 + b) = 0 then 1 else 0) nb ?_ ?_]
  · rfl
  · intro c hc s
    try dsimp only
    unfold f_sta_leftOn143
    rw [if_pos (by rw [i_lt (by omega) (by omega)]; exact hc), show (9 : Int32) + Int32.ofNat c = Int32.ofNat (9 + c) from i_addl (n := 9), at_ok (a := 17 + 1) (n := 91) rfl (by decide) (by decide) (by omega), ob_some, ob_some, o_ite, ob_some, i_addr]
  · intro s
    exact if_neg Int32.lt_irrefl
end YRS
theorem nY_ok {I : MJ} {q days w : Nat} (h1 : q ≤ 16) (h2 : 1 ≤ days) (h3 : days ≤ 60) (h4 : w ≤ 2) : f_x_needYears252 (Int32.ofNat q) (Int32.ofNat days) (Int32.ofNat w) I = some (.inr (), I) := by
  unfold f_x_needYears252
  rw [show f_x_needWithin38 (Int32.ofNat q) 0 16 I = _ from nWW_ok (lo := 0) (hi := 16) (Nat.zero_le _) h1 (by decide), tb_inr, show f_x_needWithin38 (Int32.ofNat days) 1 60 I = _ from nWW_ok (lo := 1) (hi := 60) h2 h3 (by decide), tb_inr, show f_x_needWithin38 (Int32.ofNat w) 0 2 I = _ from nWW_ok (lo := 0) (hi := 2) (Nat.zero_le _) h4 (by decide), tb_inr]
/-- one of the three is wrong: both refuse -/
theorem nY_no {I : MJ} {q days w : Int32} (h : (q < Int32.ofNat 0 ∨ Int32.ofNat 16 < q) ∨ (days < Int32.ofNat 1 ∨ Int32.ofNat 60 < days) ∨ (w < Int32.ofNat 0 ∨ Int32.ofNat 2 < w)) : f_x_needYears252 q days w I = some (.inl 1, ab_up1 I 0 15 (I 0 15 + 1)) := by
  unfold f_x_needYears252
  rcases rcW q (lo := 0) (hi := 16) (by decide) (by decide) with ⟨kq, -, hq, rfl⟩ | hq
  · rw [show f_x_needWithin38 (Int32.ofNat kq) 0 16 I = _ from nWW_ok (lo := 0) (hi := 16) (Nat.zero_le _) hq (by decide), tb_inr]
    rcases rcW days (lo := 1) (hi := 60) (by decide) (by decide) with ⟨kd, hd1, hd2, rfl⟩ | hd
    · rw [show f_x_needWithin38 (Int32.ofNat kd) 1 60 I = _ from nWW_ok (lo := 1) (hi := 60) hd1 hd2 (by decide), tb_inr]
      have hw : w < Int32.ofNat 0 ∨ Int32.ofNat 2 < w := by
        rcases h with h | h | h
        · rw [i_lt (by omega) (by decide), i_lt (by decide) (by omega)] at h
          omega
        · rw [i_lt (by omega) (by decide), i_lt (by decide) (by omega)] at h
          omega
        · exact h
      rw [show f_x_needWithin38 w 0 2 _ = _ from nWW_no hw]
      rfl
    · rw [show f_x_needWithin38 days 1 60 _ = _ from nWW_no hd]
      rfl
  · rw [show f_x_needWithin38 q 0 16 _ = _ from nWW_no hq]
    rfl
set_option maxHeartbeats 1000000 in
theorem op_years_ok : op_years rel := by
  intro seed p2 p3 p4 I hr
  have hr0 := hr
  obtain ⟨tn, bl, st, wa, od, tb, pk, ln, ht, nl, bh, bs, nk, ni, wt, u, hS, hD, hP, hL, hB, hK, hT, hC⟩ := hr
  obtain ⟨s1, s2, s3, s4, s5, s6, s7, s8, s9, s10, s11, s12, s13, s14, s15, s16, s17⟩ := hS
  obtain ⟨d1, d2⟩ := hD
  have hp := lawP_of hL
  obtain ⟨day, hday, hd, hd3, hd4, hd5⟩ := d2
  have hlx : lawX ln (I 24) I := ⟨hL.2.1, fun _ _ => rfl⟩
  have hlm : lawM ln (fun k => I (146 + k) 0) (fun k => I (146 + k) 1) I := ⟨hL.2.2.1, fun _ _ => ⟨rfl, rfl⟩⟩
  have t5 : I 3 5 = Int32.ofNat (tn 0) := s3 0 (by decide)
  have t6 : I 3 6 = Int32.ofNat (tn 1) := s3 1 (by decide)
  have u0 : I 51 0 = Int32.ofNat (tn 0) := s2 0 (by decide)
  have u1 : I 51 1 = Int32.ofNat (tn 1) := s2 1 (by decide)
  have p1 := hp.1
  by_cases hbad : (p2 < Int32.ofNat 0 ∨ Int32.ofNat 16 < p2) ∨ (p3 < Int32.ofNat 1 ∨ Int32.ofNat 60 < p3) ∨ (p4 < Int32.ofNat 0 ∨ Int32.ofNat 2 < p4)
  · refine qref (E := 1) (w := 1) (by decide) hr0 ?_ ?_ (Or.inl ⟨rfl, rfl⟩)
    · unfold f_x_years251
      rw [nY_no hbad]
      rfl
    · unfold f_m_years376
      have hb : ∃ b, (Option.bind (f_m_in264 p2 (0 : Int32) (16 : Int32) (ab_up1 (ab_up1 I 0 (14 + 1) (I 0 (14 + 1) + 1)) 47 0 (0 : Int32))) fun v1 =>
  (Option.bind (α := Int32)
  (if v1 = 0 then
  some (1 : Int32)
  else
  (Option.bind (f_m_in264 p3 (1 : Int32) (60 : Int32) (ab_up1 (ab_up1 I 0 (14 + 1) (I 0 (14 + 1) + 1)) 47 0 (0 : Int32))) fun v15 =>
  (if v15 = 0 then
  some (1 : Int32)
  else
  (Option.bind (f_m_in264 p4 (0 : Int32) (2 : Int32) (ab_up1 (ab_up1 I 0 (14 + 1) (I 0 (14 + 1) + 1)) 47 0 (0 : Int32))) fun v16 =>
  (if v16 = 0 then
  some (1 : Int32)
  else
  some (0 : Int32)
  )
  )
  )
  )
  ) fun b2 => some b2)) = some b ∧ b = 1 := by
        rcases rcW p2 (lo := 0) (hi := 16) (by decide) (by decide) with ⟨kq, -, hq, rfl⟩ | hq
        · rw [show f_m_in264 (Int32.ofNat kq) 0 16 _ = _ from inW_ok (lo := 0) (hi := 16) (Nat.zero_le _) hq (by decide), ob_some, if_neg (by decide)]
          rcases rcW p3 (lo := 1) (hi := 60) (by decide) (by decide) with ⟨kd, hd1, hd2, rfl⟩ | hd
          · rw [show f_m_in264 (Int32.ofNat kd) 1 60 _ = _ from inW_ok (lo := 1) (hi := 60) hd1 hd2 (by decide), ob_some, if_neg (by decide)]
            have hw : p4 < Int32.ofNat 0 ∨ Int32.ofNat 2 < p4 := by
              rcases hbad with h | h | h
              · rw [i_lt (by omega) (by decide), i_lt (by decide) (by omega)] at h
                omega
              · rw [i_lt (by omega) (by decide), i_lt (by decide) (by omega)] at h
                omega
              · exact h
            rw [show f_m_in264 p4 0 2 _ = _ from inW_no hw]
            exact ⟨_, rfl, rfl⟩
          · rw [show f_m_in264 p3 1 60 _ = _ from inW_no hd]
            exact ⟨_, rfl, rfl⟩
        · rw [show f_m_in264 p2 0 16 _ = _ from inW_no hq]
          exact ⟨_, rfl, rfl⟩
      obtain ⟨b, hb1, rfl⟩ := hb
      have key : ∀ {γ : Type} (k : Int32 → Option γ) (e : Option Int32) (f : Int32 → Option Int32), (Option.bind e fun v => Option.bind (f v) fun b2 => some b2) = some 1 → (Option.bind e fun v => Option.bind (f v) k) = k 1 := by
        intro γ k e f h
        cases e with
        | none => cases h
        | some v =>
          rw [ob_some] at h ⊢
          cases hf : f v with
          | none => rw [hf] at h; cases h
          | some z =>
            rw [hf] at h
            have : z = 1 := Option.some.inj h
            rw [this]
            rfl
      refine (key _ _ _ hb1).trans ?_
      try dsimp only
      rw [show f_m_bad268 1 1 1 _ = _ from bad_ref (E := 1) (by decide) (by decide)]
      rfl
  · obtain ⟨q, -, hq, rfl⟩ := (rcW p2 (lo := 0) (hi := 16) (by decide) (by decide)).resolve_right (fun h => hbad (Or.inl h))
    obtain ⟨days, hds1, hds, rfl⟩ := (rcW p3 (lo := 1) (hi := 60) (by decide) (by decide)).resolve_right (fun h => hbad (Or.inr (Or.inl h)))
    obtain ⟨kw, -, hw, rfl⟩ := (rcW p4 (lo := 0) (hi := 2) (by decide) (by decide)).resolve_right (fun h => hbad (Or.inr (Or.inr h)))
    clear hbad
    generalize hV : lvV ln ht (fun k => I (146 + k) 0) (fun k => I (146 + k) 1) = V
    have hx : ∃ v J, f_x_years251 seed (Int32.ofNat q) (Int32.ofNat days) (Int32.ofNat kw) I = some (.inr v, J) ∧ (∀ a k, a ≠ 26 → a ≠ 27 → a ≠ 18 → a ≠ 28 → J a k = I a k) ∧ v = if kw = 1 then sm (fun c => if I 576 (82 + c) = -1 then 0 else hoursF (fun h => dysI V (tn 1) (I 576) days (10 + 12 * c + h)) 6) (tn 1) else if kw = 0 then sm (fun b => (shL (tn 0) q seed (I 576) days).2 b) (tn 0) else sm (fun b => if (shL (tn 0) q seed (I 576) days).2 b = 0 then 1 else 0) (tn 0) := by
      unfold f_x_years251
      rw [nY_ok hq hds1 hds hw, tb_inr, st_copy, ob_some]
      by_cases hk1 : kw = 1
      · subst hk1
        rw [if_pos (show Int32.ofNat 1 = 1 from rfl), if_pos rfl]
        obtain ⟨J, j1, j2, j3⟩ := x_passDays (I := ab_cpy I 16 18 0 0 91) (r := I 576) (nc := tn 1) (days := days) hp (lawX_c hlx (fun k => cpy_ne (by decide)) (fun k => cpy_ne (by decide))) (by rw [cpy_ne (by decide)]; exact t6) (by omega) (stE_cpy d1 (fun _ _ => rfl)) hd hday hds
        rw [hV] at j3
        have jI : ∀ a k, a ≠ 26 → a ≠ 27 → a ≠ 18 → J a k = I a k := fun a k h1 h2 h3 => by rw [j2 a k h1 h2 h3, cpy_ne h3]
        rw [j1, ob_some, x_allBare (nc := tn 1) (by rw [jI 3 6 (by decide) (by decide) (by decide)]; exact t6) (by omega), ob_some]
        refine ⟨_, _, rfl, fun a k h1 h2 h3 _ => jI a k h1 h2 h3, sm_congr fun c hc => ?_⟩
        try dsimp only
        rw [stE_cut j3 (by omega), dysI_out (by omega) (by omega) (by omega)]
        split
        · rfl
        · exact hoursF_congr fun h hh => by
            have := stE_suit j3 (j := 12 * c + h) (by omega)
            rw [Nat.add_assoc 19, Nat.add_assoc 10]
            exact this
      · have hk1' : ¬ Int32.ofNat kw = 1 := fun h => hk1 ((i_eq (b := 1) (by omega) (by decide)).mp h)
        rw [if_neg hk1', if_neg hk1]
        obtain ⟨J, j1, j2, j3, j4⟩ := x_shorten (I := ab_cpy I 16 18 0 0 91) (s0 := seed) (L0 := I 576) (nb := tn 0) (by omega) hq hds (by rw [cpy_ne (by decide)]; exact t5) (fun b hb => by
          rw [cpy_at, if_pos ⟨Nat.zero_le _, by omega⟩, show 0 + (9 + b - 0) = 9 + b by omega]
          exact stE_left d1 hb)
        have jI : ∀ a k, a ≠ 18 → a ≠ 28 → J a k = I a k := fun a k h1 h2 => by rw [j2 a k h1 h2, cpy_ne h1]
        rw [j1, ob_some]
        by_cases hk0 : kw = 0
        · subst hk0
          rw [if_pos (show Int32.ofNat 0 = 0 from rfl), if_pos rfl, x_hoursLeft (t := 17) rfl (by decide), ob_some, ob_some]
          refine ⟨_, _, rfl, fun a k _ _ h3 h4 => jI a k h3 h4, ?_⟩
          rw [sm_congr (u := fun b => (shL (tn 0) q seed (I 576) days).2 b) (fun b hb => j3 b hb)]
          exact sm_tail (by omega) fun b h1 h2 => by
            obtain ⟨m, m1, m2, m3⟩ := shL_ok (nb := tn 0) (q := q) (s0 := seed) (L0 := I 576) hd3 days b h2
            try dsimp only
            rw [m2, m3 h1]
            rfl
        · have hk0' : ¬ Int32.ofNat kw = 0 := fun h => hk0 ((i_eq (b := 0) (by omega) (by decide)).mp h)
          rw [if_neg hk0', if_neg hk0, show J 3 5 = Int32.ofNat (tn 0) from (jI 3 5 (by decide) (by decide)).trans t5, x_empty (by omega), ob_some, ob_some]
          refine ⟨_, _, rfl, fun a k _ _ h3 h4 => jI a k h3 h4, sm_congr fun b hb => ?_⟩
          try dsimp only
          rw [j3 b (by omega)]
    obtain ⟨v, J, x1, x2, x3⟩ := hx
    have hM : ∀ a k, a ≠ 26 → a ≠ 27 → a ≠ 18 → a ≠ 28 → ¬ (a = 47 ∧ k = 0) → ab_up1 J 47 0 0 a k = I a k := fun a k h1 h2 h3 h4 h5 => by rw [up_ne h5, x2 a k h1 h2 h3 h4]
    have hM576 : ∀ k, ab_up1 J 47 0 0 576 k = I 576 k := fun k => hM _ _ (by decide) (by decide) (by decide) (by decide) (by omega)
    obtain ⟨K, k1, k2, k3, k4⟩ := m_shortens (I := ab_up1 J 47 0 0) (s0 := seed) (nb := tn 0) (nc := tn 1) (q := q) (days := days) hp (lawM_c p1 hlm (hM _ _ (by decide) (by decide) (by decide) (by decide) (by decide)) (fun a k h1 h2 => hM _ _ (by omega) (by omega) (by omega) (by omega) (by omega))) (by omega) (by omega) hq hds (by rw [hM _ _ (by decide) (by decide) (by decide) (by decide) (by decide)]; exact u0) (by rw [hM _ _ (by decide) (by decide) (by decide) (by decide) (by decide)]; exact u1) (by rw [hM576]; exact hd) hday
    rw [hV, show ab_up1 J 47 0 0 576 = I 576 from funext hM576] at k4
    rw [show ab_up1 J 47 0 0 576 = I 576 from funext hM576] at k3
    have kI : ∀ a k, a ≠ 493 → a ≠ 494 → a ≠ 600 → a ≠ 577 → ¬ (a = 47 ∧ k = 55) → a ≠ 26 → a ≠ 27 → a ≠ 18 → a ≠ 28 → ¬ (a = 47 ∧ k = 0) → K a k = I a k := fun a k h1 h2 h3 h4 h5 h6 h7 h8 h9 h10 => by rw [k2 a k h1 h2 h3 h4 h5, hM a k h6 h7 h8 h9 h10]
    have K0 : K 51 0 = Int32.ofNat (tn 0) := by
      rw [kI _ _ (by decide) (by decide) (by decide) (by decide) (by decide) (by decide) (by decide) (by decide) (by decide) (by decide)]
      exact u0
    have K1 : K 51 1 = Int32.ofNat (tn 1) := by
      rw [kI _ _ (by decide) (by decide) (by decide) (by decide) (by decide) (by decide) (by decide) (by decide) (by decide) (by decide)]
      exact u1
    refine qok (v := v) (I1 := J) (I2 := K) hr0 x1 ?_ (fun g k h => ?_) (by rw [k2 47 0 (by decide) (by decide) (by decide) (by decide) (by decide)]; exact up_eq)
    · unfold f_m_years376
      rw [show f_m_in264 (Int32.ofNat q) 0 16 _ = _ from inW_ok (lo := 0) (hi := 16) (Nat.zero_le _) hq (by decide), ob_some, if_neg (by decide), show f_m_in264 (Int32.ofNat days) 1 60 _ = _ from inW_ok (lo := 1) (hi := 60) hds1 hds (by decide), ob_some, if_neg (by decide), show f_m_in264 (Int32.ofNat kw) 0 2 _ = _ from inW_ok (lo := 0) (hi := 2) (Nat.zero_le _) hw (by decide), ob_some, if_neg (by decide), ob_some, bad_0 up_eq, ob_some, if_pos rfl]
      try dsimp only
      rw [k1, ob_some, x3]
      by_cases hk1 : kw = 1
      · subst hk1
        rw [if_neg (by decide), if_pos rfl, wh_sum0 (fun c => if K 577 (82 + c) = -1 then 0 else hoursF (fun h => K 577 (10 + 12 * c + h)) 6) (tn 1) ?_ ?_, ob_some, wh_dead, ob_some]
        · refine congrArg (fun z => some (z, K)) (sm_congr fun c hc => ?_)
          try dsimp only
          rw [k4 _ (by omega) (by omega), dysI_out (by omega) (by omega) (by omega)]
          split
          · rfl
          · exact hoursF_congr fun h hh => k4 _ (by omega) (by omega)
        · dsimp only
          rw [if_neg (show ¬ Int32.ofNat 1 = 2 by decide)]
          split <;> rfl
        · intro c hc s
          try dsimp only
          rw [if_pos (by rw [K1, i_lt (by omega) (by omega)]; exact hc), if_pos (show Int32.ofNat 1 = 1 from rfl), m_hasSuit (I := K) (a := 577) (n := 91) rfl (by decide) (by decide) (by omega), ob_some]
          by_cases h : K 577 (82 + c) = -1
          · rw [if_pos h, if_pos rfl, if_pos h, ob_some, i_addr]
          · rw [if_neg h, if_neg (by decide), if_neg h, m_bareOf (I := K) (a := 577) (n := 91) rfl (by decide) (by decide) (by omega), ob_some, ob_some, i_addr]
        · intro s
          exact if_neg (by rw [K1]; exact Int32.lt_irrefl)
      · have hk1' : ¬ Int32.ofNat kw = 1 := fun h => hk1 ((i_eq (b := 1) (by omega) (by decide)).mp h)
        rw [if_neg hk1]
        by_cases hk0 : kw = 0
        · subst hk0
          rw [if_pos (show Int32.ofNat 0 = 0 from rfl), if_pos rfl, m_onBolts (I := K) (a := 577) (n := 91) rfl (by decide) (by decide) (by omega) K0, ob_some]
          exact congrArg (fun z => some (z, K)) (sm_congr fun b hb => k3 b (by omega))
        · have hk0' : ¬ Int32.ofNat kw = 0 := fun h => hk0 ((i_eq (b := 0) (by omega) (by decide)).mp h)
          have hk2 : kw = 2 := by omega
          subst hk2
          rw [if_neg hk0', if_neg hk0, wh_dead (s := 0), ob_some, wh_sum0 (fun b => if K 577 b = 0 then 1 else 0) (tn 0) ?_ ?_, ob_some]
          · refine congrArg (fun z => some (z, K)) (sm_congr fun b hb => ?_)
            try dsimp only
            rw [k3 b (by omega)]
          · intro c hc s
            try dsimp only
            rw [if_pos (by rw [K0, i_lt (by omega) (by omega)]; exact hc), if_pos (show Int32.ofNat 2 = 2 from rfl), Int32.zero_add, rd_577 (by omega), ob_some, o_ite, ob_some, i_addr]
          · intro s
            exact if_neg (by rw [K0]; exact Int32.lt_irrefl)
          · dsimp only
            rw [if_neg hk1']
            split <;> rfl
    · obtain ⟨z1, z2, z3, z4, z5, z6, z7, z8, z9, z10, z11⟩ := qs_sc h
      exact kI g k z5 z6 z7 z8 z11 z1 z2 z3 z4 z10
