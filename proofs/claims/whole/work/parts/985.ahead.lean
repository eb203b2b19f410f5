/-! days to come: ahead -/
theorem rcW (p : Int32) {lo hi : Nat} (h : hi < 2147483647) (hl : lo ≤ hi) : (∃ k : Nat, lo ≤ k ∧ k ≤ hi ∧ p = Int32.ofNat k) ∨ (p < Int32.ofNat lo ∨ Int32.ofNat hi < p) := by
  by_cases h1 : p < Int32.ofNat lo
  · exact Or.inr (Or.inl h1)
  · by_cases h2 : Int32.ofNat hi < p
    · exact Or.inr (Or.inr h2)
    · refine Or.inl ⟨p.toNatClampNeg, ?_⟩
      have h0 : (0 : Int32) ≤ p := by
        rw [Int32.le_iff_toInt_le]
        rw [Int32.lt_iff_toInt_lt, Int32.toInt_ofNat_of_lt (by omega)] at h1
        show (0 : Int) ≤ _
        omega
      have h3 := Int32.cast_toNatClampNeg p h0
      rw [Int32.lt_iff_toInt_lt, Int32.toInt_ofNat_of_lt (by omega)] at h1 h2
      exact ⟨by omega, by omega, (Int32.ofNat_toNatClampNeg p h0).symm⟩
section GUARDS2
variable {I : MJ}
theorem nWW_ok {k lo hi : Nat} (h1 : lo ≤ k) (h2 : k ≤ hi) (h3 : hi < 2147483647) : f_x_needWithin38 (Int32.ofNat k) (Int32.ofNat lo) (Int32.ofNat hi) I = some (.inr (), I) := by
  unfold f_x_needWithin38
  rw [if_neg (by rw [i_lt (by omega) (by omega)]; omega), if_neg (by rw [i_lt (by omega) (by omega)]; omega)]
theorem nWW_no {p lo hi : Int32} (h : p < lo ∨ hi < p) : f_x_needWithin38 p lo hi I = some (.inl 1, ab_up1 I 0 15 (I 0 15 + 1)) := by
  unfold f_x_needWithin38
  by_cases h1 : p < lo
  · rw [if_pos h1]; rfl
  · rw [if_neg h1, if_pos (h.resolve_left h1)]; rfl
theorem inW_ok {k lo hi : Nat} (h1 : lo ≤ k) (h2 : k ≤ hi) (h3 : hi < 2147483647) : f_m_in264 (Int32.ofNat k) (Int32.ofNat lo) (Int32.ofNat hi) I = some 1 := by
  unfold f_m_in264
  rw [if_neg (by rw [i_lt (by omega) (by omega)]; omega), if_neg (by rw [i_lt (by omega) (by omega)]; omega)]
  rfl
theorem inW_no {p lo hi : Int32} (h : p < lo ∨ hi < p) : f_m_in264 p lo hi I = some 0 := by
  unfold f_m_in264
  by_cases h1 : p < lo
  · rw [if_pos h1]; rfl
  · rw [if_neg h1, if_pos (h.resolve_left h1)]; rfl
theorem nWp_ok {k n : Nat} (h : k < n) (hn : n < 2147483648) : f_x_needWithin38 (Int32.ofNat k) 0 (Int32.ofNat n - 1) I = some (.inr (), I) := by
  unfold f_x_needWithin38
  rw [if_neg (by rw [i_lt0 (by omega)]; exact id), if_neg (by rw [pred_lt hn, i_lt (by omega) hn]; omega)]
theorem nWp_no {p : Int32} {n : Nat} (hn : n < 2147483648) (h : p < 0 ∨ ¬ p < Int32.ofNat n) : f_x_needWithin38 p 0 (Int32.ofNat n - 1) I = some (.inl 1, ab_up1 I 0 15 (I 0 15 + 1)) := by
  unfold f_x_needWithin38
  by_cases h1 : p < 0
  · rw [if_pos h1]; rfl
  · rw [if_neg h1, if_pos (by rw [pred_lt hn]; exact h.resolve_left h1)]; rfl
end GUARDS2
theorem qs_sc {g k : Nat} (h : qs g k = false) : g ≠ 26 ∧ g ≠ 27 ∧ g ≠ 18 ∧ g ≠ 28 ∧ g ≠ 493 ∧ g ≠ 494 ∧ g ≠ 600 ∧ g ≠ 577 ∧ g ≠ 599 ∧ ¬ (g = 47 ∧ k = 0) ∧ ¬ (g = 47 ∧ k = 55) := by
  refine ⟨?_, ?_, ?_, ?_, ?_, ?_, ?_, ?_, ?_, ?_, ?_⟩
  all_goals first
    | (rintro rfl; exact Bool.noConfusion (show true = false from h))
    | (rintro ⟨rfl, rfl⟩; exact Bool.noConfusion (show true = false from h))
theorem stE_cpy {I : MJ} {f r : Nat → Int32} (h : stE f r) (hf : ∀ k, k < 91 → I 16 k = f k) : stE (ab_cpy I 16 18 0 0 91 18) r := fun k hk => by
  rw [cpy_at, if_pos ⟨Nat.zero_le _, by omega⟩, show 0 + (k - 0) = k by omega, hf k hk]
  exact h k hk
section MDAYS
variable {M : MJ} {ln nc day days : Nat} {ht : Nat → Nat} {cd hw vv r : Nat → Int32}
theorem m_days (hp : lawP ln ht cd hw vv) (hl : lawM ln hw vv M) (e1 : M 51 1 = Int32.ofNat nc) (hn : nc ≤ 6) (hr : ∀ k, k < 91 → M 577 k = r k) (hd : r 89 = Int32.ofNat day) (h60 : day ≤ 60) (hds : days ≤ 60) : ∃ K : MJ, wh (β := MJ) (fun (s8 : Int32 × MJ) =>
  (if s8.1 < Int32.ofNat days then
  (Option.bind (f_m_dayEnds314 577 s8.2) fun w15 =>
  some (.inl ((s8.1 + (1 : Int32)), w15.2))
  )
  else
  some (.inr s8.2)
  )
  ) ((0 : Int32), M) = some K ∧ (∀ a k, a ≠ 493 → a ≠ 494 → a ≠ 600 → a ≠ 577 → K a k = M a k) ∧ ∀ k, k < 91 → K 577 k = dysI (lvV ln ht hw vv) nc r days k := by
  have p1 := hp.1
  refine wh_inv (fun d s => ∃ K : MJ, s = (Int32.ofNat d, K) ∧ (∀ a k, a ≠ 493 → a ≠ 494 → a ≠ 600 → a ≠ 577 → K a k = M a k) ∧ ∀ k, k < 91 → K 577 k = dysI (lvV ln ht hw vv) nc r d k) (fun K : MJ => (∀ a k, a ≠ 493 → a ≠ 494 → a ≠ 600 → a ≠ 577 → K a k = M a k) ∧ ∀ k, k < 91 → K 577 k = dysI (lvV ln ht hw vv) nc r days k) days ?_ ?_ ⟨M, rfl, fun _ _ _ _ _ _ => rfl, hr⟩
  · intro d hd2 s hs
    obtain ⟨K, rfl, j1, j2⟩ := hs
    have hdi := dysI_day (V := lvV ln ht hw vv) hn hd h60 d
    dsimp only
    rw [if_pos (by rw [i_lt (by omega) (by omega)]; exact hd2)]
    have h89 : K 577 89 = Int32.ofNat (min 60 (day + d)) := (j2 89 (by decide)).trans hdi
    by_cases h : day + d < 60
    · obtain ⟨⟨v, N⟩, k1, k2, k3, k4⟩ := m_dayEnds (I := K) (a := 577) (r := dysI (lvV ln ht hw vv) nc r d) (nc := nc) hp rfl (Or.inr rfl) (lawM_c p1 hl (j1 _ _ (by decide) (by decide) (by decide) (by decide)) (fun a k h1 h2 => j1 _ _ (by omega) (by omega) (by omega) (by omega))) ((j1 51 1 (by decide) (by decide) (by decide) (by decide)).trans e1) hn j2 hdi (by omega)
      dsimp only at k3 k4
      rw [k1, ob_some]
      refine ⟨_, rfl, N, Prod.ext i_addr rfl, fun a k h1 h2 h3 h4 => by rw [k3 a k h1 h2 h3 h4, j1 a k h1 h2 h3 h4], fun k hk => ?_⟩
      rw [k4 k hk]
      have h3 : dysI (lvV ln ht hw vv) nc r (d + 1) = dyS (lvV ln ht hw vv) (dysI (lvV ln ht hw vv) nc r d) nc := if_neg (by rw [hdi, show (60 : Int32) = Int32.ofNat 60 from rfl, i_eq (by omega) (by omega)]; omega)
      rw [h3]
    · rw [m_dayEnds_no rfl (by decide) (by rw [h89, show min 60 (day + d) = 60 by omega]), ob_some]
      refine ⟨_, rfl, K, Prod.ext i_addr rfl, j1, fun k hk => ?_⟩
      have h3 : dysI (lvV ln ht hw vv) nc r (d + 1) = dysI (lvV ln ht hw vv) nc r d := if_pos (by rw [hdi, show min 60 (day + d) = 60 by omega]; rfl)
      rw [h3, j2 k hk]
  · intro s hs
    obtain ⟨K, rfl, j1, j2⟩ := hs
    dsimp only
    rw [if_neg Int32.lt_irrefl]
    exact ⟨_, rfl, j1, j2⟩
end MDAYS
set_option maxHeartbeats 1000000 in
theorem op_ahead_ok : op_ahead rel := by
  intro p q w I hr
  have hr0 := hr
  obtain ⟨tn, bl, st, wa, od, tb, pk, ln, ht, nl, bh, bs, nk, ni, wt, u, hS, hD, hP, hL, hB, hK, hT, hC⟩ := hr
  obtain ⟨s1, s2, s3, s4, s5, s6, s7, s8, s9, s10, s11, s12, s13, s14, s15, s16, s17⟩ := hS
  obtain ⟨d1, d2⟩ := hD
  have hp := lawP_of hL
  obtain ⟨day, hday, hd, hd3, hd4, hd5⟩ := d2
  have hlx : lawX ln (I 24) I := ⟨hL.2.1, fun _ _ => rfl⟩
  have hlm : lawM ln (fun k => I (146 + k) 0) (fun k => I (146 + k) 1) I := ⟨hL.2.2.1, fun _ _ => ⟨rfl, rfl⟩⟩
  have t6 : I 3 6 = Int32.ofNat (tn 1) := s3 1 (by decide)
  have t7 : I 3 7 = Int32.ofNat (tn 2) := s3 2 (by decide)
  have t9 : I 3 9 = Int32.ofNat (tn 4) := s3 4 (by decide)
  have u1 : I 51 1 = Int32.ofNat (tn 1) := s2 1 (by decide)
  have u2 : I 51 2 = Int32.ofNat (tn 2) := s2 2 (by decide)
  have u4 : I 51 4 = Int32.ofNat (tn 4) := s2 4 (by decide)
  have hb : ∀ w, w < tn 2 → wa w 0 < 6 ∧ wa w 1 ≤ wa w 2 ∧ wa w 2 ≤ 11 := fun w hw => ⟨by have := s12 w hw; omega, (s12 w hw).2.1, (s12 w hw).2.2.1⟩
  rcases range_cases p (n := tn 1) (by omega) with ⟨c, hc, rfl⟩ | hp0
  · rcases rcW q (lo := 0) (hi := 60) (by decide) (by decide) with ⟨days, -, hds, rfl⟩ | hq
    · rcases rcW w (lo := 0) (hi := 1) (by decide) (by decide) with ⟨kw, -, hw, rfl⟩ | hw
      · have hc6 : c < 6 := by omega
        -- the class' run
        have hx : ∃ v J, f_x_ahead248 (Int32.ofNat c) (Int32.ofNat days) (Int32.ofNat kw) I = some (.inr v, J) ∧ (∀ a k, a ≠ 26 → a ≠ 27 → a ≠ 18 → J a k = I a k) ∧ v = if I 576 (82 + c) = -1 then 0 else if kw = 0 then hoursF (fun h => dysI (lvV ln ht (fun k => I (146 + k) 0) (fun k => I (146 + k) 1)) (tn 1) (I 576) days (10 + 12 * c + h)) 6 else fitF (tn 2) (tn 4) wa c (fun h => dysI (lvV ln ht (fun k => I (146 + k) 0) (fun k => I (146 + k) 1)) (tn 1) (I 576) days (10 + 12 * c + h)) := by
          unfold f_x_ahead248
          rw [t6, nE_ok hc (by omega), tb_inr, show f_x_needWithin38 (Int32.ofNat days) 0 60 I = _ from nWW_ok (lo := 0) (hi := 60) (Nat.zero_le _) hds (by decide), tb_inr, show f_x_needWithin38 (Int32.ofNat kw) 0 1 I = _ from nWW_ok (lo := 0) (hi := 1) (Nat.zero_le _) hw (by decide), tb_inr, x_hasSuit (t := 15) rfl (by decide) hc6, ob_some, stE_cut d1 hc6]
          by_cases h0 : I 576 (82 + c) = -1
          · rw [if_pos h0, if_pos rfl]
            exact ⟨_, _, rfl, fun _ _ _ _ _ => rfl, (if_pos h0).symm⟩
          · rw [if_neg h0, if_neg (by decide), st_copy, ob_some]
            obtain ⟨J, j1, j2, j3⟩ := x_passDays (I := ab_cpy I 16 18 0 0 91) (r := I 576) (nc := tn 1) (days := days) hp (lawX_c hlx (fun k => cpy_ne (by decide)) (fun k => cpy_ne (by decide))) (by rw [cpy_ne (by decide)]; exact t6) (by omega) (stE_cpy d1 (fun _ _ => rfl)) hd hday hds
            have jI : ∀ a k, a ≠ 26 → a ≠ 27 → a ≠ 18 → J a k = I a k := fun a k h1 h2 h3 => by rw [j2 a k h1 h2 h3, cpy_ne h3]
            have cut : J 18 (3 + c) = I 576 (82 + c) := by rw [stE_cut j3 hc6, dysI_out (by omega) (by omega) (by omega)]
            have suit : ∀ h, h < 12 → J 18 (19 + 12 * c + h) = dysI (lvV ln ht (fun k => I (146 + k) 0) (fun k => I (146 + k) 1)) (tn 1) (I 576) days (10 + 12 * c + h) := fun h hh => by
              have := stE_suit j3 (j := 12 * c + h) (by omega)
              rw [Nat.add_assoc 19, Nat.add_assoc 10]
              exact this
            have hs18 : f_sta_hasSuit108 17 (Int32.ofNat c) J = some 1 := by
              rw [x_hasSuit (t := 17) rfl (by decide) hc6, show J (17 + 1) (3 + c) = J 18 (3 + c) from rfl, cut, if_neg h0]
            rw [j1, ob_some]
            by_cases hk : kw = 0
            · subst hk
              rw [if_pos (show Int32.ofNat 0 = 0 from rfl)]
              unfold f_sta_bareHours154
              rw [hs18, ob_some, if_neg (show ¬ (1 : Int32) = 0 by decide), x_suitAt, ob_some, x_hoursOf (a := 17 + 1) (n := 91) rfl (by decide) (by decide) (by omega), ob_some, ob_some, ob_some, ob_some]
              refine ⟨_, _, rfl, jI, ?_⟩
              rw [if_neg h0, if_pos rfl]
              exact hoursF_congr suit
            · have hk1 : kw = 1 := by omega
              subst hk1
              rw [if_neg (show ¬ Int32.ofNat 1 = 0 by decide)]
              unfold f_x_fitOfSuit176
              rw [hs18, ob_some, if_neg (show ¬ (1 : Int32) = 0 by decide), x_suitAt, ob_some, x_fitOf (a := 17 + 1) (n := 91) (nw := tn 2) (se := tn 4) (wa := wa) (by omega) (by rw [jI 3 7 (by decide) (by decide) (by decide)]; exact t7) (by rw [jI 3 9 (by decide) (by decide) (by decide)]; exact t9) hc6 hb (fun w j hw hj => by rw [jI _ _ (by decide) (by decide) (by decide)]; exact s14 w j hw hj) rfl (by decide) (by decide) (by omega), ob_some, ob_some, ob_some, ob_some]
              refine ⟨_, _, rfl, jI, ?_⟩
              rw [if_neg h0, if_neg (by decide)]
              exact fitF_congr (fun w hw => (hb w hw).2.2) suit
        obtain ⟨v, J, x1, x2, x3⟩ := hx
        have hM : ∀ a k, a ≠ 26 → a ≠ 27 → a ≠ 18 → a ≠ 47 → ab_up1 J 47 0 0 a k = I a k := fun a k h1 h2 h3 h4 => by rw [up_ne (by omega), x2 a k h1 h2 h3]
        have hM' : ∀ a k, a ≠ 26 → a ≠ 27 → a ≠ 18 → k ≠ 0 → ab_up1 J 47 0 0 a k = I a k := fun a k h1 h2 h3 h4 => by rw [up_ne (by omega), x2 a k h1 h2 h3]
        have hm : ∃ K, f_m_ahead375 (Int32.ofNat c) (Int32.ofNat days) (Int32.ofNat kw) J = some (v, K) ∧ K 47 0 = 0 ∧ (∀ a k, a ≠ 493 → a ≠ 494 → a ≠ 600 → a ≠ 577 → K a k = ab_up1 J 47 0 0 a k) := by
          unfold f_m_ahead375
          rw [mC_ok (I := ab_up1 J 47 0 0) (by rw [hM 51 1 (by decide) (by decide) (by decide) (by decide)]; exact u1) hc (by omega), ob_some, if_neg (by decide), ob_some, bad_0 up_eq, ob_some, if_pos rfl]
          dsimp only
          rw [show f_m_in264 (Int32.ofNat days) 0 60 _ = _ from inW_ok (lo := 0) (hi := 60) (Nat.zero_le _) hds (by decide), ob_some, if_neg (by decide), show f_m_in264 (Int32.ofNat kw) 0 1 _ = _ from inW_ok (lo := 0) (hi := 1) (Nat.zero_le _) hw (by decide), ob_some, if_neg (by decide), ob_some, bad_0 up_eq, ob_some, if_pos rfl]
          dsimp only
          rw [copies_ok (la := 91) (lb := 91) rfl rfl (by decide) (by decide) (by decide) (by decide) (by decide), ob_some]
          have p1 := hp.1
          have c2 : ∀ k, k < 91 → ab_cpy (ab_up1 J 47 0 0) 576 577 0 0 91 577 k = I 576 k := fun k hk => by rw [cpy_at, if_pos ⟨Nat.zero_le _, by omega⟩, show 0 + (k - 0) = k by omega, hM _ _ (by decide) (by decide) (by decide) (by decide)]
          obtain ⟨K, k1, k2, k3⟩ := m_days (M := ab_cpy (ab_up1 J 47 0 0) 576 577 0 0 91) (r := I 576) (nc := tn 1) (days := days) hp (lawM_c p1 hlm (by rw [cpy_ne (by decide), hM' 47 25 (by decide) (by decide) (by decide) (by decide)]) (fun a k h1 h2 => by rw [cpy_ne (by omega), hM _ _ (by omega) (by omega) (by omega) (by omega)])) (by rw [cpy_ne (by decide), hM _ _ (by decide) (by decide) (by decide) (by decide)]; exact u1) (by omega) c2 hd hday hds
          have kM : ∀ a k, a ≠ 493 → a ≠ 494 → a ≠ 600 → a ≠ 577 → K a k = ab_up1 J 47 0 0 a k := fun a k h1 h2 h3 h4 => by rw [k2 a k h1 h2 h3 h4, cpy_ne h4]
          have cut : K 577 (82 + c) = I 576 (82 + c) := by rw [k3 _ (by omega), dysI_out (by omega) (by omega) (by omega)]
          rw [k1, ob_some, m_hasSuit (I := K) (a := 577) (n := 91) rfl (by decide) (by decide) hc6, cut, ob_some]
          refine ⟨K, ?_, by rw [kM _ _ (by decide) (by decide) (by decide) (by decide), up_eq], kM⟩
          rw [x3]
          by_cases h0 : I 576 (82 + c) = -1
          · rw [if_pos h0, if_pos rfl, if_pos h0]
          · rw [if_neg h0, if_neg (by decide), if_neg h0]
            by_cases hk : kw = 0
            · subst hk
              rw [if_pos (show Int32.ofNat 0 = 0 from rfl), m_bareOf (I := K) (a := 577) (n := 91) rfl (by decide) (by decide) (by omega), ob_some, ob_some, if_pos rfl]
              exact congrArg (fun z => some (z, K)) (hoursF_congr fun h hh => k3 _ (by omega))
            · have hk1 : kw = 1 := by omega
              subst hk1
              rw [if_neg (show ¬ Int32.ofNat 1 = 0 by decide), m_suitOf, ob_some, m_fitOf (I := K) (a := 577) (n := 91) (nw := tn 2) (se := tn 4) (wa := wa) (by omega) (by rw [kM 51 2 (by decide) (by decide) (by decide) (by decide), hM _ _ (by decide) (by decide) (by decide) (by decide)]; exact u2) (by rw [kM 51 4 (by decide) (by decide) (by decide) (by decide), hM _ _ (by decide) (by decide) (by decide) (by decide)]; exact u4) hc6 hb (fun w j hw hj => by rw [kM _ _ (by omega) (by omega) (by omega) (by omega), hM _ _ (by omega) (by omega) (by omega) (by omega)]; exact s13 w j hw hj) rfl (by decide) (by decide) (by omega), ob_some, ob_some, if_neg (by decide)]
              exact congrArg (fun z => some (z, K)) (fitF_congr (fun w hw => (hb w hw).2.2) fun h hh => k3 _ (by omega))
        obtain ⟨K, m1, m2, m3⟩ := hm
        refine qok (v := v) (I1 := J) (I2 := K) hr0 x1 m1 (fun g k h => ?_) m2
        obtain ⟨z1, z2, z3, z4, z5, z6, z7, z8, z9, z10, z11⟩ := qs_sc h
        rw [m3 g k z5 z6 z7 z8, up_ne z10, x2 g k z1 z2 z3]
      · refine qref (E := 1) (w := 2) (by decide) hr0 ?_ ?_ (Or.inr ⟨rfl, rfl⟩)
        · unfold f_x_ahead248
          rw [t6, nE_ok hc (by omega), tb_inr, show f_x_needWithin38 (Int32.ofNat days) 0 60 I = _ from nWW_ok (lo := 0) (hi := 60) (Nat.zero_le _) hds (by decide), tb_inr, show f_x_needWithin38 w 0 1 _ = _ from nWW_no hw]
          rfl
        · unfold f_m_ahead375
          rw [mC_ok (I := ab_up1 (ab_up1 I 0 (14 + 1) (I 0 (14 + 1) + 1)) 47 0 0) u1 hc (by omega), ob_some, if_neg (by decide), ob_some, bad_0 up_eq, ob_some, if_pos rfl]
          dsimp only
          rw [show f_m_in264 (Int32.ofNat days) 0 60 _ = _ from inW_ok (lo := 0) (hi := 60) (Nat.zero_le _) hds (by decide), ob_some, if_neg (by decide), show f_m_in264 w 0 1 _ = _ from inW_no hw, ob_some, if_pos rfl, ob_some, show f_m_bad268 1 2 1 _ = _ from bad_ref (E := 1) (by decide) (by decide)]
          rfl
    · refine qref (E := 1) (w := 2) (by decide) hr0 ?_ ?_ (Or.inr ⟨rfl, rfl⟩)
      · unfold f_x_ahead248
        rw [t6, nE_ok hc (by omega), tb_inr, show f_x_needWithin38 q 0 60 _ = _ from nWW_no hq]
        rfl
      · unfold f_m_ahead375
        rw [mC_ok (I := ab_up1 (ab_up1 I 0 (14 + 1) (I 0 (14 + 1) + 1)) 47 0 0) u1 hc (by omega), ob_some, if_neg (by decide), ob_some, bad_0 up_eq, ob_some, if_pos rfl]
        dsimp only
        rw [show f_m_in264 q 0 60 _ = _ from inW_no hq, ob_some, if_pos rfl, ob_some, show f_m_bad268 1 2 1 _ = _ from bad_ref (E := 1) (by decide) (by decide)]
        rfl
  · refine qref (E := 0) (w := 1) (by decide) hr0 ?_ ?_ (Or.inl ⟨rfl, rfl⟩)
    · unfold f_x_ahead248
      rw [t6, nE_no hp0]
      rfl
    · unfold f_m_ahead375
      rw [mC_no (I := ab_up1 (ab_up1 I 0 (14 + 0) (I 0 (14 + 0) + 1)) 47 0 0) u1 (by omega) hp0, ob_some, if_pos rfl, ob_some, show f_m_bad268 1 1 0 _ = _ from bad_ref (E := 0) (by decide) (by decide)]
      rfl
