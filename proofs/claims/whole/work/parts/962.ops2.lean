/-! calls that only read, second -/
set_option maxHeartbeats 1000000 in
theorem op_wears_ok : op_wears rel := by
  intro p q I hr
  have hr0 := hr
  obtain ⟨tn, bl, st, wa, od, tb, pk, ln, ht, nl, bh, bs, nk, ni, wt, u, hS, hD, hP, hL, hB, hK, hT, hC⟩ := hr
  obtain ⟨s1, s2, s3, s4, s5, s6, s7, s8, s9, s10, s11, s12, s13, s14, s15, s16, s17⟩ := hS
  obtain ⟨d1, d2⟩ := hD
  obtain ⟨day, q1, q2, q3, q4, q5⟩ := d2
  have t5 : I 3 5 = Int32.ofNat (tn 0) := s3 0 (by decide)
  have t6 : I 3 6 = Int32.ofNat (tn 1) := s3 1 (by decide)
  have t7 : I 3 7 = Int32.ofNat (tn 2) := s3 2 (by decide)
  have t8 : I 3 8 = Int32.ofNat (tn 3) := s3 3 (by decide)
  have t9 : I 3 9 = Int32.ofNat (tn 4) := s3 4 (by decide)
  have u0 : I 51 0 = Int32.ofNat (tn 0) := s2 0 (by decide)
  have u1 : I 51 1 = Int32.ofNat (tn 1) := s2 1 (by decide)
  have u2 : I 51 2 = Int32.ofNat (tn 2) := s2 2 (by decide)
  have u3 : I 51 3 = Int32.ofNat (tn 3) := s2 3 (by decide)
  have u4 : I 51 4 = Int32.ofNat (tn 4) := s2 4 (by decide)
  have J13 : ∀ w j, w < tn 2 → j < 5 → (ab_up1 I 47 0 0) (94 + w) j = Int32.ofNat (wa w j) := fun w j hw hj => (up_ne (by omega)).trans (s13 w j hw hj)
  have J16 : ∀ o j, o < tn 3 → j < 5 → (ab_up1 I 47 0 0) (120 + o) j = Int32.ofNat (od o j) := fun w j hw hj => (up_ne (by omega)).trans (s16 w j hw hj)
  have J5 : ∀ k, (ab_up1 I 47 0 0) 576 k = I 576 k := fun k => up_ne (by omega)
  rcases range_cases p (n := tn 1) (by omega) with ⟨kp, hp, rfl⟩ | hp
  · skip
    rcases range_cases q (n := 12) (by decide) with ⟨kq, hq, rfl⟩ | hq
    · skip
      have hc6 : kp < 6 := by omega
      have hj : 12 * kp + kq < 72 := by omega
      have ew : I 16 (19 + 12 * kp + kq) = I 576 (10 + 12 * kp + kq) := by
        have := stE_suit d1 hj
        rw [show 19 + 12 * kp + kq = 19 + (12 * kp + kq) by omega, show 10 + 12 * kp + kq = 10 + (12 * kp + kq) by omega]
        exact this
      refine qok0 hr0 (v := if I 576 (82 + kp) = -1 then -1 else if I 576 (10 + 12 * kp + kq) = 6 then -1 else I 576 (10 + 12 * kp + kq)) ?_ ?_
      · unfold f_x_wears162; rw [t6, nE_ok hp (by omega), tb_inr, show f_x_needWithin38 (Int32.ofNat kq) 0 11 I = _ from nW_ok (n := 11) hq (by decide), tb_inr]; rw [x_hasSuit (t := 15) rfl (by decide) hc6, ob_some, stE_cut d1 hc6]
        by_cases hs : I 576 (82 + kp) = -1
        · rw [if_pos hs, if_pos hs]; rfl
        · rw [if_neg hs, if_neg hs, if_neg (by decide)]
          simp (disch := omega) only [i_add, i_addr, i_addl, i_mul, i_mulr, i_mull, i_lt, i_ltr, i_ltl, i_eq, i_eqr, i_eql, i_clamp, i_neg1, i_lt0, n_lt, n_nlt, n_eq, n_ne, ob_some, tb_inr, tb_inl, o_ite, nar_0, nar_1, nar_ite, if_true, if_false, Nat.reduceAdd, Nat.reduceMul, Nat.reduceSub, f_sta_wornAt116, f_sta_suitAt114, at_16, ew]
      · unfold f_m_wears335; rw [mC_ok (I := ab_up1 I 47 0 0) u1 hp (by omega), ob_some, if_neg (by decide), ob_some, bad_0 up_eq, ob_some, if_pos rfl, mH_ok hq, ob_some, if_neg (by decide), ob_some, bad_0 up_eq, ob_some, if_pos rfl]; try dsimp only; rw [m_hasSuit (I := ab_up1 I 47 0 0) (a := 576) (n := 91) rfl (by decide) (by decide) hc6, ob_some, J5]
        by_cases hs : I 576 (82 + kp) = -1
        · rw [if_pos hs, if_pos hs]; rfl
        · rw [if_neg hs, if_neg hs, if_neg (by decide)]
          simp (disch := omega) only [i_add, i_addr, i_addl, i_mul, i_mulr, i_mull, i_lt, i_ltr, i_ltl, i_eq, i_eqr, i_eql, i_clamp, i_neg1, i_lt0, n_lt, n_nlt, n_eq, n_ne, ob_some, tb_inr, tb_inl, o_ite, nar_0, nar_1, nar_ite, if_true, if_false, Nat.reduceAdd, Nat.reduceMul, Nat.reduceSub, f_m_suitOf310, rd_576, J5]
    · refine qref (E := 1) (w := 2) (by decide) hr0 ?_ ?_ (Or.inr ⟨rfl, rfl⟩)
      · unfold f_x_wears162
        rw [t6, nE_ok hp (by omega), tb_inr, show f_x_needWithin38 q 0 11 I = _ from nW_no (n := 11) (by decide) hq]
        rfl
      · unfold f_m_wears335
        rw [mC_ok (I := ab_up1 (ab_up1 I 0 (14 + 1) (I 0 (14 + 1) + 1)) 47 0 0) u1 hp (by omega), ob_some, if_neg (by decide), ob_some, bad_0 up_eq, ob_some, if_pos rfl, mH_no hq, ob_some, if_pos rfl, ob_some, show f_m_bad268 1 2 1 _ = _ from bad_ref (E := 1) (by decide) (by decide)]
        rfl
  · refine qref (E := 0) (w := 1) (by decide) hr0 ?_ ?_ (Or.inl ⟨rfl, rfl⟩)
    · unfold f_x_wears162
      rw [t6, nE_no hp]
      rfl
    · unfold f_m_wears335
      rw [mC_no (I := ab_up1 (ab_up1 I 0 (14 + 0) (I 0 (14 + 0) + 1)) 47 0 0) u1 (by omega) hp, ob_some, if_pos rfl, ob_some, show f_m_bad268 1 1 0 _ = _ from bad_ref (E := 0) (by decide) (by decide)]
      rfl

set_option maxHeartbeats 1000000 in
theorem op_sky_ok : op_sky rel := by
  intro p q I hr
  have hr0 := hr
  obtain ⟨tn, bl, st, wa, od, tb, pk, ln, ht, nl, bh, bs, nk, ni, wt, u, hS, hD, hP, hL, hB, hK, hT, hC⟩ := hr
  obtain ⟨s1, s2, s3, s4, s5, s6, s7, s8, s9, s10, s11, s12, s13, s14, s15, s16, s17⟩ := hS
  obtain ⟨d1, d2⟩ := hD
  obtain ⟨day, q1, q2, q3, q4, q5⟩ := d2
  have t5 : I 3 5 = Int32.ofNat (tn 0) := s3 0 (by decide)
  have t6 : I 3 6 = Int32.ofNat (tn 1) := s3 1 (by decide)
  have t7 : I 3 7 = Int32.ofNat (tn 2) := s3 2 (by decide)
  have t8 : I 3 8 = Int32.ofNat (tn 3) := s3 3 (by decide)
  have t9 : I 3 9 = Int32.ofNat (tn 4) := s3 4 (by decide)
  have u0 : I 51 0 = Int32.ofNat (tn 0) := s2 0 (by decide)
  have u1 : I 51 1 = Int32.ofNat (tn 1) := s2 1 (by decide)
  have u2 : I 51 2 = Int32.ofNat (tn 2) := s2 2 (by decide)
  have u3 : I 51 3 = Int32.ofNat (tn 3) := s2 3 (by decide)
  have u4 : I 51 4 = Int32.ofNat (tn 4) := s2 4 (by decide)
  have J13 : ∀ w j, w < tn 2 → j < 5 → (ab_up1 I 47 0 0) (94 + w) j = Int32.ofNat (wa w j) := fun w j hw hj => (up_ne (by omega)).trans (s13 w j hw hj)
  have J16 : ∀ o j, o < tn 3 → j < 5 → (ab_up1 I 47 0 0) (120 + o) j = Int32.ofNat (od o j) := fun w j hw hj => (up_ne (by omega)).trans (s16 w j hw hj)
  have J5 : ∀ k, (ab_up1 I 47 0 0) 576 k = I 576 k := fun k => up_ne (by omega)
  rcases range_cases p (n := 6) (by decide) with ⟨kp, hp, rfl⟩ | hp
  · skip
    rcases range_cases q (n := 12) (by decide) with ⟨kq, hq, rfl⟩ | hq
    · skip
      obtain ⟨g1, g2, g3, g4, g5, g6⟩ := hP
      refine qok0 hr0 (v := if tb.testBit kp = true then Int32.ofNat (pk kp kq) else -1) ?_ ?_
      · unfold f_x_sky164; rw [nP_ok hp, tb_inr, show f_x_needWithin38 (Int32.ofNat kq) 0 11 I = _ from nW_ok (n := 11) hq (by decide), tb_inr]; rw [x_isTold g2 g1 hp, ob_some]
        by_cases hs : tb.testBit kp = true
        · rw [if_pos hs, if_pos hs, if_neg (by decide)]
          simp (disch := omega) only [i_add, i_addr, i_addl, i_mul, i_mulr, i_mull, i_lt, i_ltr, i_ltl, i_eq, i_eqr, i_eql, i_clamp, i_neg1, i_lt0, n_lt, n_nlt, n_eq, n_ne, ob_some, tb_inr, tb_inl, o_ite, nar_0, nar_1, nar_ite, if_true, if_false, Nat.reduceAdd, Nat.reduceMul, Nat.reduceSub, f_pat_kindAt110, at_20]
          rw [g6 kp kq hp hq]
        · rw [if_neg hs, if_neg hs, if_pos rfl]; rfl
      · unfold f_m_sky337; rw [mP_ok hp, ob_some, if_neg (by decide), ob_some, bad_0 up_eq, ob_some, if_pos rfl, mH_ok hq, ob_some, if_neg (by decide), ob_some, bad_0 up_eq, ob_some, if_pos rfl]; try dsimp only; rw [rdb_135 hp, ob_some, show ab_up1 I 47 0 0 135 kp = _ from g3 kp hp]
        by_cases hs : tb.testBit kp = true
        · rw [if_pos hs, if_pos hs, if_neg (by decide)]
          have e : ab_up1 I 47 0 0 (129 + kp) kq = Int32.ofNat (pk kp kq) := (up_ne (by omega)).trans (g5 kp kq hp hq)
          simp (disch := omega) only [i_add, i_addr, i_addl, i_mul, i_mulr, i_mull, i_lt, i_ltr, i_ltl, i_eq, i_eqr, i_eql, i_clamp, i_neg1, i_lt0, n_lt, n_nlt, n_eq, n_ne, ob_some, tb_inr, tb_inl, o_ite, nar_0, nar_1, nar_ite, if_true, if_false, Nat.reduceAdd, Nat.reduceMul, Nat.reduceSub, rdp_128, rdr_128, e]
        · rw [if_neg hs, if_neg hs, if_pos rfl]; rfl
    · refine qref (E := 1) (w := 2) (by decide) hr0 ?_ ?_ (Or.inr ⟨rfl, rfl⟩)
      · unfold f_x_sky164
        rw [nP_ok hp, tb_inr, show f_x_needWithin38 q 0 11 I = _ from nW_no (n := 11) (by decide) hq]
        rfl
      · unfold f_m_sky337
        rw [mP_ok hp, ob_some, if_neg (by decide), ob_some, bad_0 up_eq, ob_some, if_pos rfl, mH_no hq, ob_some, if_pos rfl, ob_some, show f_m_bad268 1 2 1 _ = _ from bad_ref (E := 1) (by decide) (by decide)]
        rfl
  · refine qref (E := 0) (w := 1) (by decide) hr0 ?_ ?_ (Or.inl ⟨rfl, rfl⟩)
    · unfold f_x_sky164
      rw [nP_no hp]
      rfl
    · unfold f_m_sky337
      rw [mP_no hp, ob_some, if_pos rfl, ob_some, show f_m_bad268 1 1 0 _ = _ from bad_ref (E := 0) (by decide) (by decide)]
      rfl

set_option maxHeartbeats 1000000 in
theorem op_client_ok : op_client rel := by
  intro p q I hr
  have hr0 := hr
  obtain ⟨tn, bl, st, wa, od, tb, pk, ln, ht, nl, bh, bs, nk, ni, wt, u, hS, hD, hP, hL, hB, hK, hT, hC⟩ := hr
  obtain ⟨s1, s2, s3, s4, s5, s6, s7, s8, s9, s10, s11, s12, s13, s14, s15, s16, s17⟩ := hS
  obtain ⟨d1, d2⟩ := hD
  obtain ⟨day, q1, q2, q3, q4, q5⟩ := d2
  have t5 : I 3 5 = Int32.ofNat (tn 0) := s3 0 (by decide)
  have t6 : I 3 6 = Int32.ofNat (tn 1) := s3 1 (by decide)
  have t7 : I 3 7 = Int32.ofNat (tn 2) := s3 2 (by decide)
  have t8 : I 3 8 = Int32.ofNat (tn 3) := s3 3 (by decide)
  have t9 : I 3 9 = Int32.ofNat (tn 4) := s3 4 (by decide)
  have u0 : I 51 0 = Int32.ofNat (tn 0) := s2 0 (by decide)
  have u1 : I 51 1 = Int32.ofNat (tn 1) := s2 1 (by decide)
  have u2 : I 51 2 = Int32.ofNat (tn 2) := s2 2 (by decide)
  have u3 : I 51 3 = Int32.ofNat (tn 3) := s2 3 (by decide)
  have u4 : I 51 4 = Int32.ofNat (tn 4) := s2 4 (by decide)
  have J13 : ∀ w j, w < tn 2 → j < 5 → (ab_up1 I 47 0 0) (94 + w) j = Int32.ofNat (wa w j) := fun w j hw hj => (up_ne (by omega)).trans (s13 w j hw hj)
  have J16 : ∀ o j, o < tn 3 → j < 5 → (ab_up1 I 47 0 0) (120 + o) j = Int32.ofNat (od o j) := fun w j hw hj => (up_ne (by omega)).trans (s16 w j hw hj)
  have J5 : ∀ k, (ab_up1 I 47 0 0) 576 k = I 576 k := fun k => up_ne (by omega)
  rcases range_cases p (n := tn 1) (by omega) with ⟨kp, hp, rfl⟩ | hp
  · skip
    rcases range_cases q (n := 7) (by decide) with ⟨kq, hq, rfl⟩ | hq
    · skip
      have hc6 : kp < 6 := by omega
      have suit : I 16 (3 + kp) = I 576 (82 + kp) := stE_cut d1 hc6
      have hx : f_sta_hasSuit108 15 (Int32.ofNat kp) I = _ := x_hasSuit (t := 15) rfl (by decide) hc6
      have hm : f_m_hasSuit305 576 (Int32.ofNat kp) (ab_up1 I 47 0 0) = _ := m_hasSuit (I := ab_up1 I 47 0 0) (a := 576) (n := 91) rfl (by decide) (by decide) hc6
      have cells : ∀ h, h < 12 → I 16 (19 + 12 * kp + h) = (ab_up1 I 47 0 0) 576 (10 + 12 * kp + h) := by
        intro h hh
        have := stE_suit d1 (j := 12 * kp + h) (by omega)
        rw [J5, show 19 + 12 * kp + h = 19 + (12 * kp + h) by omega, show 10 + 12 * kp + h = 10 + (12 * kp + h) by omega]
        exact this
      have sx : f_sta_suitAt114 15 (Int32.ofNat kp) I = some (Int32.ofNat (19 + 12 * kp)) := by
        unfold f_sta_suitAt114
        simp (disch := omega) only [i_add, i_addr, i_addl, i_mul, i_mulr, i_mull, i_lt, i_ltr, i_ltl, i_eq, i_eqr, i_eql, i_clamp, i_neg1, i_lt0, n_lt, n_nlt, n_eq, n_ne, ob_some, tb_inr, tb_inl, o_ite, nar_0, nar_1, nar_ite, if_true, if_false, Nat.reduceAdd, Nat.reduceMul, Nat.reduceSub]
      have smm : f_m_suitOf310 (Int32.ofNat kp) (ab_up1 I 47 0 0) = some (Int32.ofNat (10 + 12 * kp)) := by
        unfold f_m_suitOf310
        simp (disch := omega) only [i_add, i_addr, i_addl, i_mul, i_mulr, i_mull, i_lt, i_ltr, i_ltl, i_eq, i_eqr, i_eql, i_clamp, i_neg1, i_lt0, n_lt, n_nlt, n_eq, n_ne, ob_some, tb_inr, tb_inl, o_ite, nar_0, nar_1, nar_ite, if_true, if_false, Nat.reduceAdd, Nat.reduceMul, Nat.reduceSub]
      match kq, hq with
      | 0, hq =>
        refine qok0 hr0 (v := I 6 kp) ?_ ?_
        · unfold f_x_client149; rw [t6, nE_ok hp (by omega), tb_inr, show f_x_needWithin38 (Int32.ofNat 0) 0 6 I = _ from nW_ok (n := 6) hq (by decide), tb_inr]
          show Option.bind (Option.bind (f_x_at16 6 (Int32.ofNat kp) I) _) _ = _
          rw [at_6 hc6]
          rfl
        · unfold f_m_client327; rw [mC_ok (I := ab_up1 I 47 0 0) u1 hp (by omega), ob_some, if_neg (by decide), ob_some, bad_0 up_eq, ob_some, if_pos rfl, show f_m_in264 (Int32.ofNat 0) 0 6 _ = _ from in_ok (n := 6) hq (by decide), ob_some, if_neg (by decide), ob_some, bad_0 up_eq, ob_some, if_pos rfl]
          show Option.bind (rd (ab_up1 I 47 0 0) 53 (Int32.ofNat kp)) _ = _
          rw [rd_53 hc6, s11 kp hp, ← s10 kp hp]
          rfl
      | 6, hq =>
        refine qok0 hr0 (v := bo (fun w => if Int32.ofNat (wa w 0) = Int32.ofNat kp then 1 <<< (Int32.ofNat w &&& 31) else 0) (tn 2)) ?_ ?_
        · unfold f_x_client149; rw [t6, nE_ok hp (by omega), tb_inr, show f_x_needWithin38 (Int32.ofNat 6) 0 6 I = _ from nW_ok (n := 6) hq (by decide), tb_inr]
          show Option.bind (f_sho_wantsOf151 (Int32.ofNat kp) I) _ = _
          rw [x_wantsOf (by omega) t7 s14]
          rfl
        · unfold f_m_client327; rw [mC_ok (I := ab_up1 I 47 0 0) u1 hp (by omega), ob_some, if_neg (by decide), ob_some, bad_0 up_eq, ob_some, if_pos rfl, show f_m_in264 (Int32.ofNat 6) 0 6 _ = _ from in_ok (n := 6) hq (by decide), ob_some, if_neg (by decide), ob_some, bad_0 up_eq, ob_some, if_pos rfl]
          show Option.bind (f_m_wantsOf329 (Int32.ofNat kp) (ab_up1 I 47 0 0)) _ = _
          rw [m_wantsOf (I := ab_up1 I 47 0 0) (by omega) u2 J13]
          rfl
      | 1, hq =>
        refine qok0 hr0 (v := if I 576 (82 + kp) = -1 then 0 else 1) ?_ ?_
        · unfold f_x_client149; rw [t6, nE_ok hp (by omega), tb_inr, show f_x_needWithin38 (Int32.ofNat 1) 0 6 I = _ from nW_ok (n := 6) hq (by decide), tb_inr]
          show Option.bind (f_sta_hasSuit108 15 (Int32.ofNat kp) I) _ = _
          rw [hx, ob_some, suit]
          by_cases hs : I 576 (82 + kp) = -1
          · rw [if_pos hs]; rfl
          · rw [if_neg hs]; rfl
        · unfold f_m_client327; rw [mC_ok (I := ab_up1 I 47 0 0) u1 hp (by omega), ob_some, if_neg (by decide), ob_some, bad_0 up_eq, ob_some, if_pos rfl, show f_m_in264 (Int32.ofNat 1) 0 6 _ = _ from in_ok (n := 6) hq (by decide), ob_some, if_neg (by decide), ob_some, bad_0 up_eq, ob_some, if_pos rfl]
          show Option.bind (f_m_hasSuit305 576 (Int32.ofNat kp) (ab_up1 I 47 0 0)) _ = _
          rw [hm, ob_some, J5]
          by_cases hs : I 576 (82 + kp) = -1
          · rw [if_pos hs]; rfl
          · rw [if_neg hs]; rfl
      | 2, hq =>
        refine qok0 hr0 (v := if I 576 (82 + kp) = -1 then 0 else I 576 89 - I 576 (82 + kp)) ?_ ?_
        · unfold f_x_client149; rw [t6, nE_ok hp (by omega), tb_inr, show f_x_needWithin38 (Int32.ofNat 2) 0 6 I = _ from nW_ok (n := 6) hq (by decide), tb_inr]
          show Option.bind (f_sta_hasSuit108 15 (Int32.ofNat kp) I) _ = _
          rw [hx, ob_some, suit]
          by_cases hs : I 576 (82 + kp) = -1
          · rw [if_pos hs, if_pos hs]; rfl
          · rw [if_neg hs, if_neg hs]
            show Option.bind (Option.bind (Option.bind (f_sta_ageOf132 15 (Int32.ofNat kp) I) _) _) _ = _
            unfold f_sta_ageOf132 f_sta_day113
            simp (disch := omega) only [i_add, i_addr, i_addl, i_mul, i_mulr, i_mull, i_lt, i_ltr, i_ltl, i_eq, i_eqr, i_eql, i_clamp, i_neg1, i_lt0, n_lt, n_nlt, n_eq, n_ne, ob_some, tb_inr, tb_inl, o_ite, nar_0, nar_1, nar_ite, if_true, if_false, Nat.reduceAdd, Nat.reduceMul, Nat.reduceSub, at_16, atl_16, suit, stE_day d1]
        · unfold f_m_client327; rw [mC_ok (I := ab_up1 I 47 0 0) u1 hp (by omega), ob_some, if_neg (by decide), ob_some, bad_0 up_eq, ob_some, if_pos rfl, show f_m_in264 (Int32.ofNat 2) 0 6 _ = _ from in_ok (n := 6) hq (by decide), ob_some, if_neg (by decide), ob_some, bad_0 up_eq, ob_some, if_pos rfl]
          show Option.bind (f_m_hasSuit305 576 (Int32.ofNat kp) (ab_up1 I 47 0 0)) _ = _
          rw [hm, ob_some, J5]
          by_cases hs : I 576 (82 + kp) = -1
          · rw [if_pos hs, if_pos hs]; rfl
          · rw [if_neg hs, if_neg hs]
            show Option.bind (rd (ab_up1 I 47 0 0) 576 ((82 : Int32) + Int32.ofNat kp)) _ = _
            simp (disch := omega) only [i_add, i_addr, i_addl, i_mul, i_mulr, i_mull, i_lt, i_ltr, i_ltl, i_eq, i_eqr, i_eql, i_clamp, i_neg1, i_lt0, n_lt, n_nlt, n_eq, n_ne, ob_some, tb_inr, tb_inl, o_ite, nar_0, nar_1, nar_ite, if_true, if_false, Nat.reduceAdd, Nat.reduceMul, Nat.reduceSub, rd_576, J5]
      | 3, hq =>
        refine qok0 hr0 (v := if I 576 (82 + kp) = -1 then 0 else hoursF (fun h => I 16 (19 + 12 * kp + h)) 6) ?_ ?_
        · unfold f_x_client149; rw [t6, nE_ok hp (by omega), tb_inr, show f_x_needWithin38 (Int32.ofNat 3) 0 6 I = _ from nW_ok (n := 6) hq (by decide), tb_inr]
          show Option.bind (f_sta_hasSuit108 15 (Int32.ofNat kp) I) _ = _
          rw [hx, ob_some, suit]
          by_cases hs : I 576 (82 + kp) = -1
          · rw [if_pos hs, if_pos hs]; rfl
          · rw [if_neg hs, if_neg hs]
            show Option.bind (Option.bind (Option.bind (f_sta_bareHours154 15 (Int32.ofNat kp) I) _) _) _ = _
            unfold f_sta_bareHours154
            rw [hx, ob_some, suit, if_neg hs, if_neg (by decide), sx, ob_some, x_hoursOf (a := 15 + 1) (n := 91) rfl (by decide) (by decide) (by omega)]
            rfl
        · unfold f_m_client327; rw [mC_ok (I := ab_up1 I 47 0 0) u1 hp (by omega), ob_some, if_neg (by decide), ob_some, bad_0 up_eq, ob_some, if_pos rfl, show f_m_in264 (Int32.ofNat 3) 0 6 _ = _ from in_ok (n := 6) hq (by decide), ob_some, if_neg (by decide), ob_some, bad_0 up_eq, ob_some, if_pos rfl]
          show Option.bind (f_m_hasSuit305 576 (Int32.ofNat kp) (ab_up1 I 47 0 0)) _ = _
          rw [hm, ob_some, J5]
          by_cases hs : I 576 (82 + kp) = -1
          · rw [if_pos hs, if_pos hs]; rfl
          · rw [if_neg hs, if_neg hs]
            show Option.bind (f_m_bareOf330 576 (Int32.ofNat kp) (ab_up1 I 47 0 0)) _ = _
            rw [m_bareOf (I := ab_up1 I 47 0 0) (a := 576) (n := 91) rfl (by decide) (by decide) (by omega), hoursF_congr cells]
            rfl
      | 4, hq =>
        refine qok0 hr0 (v := if I 576 (82 + kp) = -1 then 0 else seamsF (fun h => I 16 (19 + 12 * kp + h))) ?_ ?_
        · unfold f_x_client149; rw [t6, nE_ok hp (by omega), tb_inr, show f_x_needWithin38 (Int32.ofNat 4) 0 6 I = _ from nW_ok (n := 6) hq (by decide), tb_inr]
          show Option.bind (f_sta_hasSuit108 15 (Int32.ofNat kp) I) _ = _
          rw [hx, ob_some, suit]
          by_cases hs : I 576 (82 + kp) = -1
          · rw [if_pos hs, if_pos hs]; rfl
          · rw [if_neg hs, if_neg hs]
            show Option.bind (Option.bind (Option.bind (f_x_seamsOf133 16 ((19 : Int32) + ((12 : Int32) * Int32.ofNat kp)) I) _) _) _ = _
            rw [show (19 : Int32) + ((12 : Int32) * Int32.ofNat kp) = Int32.ofNat (19 + 12 * kp) from by simp (disch := omega) only [i_add, i_addr, i_addl, i_mul, i_mulr, i_mull, i_lt, i_ltr, i_ltl, i_eq, i_eqr, i_eql, i_clamp, i_neg1, i_lt0, n_lt, n_nlt, n_eq, n_ne, ob_some, tb_inr, tb_inl, o_ite, nar_0, nar_1, nar_ite, if_true, if_false, Nat.reduceAdd, Nat.reduceMul, Nat.reduceSub], x_seamsOf (a := 16) (n := 91) rfl (by decide) (by decide) (by omega)]
            rfl
        · unfold f_m_client327; rw [mC_ok (I := ab_up1 I 47 0 0) u1 hp (by omega), ob_some, if_neg (by decide), ob_some, bad_0 up_eq, ob_some, if_pos rfl, show f_m_in264 (Int32.ofNat 4) 0 6 _ = _ from in_ok (n := 6) hq (by decide), ob_some, if_neg (by decide), ob_some, bad_0 up_eq, ob_some, if_pos rfl]
          show Option.bind (f_m_hasSuit305 576 (Int32.ofNat kp) (ab_up1 I 47 0 0)) _ = _
          rw [hm, ob_some, J5]
          by_cases hs : I 576 (82 + kp) = -1
          · rw [if_pos hs, if_pos hs]; rfl
          · rw [if_neg hs, if_neg hs]
            show Option.bind (f_m_seamsOf316 576 ((10 : Int32) + ((12 : Int32) * Int32.ofNat kp)) (ab_up1 I 47 0 0)) _ = _
            rw [show (10 : Int32) + ((12 : Int32) * Int32.ofNat kp) = Int32.ofNat (10 + 12 * kp) from by simp (disch := omega) only [i_add, i_addr, i_addl, i_mul, i_mulr, i_mull, i_lt, i_ltr, i_ltl, i_eq, i_eqr, i_eql, i_clamp, i_neg1, i_lt0, n_lt, n_nlt, n_eq, n_ne, ob_some, tb_inr, tb_inl, o_ite, nar_0, nar_1, nar_ite, if_true, if_false, Nat.reduceAdd, Nat.reduceMul, Nat.reduceSub], m_seamsOf (I := ab_up1 I 47 0 0) (a := 576) (n := 91) rfl (by decide) (by decide) (by omega), seamsF_congr cells]
            rfl
      | 5, hq =>
        refine qok0 hr0 (v := if I 576 (82 + kp) = -1 then 0 else runsF (fun h => I 16 (19 + 12 * kp + h))) ?_ ?_
        · unfold f_x_client149; rw [t6, nE_ok hp (by omega), tb_inr, show f_x_needWithin38 (Int32.ofNat 5) 0 6 I = _ from nW_ok (n := 6) hq (by decide), tb_inr]
          show Option.bind (f_sta_hasSuit108 15 (Int32.ofNat kp) I) _ = _
          rw [hx, ob_some, suit]
          by_cases hs : I 576 (82 + kp) = -1
          · rw [if_pos hs, if_pos hs]; rfl
          · rw [if_neg hs, if_neg hs]
            show Option.bind (Option.bind (Option.bind (f_x_runsOf79 16 ((19 : Int32) + ((12 : Int32) * Int32.ofNat kp)) I) _) _) _ = _
            rw [show (19 : Int32) + ((12 : Int32) * Int32.ofNat kp) = Int32.ofNat (19 + 12 * kp) from by simp (disch := omega) only [i_add, i_addr, i_addl, i_mul, i_mulr, i_mull, i_lt, i_ltr, i_ltl, i_eq, i_eqr, i_eql, i_clamp, i_neg1, i_lt0, n_lt, n_nlt, n_eq, n_ne, ob_some, tb_inr, tb_inl, o_ite, nar_0, nar_1, nar_ite, if_true, if_false, Nat.reduceAdd, Nat.reduceMul, Nat.reduceSub], x_runsOf (a := 16) (n := 91) rfl (by decide) (by decide) (by omega)]
            rfl
        · unfold f_m_client327; rw [mC_ok (I := ab_up1 I 47 0 0) u1 hp (by omega), ob_some, if_neg (by decide), ob_some, bad_0 up_eq, ob_some, if_pos rfl, show f_m_in264 (Int32.ofNat 5) 0 6 _ = _ from in_ok (n := 6) hq (by decide), ob_some, if_neg (by decide), ob_some, bad_0 up_eq, ob_some, if_pos rfl]
          show Option.bind (f_m_hasSuit305 576 (Int32.ofNat kp) (ab_up1 I 47 0 0)) _ = _
          rw [hm, ob_some, J5]
          by_cases hs : I 576 (82 + kp) = -1
          · rw [if_pos hs, if_pos hs]; rfl
          · rw [if_neg hs, if_neg hs]
            show Option.bind (f_m_runsOf291 576 ((10 : Int32) + ((12 : Int32) * Int32.ofNat kp)) (ab_up1 I 47 0 0)) _ = _
            rw [show (10 : Int32) + ((12 : Int32) * Int32.ofNat kp) = Int32.ofNat (10 + 12 * kp) from by simp (disch := omega) only [i_add, i_addr, i_addl, i_mul, i_mulr, i_mull, i_lt, i_ltr, i_ltl, i_eq, i_eqr, i_eql, i_clamp, i_neg1, i_lt0, n_lt, n_nlt, n_eq, n_ne, ob_some, tb_inr, tb_inl, o_ite, nar_0, nar_1, nar_ite, if_true, if_false, Nat.reduceAdd, Nat.reduceMul, Nat.reduceSub], m_runsOf (I := ab_up1 I 47 0 0) (a := 576) (n := 91) rfl (by decide) (by decide) (by omega), runsF_congr cells]
            rfl
    · refine qref (E := 1) (w := 2) (by decide) hr0 ?_ ?_ (Or.inr ⟨rfl, rfl⟩)
      · unfold f_x_client149
        rw [t6, nE_ok hp (by omega), tb_inr, show f_x_needWithin38 q 0 6 I = _ from nW_no (n := 6) (by decide) hq]
        rfl
      · unfold f_m_client327
        rw [mC_ok (I := ab_up1 (ab_up1 I 0 (14 + 1) (I 0 (14 + 1) + 1)) 47 0 0) u1 hp (by omega), ob_some, if_neg (by decide), ob_some, bad_0 up_eq, ob_some, if_pos rfl, show f_m_in264 q 0 6 _ = _ from in_no (n := 6) (by decide) hq, ob_some, if_pos rfl, ob_some, show f_m_bad268 1 2 1 _ = _ from bad_ref (E := 1) (by decide) (by decide)]
        rfl
  · refine qref (E := 0) (w := 1) (by decide) hr0 ?_ ?_ (Or.inl ⟨rfl, rfl⟩)
    · unfold f_x_client149
      rw [t6, nE_no hp]
      rfl
    · unfold f_m_client327
      rw [mC_no (I := ab_up1 (ab_up1 I 0 (14 + 0) (I 0 (14 + 0) + 1)) 47 0 0) u1 (by omega) hp, ob_some, if_pos rfl, ob_some, show f_m_bad268 1 1 0 _ = _ from bad_ref (E := 0) (by decide) (by decide)]
      rfl

set_option maxHeartbeats 1000000 in
theorem op_fit_ok : op_fit rel := by
  intro p I hr
  have hr0 := hr
  obtain ⟨tn, bl, st, wa, od, tb, pk, ln, ht, nl, bh, bs, nk, ni, wt, u, hS, hD, hP, hL, hB, hK, hT, hC⟩ := hr
  obtain ⟨s1, s2, s3, s4, s5, s6, s7, s8, s9, s10, s11, s12, s13, s14, s15, s16, s17⟩ := hS
  obtain ⟨d1, d2⟩ := hD
  obtain ⟨day, q1, q2, q3, q4, q5⟩ := d2
  have t5 : I 3 5 = Int32.ofNat (tn 0) := s3 0 (by decide)
  have t6 : I 3 6 = Int32.ofNat (tn 1) := s3 1 (by decide)
  have t7 : I 3 7 = Int32.ofNat (tn 2) := s3 2 (by decide)
  have t8 : I 3 8 = Int32.ofNat (tn 3) := s3 3 (by decide)
  have t9 : I 3 9 = Int32.ofNat (tn 4) := s3 4 (by decide)
  have u0 : I 51 0 = Int32.ofNat (tn 0) := s2 0 (by decide)
  have u1 : I 51 1 = Int32.ofNat (tn 1) := s2 1 (by decide)
  have u2 : I 51 2 = Int32.ofNat (tn 2) := s2 2 (by decide)
  have u3 : I 51 3 = Int32.ofNat (tn 3) := s2 3 (by decide)
  have u4 : I 51 4 = Int32.ofNat (tn 4) := s2 4 (by decide)
  have J13 : ∀ w j, w < tn 2 → j < 5 → (ab_up1 I 47 0 0) (94 + w) j = Int32.ofNat (wa w j) := fun w j hw hj => (up_ne (by omega)).trans (s13 w j hw hj)
  have J16 : ∀ o j, o < tn 3 → j < 5 → (ab_up1 I 47 0 0) (120 + o) j = Int32.ofNat (od o j) := fun w j hw hj => (up_ne (by omega)).trans (s16 w j hw hj)
  have J5 : ∀ k, (ab_up1 I 47 0 0) 576 k = I 576 k := fun k => up_ne (by omega)
  rcases range_cases p (n := tn 1) (by omega) with ⟨kp, hp, rfl⟩ | hp
  · skip
    have hc6 : kp < 6 := by omega
    have hb : ∀ w, w < tn 2 → wa w 0 < 6 ∧ wa w 1 ≤ wa w 2 ∧ wa w 2 ≤ 11 := fun w hw => ⟨by have := s12 w hw; omega, (s12 w hw).2.1, (s12 w hw).2.2.1⟩
    have cells : ∀ h, h < 12 → I 16 (19 + 12 * kp + h) = (ab_up1 I 47 0 0) 576 (10 + 12 * kp + h) := by
      intro h hh
      have := stE_suit d1 (j := 12 * kp + h) (by omega)
      rw [J5, show 19 + 12 * kp + h = 19 + (12 * kp + h) by omega, show 10 + 12 * kp + h = 10 + (12 * kp + h) by omega]
      exact this
    have sx : f_sta_suitAt114 15 (Int32.ofNat kp) I = some (Int32.ofNat (19 + 12 * kp)) := by
      unfold f_sta_suitAt114
      simp (disch := omega) only [i_add, i_addr, i_addl, i_mul, i_mulr, i_mull, i_lt, i_ltr, i_ltl, i_eq, i_eqr, i_eql, i_clamp, i_neg1, i_lt0, n_lt, n_nlt, n_eq, n_ne, ob_some, tb_inr, tb_inl, o_ite, nar_0, nar_1, nar_ite, if_true, if_false, Nat.reduceAdd, Nat.reduceMul, Nat.reduceSub]
    have smm : f_m_suitOf310 (Int32.ofNat kp) (ab_up1 I 47 0 0) = some (Int32.ofNat (10 + 12 * kp)) := by
      unfold f_m_suitOf310
      simp (disch := omega) only [i_add, i_addr, i_addl, i_mul, i_mulr, i_mull, i_lt, i_ltr, i_ltl, i_eq, i_eqr, i_eql, i_clamp, i_neg1, i_lt0, n_lt, n_nlt, n_eq, n_ne, ob_some, tb_inr, tb_inl, o_ite, nar_0, nar_1, nar_ite, if_true, if_false, Nat.reduceAdd, Nat.reduceMul, Nat.reduceSub]
    refine qok0 hr0 (v := if I 576 (82 + kp) = -1 then 0 else fitF (tn 2) (tn 4) wa kp (fun h => I 16 (19 + 12 * kp + h))) ?_ ?_
    · unfold f_x_fit175; rw [t6, nE_ok hp (by omega), tb_inr]; unfold f_x_fitOfSuit176; rw [x_hasSuit (t := 15) rfl (by decide) hc6, ob_some, stE_cut d1 hc6]
      by_cases hs : I 576 (82 + kp) = -1
      · rw [if_pos hs, if_pos hs]; rfl
      · rw [if_neg hs, if_neg hs, if_neg (by decide), sx, ob_some, x_fitOf (a := 15 + 1) (n := 91) (by omega) t7 t9 hc6 hb s14 rfl (by decide) (by decide) (by omega)]
        rfl
    · unfold f_m_fit341; rw [mC_ok (I := ab_up1 I 47 0 0) u1 hp (by omega), ob_some, if_neg (by decide), ob_some, bad_0 up_eq, ob_some, if_pos rfl]; try dsimp only; rw [m_hasSuit (I := ab_up1 I 47 0 0) (a := 576) (n := 91) rfl (by decide) (by decide) hc6, ob_some, J5]
      by_cases hs : I 576 (82 + kp) = -1
      · rw [if_pos hs, if_pos hs]; rfl
      · rw [if_neg hs, if_neg hs, if_neg (by decide), smm, ob_some, m_fitOf (I := ab_up1 I 47 0 0) (a := 576) (n := 91) (by omega) u2 u4 hc6 hb J13 rfl (by decide) (by decide) (by omega), fitF_congr (fun w hw => (hb w hw).2.2) cells]
        rfl
  · refine qref (E := 0) (w := 1) (by decide) hr0 ?_ ?_ (Or.inl ⟨rfl, rfl⟩)
    · unfold f_x_fit175
      rw [t6, nE_no hp]
      rfl
    · unfold f_m_fit341
      rw [mC_no (I := ab_up1 (ab_up1 I 0 (14 + 0) (I 0 (14 + 0) + 1)) 47 0 0) u1 (by omega) hp, ob_some, if_pos rfl, ob_some, show f_m_bad268 1 1 0 _ = _ from bad_ref (E := 0) (by decide) (by decide)]
      rfl
