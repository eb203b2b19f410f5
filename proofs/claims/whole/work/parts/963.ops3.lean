/-! calls that only read, third -/
set_option maxHeartbeats 1000000 in
theorem op_want_ok : op_want rel := by
  intro p q I hr
  have hr0 := hr
  obtain ⟨tn, bl, st, wa, od, tb, pk, ln, ht, nl, bh, bs, nk, ni, wt, u, hS, hD, hP, hL, hB, hK, hT, hC⟩ := hr
  obtain ⟨s1, s2, s3, s4, s5, s6, s7, s8, s9, s10, s11, s12, s13, s14, s15, s16, s17⟩ := hS
  obtain ⟨d1, d2⟩ := hD
  obtain ⟨day, q1, q2, q3, q4, q5⟩ := d2
  have t5 : I 3 5 = Int32.ofNat (tn 0) := s3 0 (by decide)
  have t6 : I 3 6 = Int32.ofNat (tn 1) := s3 1 (by decide)
  have t7 : I 3 7 = Int32.ofNat (tn 2) := s3 2 (by decide)
  have t8 : I 3 8 = Int32.ofNat (tn 3) := s3 3 (by decide)
  have t9 : I 3 9 = Int32.ofNat (tn 4) := s3 4 (by decide)
  have u0 : I 51 0 = Int32.ofNat (tn 0) := s2 0 (by decide)
  have u1 : I 51 1 = Int32.ofNat (tn 1) := s2 1 (by decide)
  have u2 : I 51 2 = Int32.ofNat (tn 2) := s2 2 (by decide)
  have u3 : I 51 3 = Int32.ofNat (tn 3) := s2 3 (by decide)
  have u4 : I 51 4 = Int32.ofNat (tn 4) := s2 4 (by decide)
  have J13 : ∀ w j, w < tn 2 → j < 5 → (ab_up1 I 47 0 0) (94 + w) j = Int32.ofNat (wa w j) := fun w j hw hj => (up_ne (by omega)).trans (s13 w j hw hj)
  have J16 : ∀ o j, o < tn 3 → j < 5 → (ab_up1 I 47 0 0) (120 + o) j = Int32.ofNat (od o j) := fun w j hw hj => (up_ne (by omega)).trans (s16 w j hw hj)
  have J5 : ∀ k, (ab_up1 I 47 0 0) 576 k = I 576 k := fun k => up_ne (by omega)
  rcases range_cases p (n := tn 2) (by omega) with ⟨kp, hp, rfl⟩ | hp
  · skip
    rcases range_cases q (n := 6) (by decide) with ⟨kq, hq, rfl⟩ | hq
    · skip
      have cells : ∀ c, c < 6 → ∀ h, h < 12 → I 16 (19 + 12 * c + h) = (ab_up1 I 47 0 0) 576 (10 + 12 * c + h) := by
        intro c hc h hh
        have := stE_suit d1 (j := 12 * c + h) (by omega)
        rw [J5, show 19 + 12 * c + h = 19 + (12 * c + h) by omega, show 10 + 12 * c + h = 10 + (12 * c + h) by omega]
        exact this
      
      have b := s12 kp hp
      by_cases hk : kq < 5
      · refine qok0 hr0 (v := Int32.ofNat (wa kp kq)) ?_ ?_
        · unfold f_x_want157; rw [t7, nE_ok hp (by omega), tb_inr, show f_x_needWithin38 (Int32.ofNat kq) 0 5 I = _ from nW_ok (n := 5) hq (by decide), tb_inr]
          simp (disch := omega) only [i_add, i_addr, i_addl, i_mul, i_mulr, i_mull, i_lt, i_ltr, i_ltl, i_eq, i_eqr, i_eql, i_clamp, i_neg1, i_lt0, n_lt, n_nlt, n_eq, n_ne, ob_some, tb_inr, tb_inl, o_ite, nar_0, nar_1, nar_ite, if_true, if_false, Nat.reduceAdd, Nat.reduceMul, Nat.reduceSub, f_sho_wantPart152, at_7]
          rw [s14 kp kq hp hk]
        · unfold f_m_want331; rw [show I 51 2 = _ from u2, in1_ok hp (by omega), ob_some, if_neg (by decide), ob_some, bad_0 up_eq, ob_some, if_pos rfl, show f_m_in264 (Int32.ofNat kq) 0 5 _ = _ from in_ok (n := 5) hq (by decide), ob_some, if_neg (by decide), ob_some, bad_0 up_eq, ob_some, if_pos rfl]; try dsimp only
          simp (disch := omega) only [i_add, i_addr, i_addl, i_mul, i_mulr, i_mull, i_lt, i_ltr, i_ltl, i_eq, i_eqr, i_eql, i_clamp, i_neg1, i_lt0, n_lt, n_nlt, n_eq, n_ne, ob_some, tb_inr, tb_inl, o_ite, nar_0, nar_1, nar_ite, if_true, if_false, Nat.reduceAdd, Nat.reduceMul, Nat.reduceSub, rdp_93, rdr_93]
          rw [J13 kp kq hp hk]
      · obtain rfl : kq = 5 := by omega
        have c6 : wa kp 0 < 6 := by omega
        have p0 : f_sho_wantPart152 (Int32.ofNat kp) 0 I = some (Int32.ofNat (wa kp 0)) := by
          unfold f_sho_wantPart152
          simp (disch := omega) only [i_add, i_addr, i_addl, i_mul, i_mulr, i_mull, i_lt, i_ltr, i_ltl, i_eq, i_eqr, i_eql, i_clamp, i_neg1, i_lt0, n_lt, n_nlt, n_eq, n_ne, ob_some, tb_inr, tb_inl, o_ite, nar_0, nar_1, nar_ite, if_true, if_false, Nat.reduceAdd, Nat.reduceMul, Nat.reduceSub, at_7]
          exact congrArg some (s14 kp 0 hp (by decide))
        have r0 : rd (ab_up1 I 47 0 0) (94 + kp) 0 = some (Int32.ofNat (wa kp 0)) := by
          rw [show rd (ab_up1 I 47 0 0) (94 + kp) 0 = some ((ab_up1 I 47 0 0) (94 + kp) 0) from rdr_93 (w := kp) (k := 0) (by omega) (by decide), J13 kp 0 hp (by decide)]
        have sx : f_sta_suitAt114 15 (Int32.ofNat (wa kp 0)) I = some (Int32.ofNat (19 + 12 * wa kp 0)) := by
          unfold f_sta_suitAt114
          simp (disch := omega) only [i_add, i_addr, i_addl, i_mul, i_mulr, i_mull, i_lt, i_ltr, i_ltl, i_eq, i_eqr, i_eql, i_clamp, i_neg1, i_lt0, n_lt, n_nlt, n_eq, n_ne, ob_some, tb_inr, tb_inl, o_ite, nar_0, nar_1, nar_ite, if_true, if_false, Nat.reduceAdd, Nat.reduceMul, Nat.reduceSub]
        have smm : f_m_suitOf310 (Int32.ofNat (wa kp 0)) (ab_up1 I 47 0 0) = some (Int32.ofNat (10 + 12 * wa kp 0)) := by
          unfold f_m_suitOf310
          simp (disch := omega) only [i_add, i_addr, i_addl, i_mul, i_mulr, i_mull, i_lt, i_ltr, i_ltl, i_eq, i_eqr, i_eql, i_clamp, i_neg1, i_lt0, n_lt, n_nlt, n_eq, n_ne, ob_some, tb_inr, tb_inl, o_ite, nar_0, nar_1, nar_ite, if_true, if_false, Nat.reduceAdd, Nat.reduceMul, Nat.reduceSub]
        refine qok0 hr0 (v := if I 576 (82 + wa kp 0) = -1 then 0 else if metF (fun h => I 16 (19 + 12 * wa kp 0 + h)) (wa kp 1) (wa kp 2) (Int32.ofNat (wa kp 3)) = 0 then 0 else 1) ?_ ?_
        · unfold f_x_want157; rw [t7, nE_ok hp (by omega), tb_inr, show f_x_needWithin38 (Int32.ofNat 5) 0 5 I = _ from nW_ok (n := 5) hq (by decide), tb_inr]
          rw [if_neg (by decide), p0, ob_some, x_hasSuit (t := 15) rfl (by decide) c6, ob_some, stE_cut d1 c6]
          by_cases hs : I 576 (82 + wa kp 0) = -1
          · rw [if_pos hs, if_pos hs]; rfl
          · rw [if_neg hs, if_neg hs, if_neg (by decide), sx, ob_some, x_isMet (a := 16) (n := 91) hp (by omega) s14 b.2.1 b.2.2.1 rfl (by decide) (by decide) (by omega), ob_some, o_ite]
            rfl
        · unfold f_m_want331; rw [show I 51 2 = _ from u2, in1_ok hp (by omega), ob_some, if_neg (by decide), ob_some, bad_0 up_eq, ob_some, if_pos rfl, show f_m_in264 (Int32.ofNat 5) 0 5 _ = _ from in_ok (n := 5) hq (by decide), ob_some, if_neg (by decide), ob_some, bad_0 up_eq, ob_some, if_pos rfl]; try dsimp only
          rw [if_neg (by decide), rdp_93 (by omega), ob_some, r0, ob_some, m_hasSuit (I := ab_up1 I 47 0 0) (a := 576) (n := 91) rfl (by decide) (by decide) c6, ob_some, J5]
          by_cases hs : I 576 (82 + wa kp 0) = -1
          · rw [if_pos hs, if_pos hs]; rfl
          · rw [if_neg hs, if_neg hs, if_neg (by decide), ob_some, r0, ob_some, smm, ob_some, m_isMet (I := ab_up1 I 47 0 0) (a := 576) (n := 91) hp (by omega) J13 b.2.1 b.2.2.1 rfl (by decide) (by decide) (by omega), ob_some, o_ite, ob_some]
            rw [metF_congr (fun k hk => cells (wa kp 0) c6 k (by omega))]
    · refine qref (E := 1) (w := 2) (by decide) hr0 ?_ ?_ (Or.inr ⟨rfl, rfl⟩)
      · unfold f_x_want157
        rw [t7, nE_ok hp (by omega), tb_inr, show f_x_needWithin38 q 0 5 I = _ from nW_no (n := 5) (by decide) hq]
        rfl
      · unfold f_m_want331
        rw [show (ab_up1 I 0 (14 + 1) (I 0 (14 + 1) + 1)) 51 2 = _ from u2, in1_ok hp (by omega), ob_some, if_neg (by decide), ob_some, bad_0 up_eq, ob_some, if_pos rfl, show f_m_in264 q 0 5 _ = _ from in_no (n := 5) (by decide) hq, ob_some, if_pos rfl, ob_some, show f_m_bad268 1 2 1 _ = _ from bad_ref (E := 1) (by decide) (by decide)]
        rfl
  · refine qref (E := 0) (w := 1) (by decide) hr0 ?_ ?_ (Or.inl ⟨rfl, rfl⟩)
    · unfold f_x_want157
      rw [t7, nE_no hp]
      rfl
    · unfold f_m_want331
      rw [show (ab_up1 I 0 (14 + 0) (I 0 (14 + 0) + 1)) 51 2 = _ from u2, in1_no (by omega) hp, ob_some, if_pos rfl, ob_some, show f_m_bad268 1 1 0 _ = _ from bad_ref (E := 0) (by decide) (by decide)]
      rfl

set_option maxHeartbeats 1000000 in
theorem op_order_ok : op_order rel := by
  intro p q I hr
  have hr0 := hr
  obtain ⟨tn, bl, st, wa, od, tb, pk, ln, ht, nl, bh, bs, nk, ni, wt, u, hS, hD, hP, hL, hB, hK, hT, hC⟩ := hr
  obtain ⟨s1, s2, s3, s4, s5, s6, s7, s8, s9, s10, s11, s12, s13, s14, s15, s16, s17⟩ := hS
  obtain ⟨d1, d2⟩ := hD
  obtain ⟨day, q1, q2, q3, q4, q5⟩ := d2
  have t5 : I 3 5 = Int32.ofNat (tn 0) := s3 0 (by decide)
  have t6 : I 3 6 = Int32.ofNat (tn 1) := s3 1 (by decide)
  have t7 : I 3 7 = Int32.ofNat (tn 2) := s3 2 (by decide)
  have t8 : I 3 8 = Int32.ofNat (tn 3) := s3 3 (by decide)
  have t9 : I 3 9 = Int32.ofNat (tn 4) := s3 4 (by decide)
  have u0 : I 51 0 = Int32.ofNat (tn 0) := s2 0 (by decide)
  have u1 : I 51 1 = Int32.ofNat (tn 1) := s2 1 (by decide)
  have u2 : I 51 2 = Int32.ofNat (tn 2) := s2 2 (by decide)
  have u3 : I 51 3 = Int32.ofNat (tn 3) := s2 3 (by decide)
  have u4 : I 51 4 = Int32.ofNat (tn 4) := s2 4 (by decide)
  have J13 : ∀ w j, w < tn 2 → j < 5 → (ab_up1 I 47 0 0) (94 + w) j = Int32.ofNat (wa w j) := fun w j hw hj => (up_ne (by omega)).trans (s13 w j hw hj)
  have J16 : ∀ o j, o < tn 3 → j < 5 → (ab_up1 I 47 0 0) (120 + o) j = Int32.ofNat (od o j) := fun w j hw hj => (up_ne (by omega)).trans (s16 w j hw hj)
  have J5 : ∀ k, (ab_up1 I 47 0 0) 576 k = I 576 k := fun k => up_ne (by omega)
  rcases range_cases p (n := tn 3) (by omega) with ⟨kp, hp, rfl⟩ | hp
  · skip
    rcases range_cases q (n := 6) (by decide) with ⟨kq, hq, rfl⟩ | hq
    · skip
      by_cases hk : kq < 5
      · refine qok0 hr0 (v := Int32.ofNat (od kp kq)) ?_ ?_
        · unfold f_x_order160; rw [t8, nE_ok hp (by omega), tb_inr, show f_x_needWithin38 (Int32.ofNat kq) 0 5 I = _ from nW_ok (n := 5) hq (by decide), tb_inr]
          rw [x_orderPart hp (by omega) hk s17]
          simp (disch := omega) only [i_add, i_addr, i_addl, i_mul, i_mulr, i_mull, i_lt, i_ltr, i_ltl, i_eq, i_eqr, i_eql, i_clamp, i_neg1, i_lt0, n_lt, n_nlt, n_eq, n_ne, ob_some, tb_inr, tb_inl, o_ite, nar_0, nar_1, nar_ite, if_true, if_false, Nat.reduceAdd, Nat.reduceMul, Nat.reduceSub]
        · unfold f_m_order333; rw [mO_ok (I := ab_up1 I 47 0 0) u3 hp (by omega), ob_some, if_neg (by decide), ob_some, bad_0 up_eq, ob_some, if_pos rfl, show f_m_in264 (Int32.ofNat kq) 0 5 _ = _ from in_ok (n := 5) hq (by decide), ob_some, if_neg (by decide), ob_some, bad_0 up_eq, ob_some, if_pos rfl]; try dsimp only
          simp (disch := omega) only [i_add, i_addr, i_addl, i_mul, i_mulr, i_mull, i_lt, i_ltr, i_ltl, i_eq, i_eqr, i_eql, i_clamp, i_neg1, i_lt0, n_lt, n_nlt, n_eq, n_ne, ob_some, tb_inr, tb_inl, o_ite, nar_0, nar_1, nar_ite, if_true, if_false, Nat.reduceAdd, Nat.reduceMul, Nat.reduceSub, rdp_119, rdr_119]
          rw [J16 kp kq hp hk]
      · obtain rfl : kq = 5 := by omega
        refine qok0 hr0 (v := stF (I 16 2) (I 16 0) (od kp 2) kp) ?_ ?_
        · unfold f_x_order160; rw [t8, nE_ok hp (by omega), tb_inr, show f_x_needWithin38 (Int32.ofNat 5) 0 5 I = _ from nW_ok (n := 5) hq (by decide), tb_inr]
          rw [if_neg (by decide), x_stateOf hp (by omega) s17]
          rfl
        · unfold f_m_order333; rw [mO_ok (I := ab_up1 I 47 0 0) u3 hp (by omega), ob_some, if_neg (by decide), ob_some, bad_0 up_eq, ob_some, if_pos rfl, show f_m_in264 (Int32.ofNat 5) 0 5 _ = _ from in_ok (n := 5) hq (by decide), ob_some, if_neg (by decide), ob_some, bad_0 up_eq, ob_some, if_pos rfl]; try dsimp only
          rw [if_neg (by decide), m_stateOf (I := ab_up1 I 47 0 0) (a := 576) (n := 91) hp (by omega) J16 rfl (by decide) (by decide), J5, J5, stE_sold d1, stE_day d1]
          rfl
    · refine qref (E := 1) (w := 2) (by decide) hr0 ?_ ?_ (Or.inr ⟨rfl, rfl⟩)
      · unfold f_x_order160
        rw [t8, nE_ok hp (by omega), tb_inr, show f_x_needWithin38 q 0 5 I = _ from nW_no (n := 5) (by decide) hq]
        rfl
      · unfold f_m_order333
        rw [mO_ok (I := ab_up1 (ab_up1 I 0 (14 + 1) (I 0 (14 + 1) + 1)) 47 0 0) u3 hp (by omega), ob_some, if_neg (by decide), ob_some, bad_0 up_eq, ob_some, if_pos rfl, show f_m_in264 q 0 5 _ = _ from in_no (n := 5) (by decide) hq, ob_some, if_pos rfl, ob_some, show f_m_bad268 1 2 1 _ = _ from bad_ref (E := 1) (by decide) (by decide)]
        rfl
  · refine qref (E := 0) (w := 1) (by decide) hr0 ?_ ?_ (Or.inl ⟨rfl, rfl⟩)
    · unfold f_x_order160
      rw [t8, nE_no hp]
      rfl
    · unfold f_m_order333
      rw [mO_no (I := ab_up1 (ab_up1 I 0 (14 + 0) (I 0 (14 + 0) + 1)) 47 0 0) u3 (by omega) hp, ob_some, if_pos rfl, ob_some, show f_m_bad268 1 1 0 _ = _ from bad_ref (E := 0) (by decide) (by decide)]
      rfl

set_option maxHeartbeats 1000000 in
theorem op_ready_ok : op_ready rel := by
  intro p I hr
  have hr0 := hr
  obtain ⟨tn, bl, st, wa, od, tb, pk, ln, ht, nl, bh, bs, nk, ni, wt, u, hS, hD, hP, hL, hB, hK, hT, hC⟩ := hr
  obtain ⟨s1, s2, s3, s4, s5, s6, s7, s8, s9, s10, s11, s12, s13, s14, s15, s16, s17⟩ := hS
  obtain ⟨d1, d2⟩ := hD
  obtain ⟨day, q1, q2, q3, q4, q5⟩ := d2
  have t5 : I 3 5 = Int32.ofNat (tn 0) := s3 0 (by decide)
  have t6 : I 3 6 = Int32.ofNat (tn 1) := s3 1 (by decide)
  have t7 : I 3 7 = Int32.ofNat (tn 2) := s3 2 (by decide)
  have t8 : I 3 8 = Int32.ofNat (tn 3) := s3 3 (by decide)
  have t9 : I 3 9 = Int32.ofNat (tn 4) := s3 4 (by decide)
  have u0 : I 51 0 = Int32.ofNat (tn 0) := s2 0 (by decide)
  have u1 : I 51 1 = Int32.ofNat (tn 1) := s2 1 (by decide)
  have u2 : I 51 2 = Int32.ofNat (tn 2) := s2 2 (by decide)
  have u3 : I 51 3 = Int32.ofNat (tn 3) := s2 3 (by decide)
  have u4 : I 51 4 = Int32.ofNat (tn 4) := s2 4 (by decide)
  have J13 : ∀ w j, w < tn 2 → j < 5 → (ab_up1 I 47 0 0) (94 + w) j = Int32.ofNat (wa w j) := fun w j hw hj => (up_ne (by omega)).trans (s13 w j hw hj)
  have J16 : ∀ o j, o < tn 3 → j < 5 → (ab_up1 I 47 0 0) (120 + o) j = Int32.ofNat (od o j) := fun w j hw hj => (up_ne (by omega)).trans (s16 w j hw hj)
  have J5 : ∀ k, (ab_up1 I 47 0 0) 576 k = I 576 k := fun k => up_ne (by omega)
  rcases range_cases p (n := tn 3) (by omega) with ⟨kp, hp, rfl⟩ | hp
  · skip
    have cells : ∀ c, c < 6 → ∀ h, h < 12 → I 16 (19 + 12 * c + h) = (ab_up1 I 47 0 0) 576 (10 + 12 * c + h) := by
      intro c hc h hh
      have := stE_suit d1 (j := 12 * c + h) (by omega)
      rw [J5, show 19 + 12 * c + h = 19 + (12 * c + h) by omega, show 10 + 12 * c + h = 10 + (12 * c + h) by omega]
      exact this
    
    obtain ⟨g1, g2, g3, g4, g5, g6⟩ := hP
    have b := s15 kp hp
    have b6 : od kp 0 < 6 ∧ od kp 1 < 6 := ⟨by omega, b.2.1⟩
    have J135 : ∀ p, p < 6 → (ab_up1 I 47 0 0) 135 p = if tb.testBit p then 1 else 0 := fun p hp => (up_ne (by omega)).trans (g3 p hp)
    refine qokB (v := vp_nar .boolean (rdyF (stF (I 16 2) (I 16 0) (od kp 2) kp) (I 16 (3 + od kp 0)) (tb.testBit (od kp 1)) (alkF (fun h => I 16 (19 + 12 * od kp 0 + h)) (fun h => I 20 (12 * od kp 1 + h))))) (I1 := I) (I2 := ab_up1 I 47 0 0) hr0 ?_ ?_ Iff.rfl (agr_up agr_rf rfl) up_eq
    · unfold f_x_ready173; rw [t8, nE_ok hp (by omega), tb_inr]
      rw [x_allowsSale hp (by omega) b6 s17 g2 g1]
      rfl
    · unfold f_m_ready340; rw [mO_ok (I := ab_up1 I 47 0 0) u3 hp (by omega), ob_some, if_neg (by decide), ob_some, bad_0 up_eq, ob_some, if_pos rfl]; try dsimp only
      rw [m_isReady (I := ab_up1 I 47 0 0) (a := 576) (n := 91) hp (by omega) b6 J16 J135 rfl (by decide) (by decide), ob_some, J5, J5, J5, stE_sold d1, stE_day d1, stE_cut d1 b6.1]
      rw [alkF_congr (cells (od kp 0) b6.1) (r' := fun h => I 20 (12 * od kp 1 + h)) (q' := fun h => ab_up1 I 47 0 0 (129 + od kp 1) h) (fun k hk => by
        rw [g6 _ k b6.2 hk, up_ne (by omega), g5 _ k b6.2 hk])]
  · refine qrefB (E := 0) (w := 1) (by decide) hr0 ?_ ?_ (Or.inl ⟨rfl, rfl⟩)
    · unfold f_x_ready173
      rw [t8, nE_no hp]
      rfl
    · unfold f_m_ready340
      rw [mO_no (I := ab_up1 (ab_up1 I 0 (14 + 0) (I 0 (14 + 0) + 1)) 47 0 0) u3 (by omega) hp, ob_some, if_pos rfl, ob_some, show f_m_bad268 1 1 0 _ = _ from bad_ref (E := 0) (by decide) (by decide)]
      rfl
