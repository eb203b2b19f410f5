/-! calls that only read, fourth -/
theorem rPat_J {tb : Nat} {pk : Nat → Nat → Nat} {I : MJ} (h : rPat tb pk I) : rPat tb pk (ab_up1 I 47 0 0) := rPat_congr (fun a k h => up_ne (by omega)) h
theorem rBook_J {nl : Nat} {bh bs : Nat → Nat} {I : MJ} (h : rBook nl bh bs I) : rBook nl bh bs (ab_up1 I 47 0 0) := rBook_congr (fun a k h => up_ne (by omega)) h
theorem rShop_J {tn : Nat → Nat} {bl : Nat → Nat → Nat} {st : Nat → Nat} {wa od : Nat → Nat → Nat} {I : MJ} (h : rShop tn bl st wa od I) : rShop tn bl st wa od (ab_up1 I 47 0 0) := rShop_congr (fun a k h => up_ne (by omega)) h
theorem nT_ok {tb p : Nat} {I : MJ} (e : I 19 3 = Int32.ofNat tb) (ht : tb < 64) (hp : p < 6) (h : tb.testBit p = true) : f_x_needTold180 (Int32.ofNat p) I = some (.inr (), I) := by
  unfold f_x_needTold180
  rw [x_isTold e ht hp, ob_some, if_pos h]
  rfl
theorem nT_no {tb p : Nat} {I : MJ} (e : I 19 3 = Int32.ofNat tb) (ht : tb < 64) (hp : p < 6) (h : ¬ tb.testBit p = true) : f_x_needTold180 (Int32.ofNat p) I = some (.inl 2, ab_up1 I 0 16 (I 0 16 + 1)) := by
  unfold f_x_needTold180
  rw [x_isTold e ht hp, ob_some, if_neg h]
  rfl
set_option maxHeartbeats 1000000 in
theorem op_skies_ok : op_skies rel := by
  intro p I hr
  have hr0 := hr
  obtain ⟨tn, bl, st, wa, od, tb, pk, ln, ht, nl, bh, bs, nk, ni, wt, u, hS, hD, hP, hL, hB, hK, hT, hC⟩ := hr
  obtain ⟨s1, s2, s3, s4, s5, s6, s7, s8, s9, s10, s11, s12, s13, s14, s15, s16, s17⟩ := hS
  obtain ⟨d1, d2⟩ := hD
  obtain ⟨day, q1, q2, q3, q4, q5⟩ := d2
  have t5 : I 3 5 = Int32.ofNat (tn 0) := s3 0 (by decide)
  have t6 : I 3 6 = Int32.ofNat (tn 1) := s3 1 (by decide)
  have t7 : I 3 7 = Int32.ofNat (tn 2) := s3 2 (by decide)
  have t8 : I 3 8 = Int32.ofNat (tn 3) := s3 3 (by decide)
  have t9 : I 3 9 = Int32.ofNat (tn 4) := s3 4 (by decide)
  have u0 : I 51 0 = Int32.ofNat (tn 0) := s2 0 (by decide)
  have u1 : I 51 1 = Int32.ofNat (tn 1) := s2 1 (by decide)
  have u2 : I 51 2 = Int32.ofNat (tn 2) := s2 2 (by decide)
  have u3 : I 51 3 = Int32.ofNat (tn 3) := s2 3 (by decide)
  have u4 : I 51 4 = Int32.ofNat (tn 4) := s2 4 (by decide)
  have J13 : ∀ w j, w < tn 2 → j < 5 → (ab_up1 I 47 0 0) (94 + w) j = Int32.ofNat (wa w j) := fun w j hw hj => (up_ne (by omega)).trans (s13 w j hw hj)
  have J16 : ∀ o j, o < tn 3 → j < 5 → (ab_up1 I 47 0 0) (120 + o) j = Int32.ofNat (od o j) := fun w j hw hj => (up_ne (by omega)).trans (s16 w j hw hj)
  have J5 : ∀ k, (ab_up1 I 47 0 0) 576 k = I 576 k := fun k => up_ne (by omega)
  rcases range_cases p (n := 6) (by decide) with ⟨kp, hp, rfl⟩ | hp
  · skip
    refine qok0 hr0 (v := skyF nl bh bs pk tb kp) ?_ ?_
    · unfold f_x_skies230; rw [nP_ok hp, tb_inr]; rw [x_skiesOf hp hB hP]; rfl
    · unfold f_m_skies364; rw [mP_ok hp, ob_some, if_neg (by decide), ob_some, bad_0 up_eq, ob_some, if_pos rfl]; try dsimp only; rw [m_skiesOf hp (rBook_J hB) (rPat_J hP)]; rfl
  · refine qref (E := 0) (w := 1) (by decide) hr0 ?_ ?_ (Or.inl ⟨rfl, rfl⟩)
    · unfold f_x_skies230
      rw [nP_no hp]
      rfl
    · unfold f_m_skies364
      rw [mP_no hp, ob_some, if_pos rfl, ob_some, show f_m_bad268 1 1 0 _ = _ from bad_ref (E := 0) (by decide) (by decide)]
      rfl

theorem op_which_ok : op_which rel := by
  intro I hr
  have hr2 : rel (ab_up1 I 47 0 0) := rel_agr hr (agr_up agr_rf rfl)
  obtain ⟨tn, bl, st, wa, od, tb, pk, ln, ht, nl, bh, bs, nk, ni, wt, u, hS, hD, hP, hL, hB, hK, hT, hC⟩ := hr
  refine ⟨bo (fun p => if skyF nl bh bs pk tb p = 0 then 0 else 1 <<< (Int32.ofNat p &&& 31)) 6, ab_up1 I 47 0 0, ?_, ?_, hr2⟩
  · unfold f_x_which23
    rw [wh_bits0 (fun p => if skyF nl bh bs pk tb p = 0 then 0 else 1 <<< (Int32.ofNat p &&& 31)) 6 ?_ ?_]
    · rfl
    · intro k hk s
      simp (disch := omega) only [i_add, i_addr, i_addl, i_mul, i_mulr, i_mull, i_lt, i_ltr, i_ltl, i_eq, i_eqr, i_eql, i_clamp, i_neg1, i_lt0, n_lt, n_nlt, n_eq, n_ne, ob_some, tb_inr, tb_inl, o_ite, nar_0, nar_1, nar_ite, if_true, if_false, Nat.reduceAdd, Nat.reduceMul, Nat.reduceSub, x_skiesOf hk hB hP]
    · intro s; rfl
  · unfold f_m_which367
    rw [wh_bits0 (fun p => if skyF nl bh bs pk tb p = 0 then 0 else 1 <<< (Int32.ofNat p &&& 31)) 6 ?_ ?_]
    · rfl
    · intro k hk s
      simp (disch := omega) only [i_add, i_addr, i_addl, i_mul, i_mulr, i_mull, i_lt, i_ltr, i_ltl, i_eq, i_eqr, i_eql, i_clamp, i_neg1, i_lt0, n_lt, n_nlt, n_eq, n_ne, ob_some, tb_inr, tb_inl, o_ite, nar_0, nar_1, nar_ite, if_true, if_false, Nat.reduceAdd, Nat.reduceMul, Nat.reduceSub, m_skiesOf hk (rBook_J hB) (rPat_J hP)]
    · intro s; rfl
set_option maxHeartbeats 1000000 in
theorem op_tries_ok : op_tries rel := by
  intro p q I hr
  have hr0 := hr
  obtain ⟨tn, bl, st, wa, od, tb, pk, ln, ht, nl, bh, bs, nk, ni, wt, u, hS, hD, hP, hL, hB, hK, hT, hC⟩ := hr
  obtain ⟨s1, s2, s3, s4, s5, s6, s7, s8, s9, s10, s11, s12, s13, s14, s15, s16, s17⟩ := hS
  obtain ⟨d1, d2⟩ := hD
  obtain ⟨day, q1, q2, q3, q4, q5⟩ := d2
  have t5 : I 3 5 = Int32.ofNat (tn 0) := s3 0 (by decide)
  have t6 : I 3 6 = Int32.ofNat (tn 1) := s3 1 (by decide)
  have t7 : I 3 7 = Int32.ofNat (tn 2) := s3 2 (by decide)
  have t8 : I 3 8 = Int32.ofNat (tn 3) := s3 3 (by decide)
  have t9 : I 3 9 = Int32.ofNat (tn 4) := s3 4 (by decide)
  have u0 : I 51 0 = Int32.ofNat (tn 0) := s2 0 (by decide)
  have u1 : I 51 1 = Int32.ofNat (tn 1) := s2 1 (by decide)
  have u2 : I 51 2 = Int32.ofNat (tn 2) := s2 2 (by decide)
  have u3 : I 51 3 = Int32.ofNat (tn 3) := s2 3 (by decide)
  have u4 : I 51 4 = Int32.ofNat (tn 4) := s2 4 (by decide)
  have J13 : ∀ w j, w < tn 2 → j < 5 → (ab_up1 I 47 0 0) (94 + w) j = Int32.ofNat (wa w j) := fun w j hw hj => (up_ne (by omega)).trans (s13 w j hw hj)
  have J16 : ∀ o j, o < tn 3 → j < 5 → (ab_up1 I 47 0 0) (120 + o) j = Int32.ofNat (od o j) := fun w j hw hj => (up_ne (by omega)).trans (s16 w j hw hj)
  have J5 : ∀ k, (ab_up1 I 47 0 0) 576 k = I 576 k := fun k => up_ne (by omega)
  obtain ⟨g1, g2, g3, g4, g5, g6⟩ := hP
  have hb : ∀ w, w < tn 2 → wa w 0 < 6 ∧ wa w 1 ≤ wa w 2 ∧ wa w 2 ≤ 11 := fun w hw => ⟨by have := s12 w hw; omega, (s12 w hw).2.1, (s12 w hw).2.2.1⟩
  rcases range_cases p (n := tn 1) (by omega) with ⟨kp, hp, rfl⟩ | hp
  · have hc6 : kp < 6 := by omega
    rcases range_cases q (n := 6) (by decide) with ⟨kq, hq, rfl⟩ | hq
    · by_cases ht : tb.testBit kq = true
      · refine qok0 hr0 (v := fitF (tn 2) (tn 4) wa kp (fun h => I 20 (12 * kq + h))) ?_ ?_
        · unfold f_x_tries179; rw [t6, nE_ok hp (by omega), tb_inr, nP_ok hq, tb_inr, nT_ok g2 g1 hq ht, tb_inr]
          rw [show (12 : Int32) * Int32.ofNat kq = Int32.ofNat (12 * kq) from by simp (disch := omega) only [i_add, i_addr, i_addl, i_mul, i_mulr, i_mull, i_lt, i_ltr, i_ltl, i_eq, i_eqr, i_eql, i_clamp, i_neg1, i_lt0, n_lt, n_nlt, n_eq, n_ne, ob_some, tb_inr, tb_inl, o_ite, nar_0, nar_1, nar_ite, if_true, if_false, Nat.reduceAdd, Nat.reduceMul, Nat.reduceSub], x_fitOf (a := 20) (n := 72) (by omega) t7 t9 hc6 hb s14 rfl (by decide) (by decide) (by omega)]
          rfl
        · unfold f_m_tries343
          rw [mC_ok (I := ab_up1 I 47 0 0) u1 hp (by omega), ob_some, if_neg (by decide), mP_ok hq, ob_some, if_neg (by decide), ob_some, bad_0 up_eq, ob_some, if_pos rfl]
          have e135 : (ab_up1 I 47 0 0) 135 kq = 1 := by rw [up_ne (by omega), g3 kq hq, if_pos ht]
          try dsimp only
          rw [rdb_135 hq, ob_some, e135, if_neg (by decide), ob_some, bad_0 up_eq, ob_some, if_pos rfl, rdp_128 hq, ob_some]
          rw [show f_m_fitOf342 (129 + kq) 0 (Int32.ofNat kp) (ab_up1 I 47 0 0) = _ from m_fitOf (I := ab_up1 I 47 0 0) (a := 129 + kq) (n := 12) (f := 0) (by omega) u2 u4 hc6 hb J13 (KS_128 kq hq) (by omega) (by decide) (by decide), ob_some]
          rw [fitF_congr (fun w hw => (hb w hw).2.2) (r' := fun h => (ab_up1 I 47 0 0) (129 + kq) (0 + h)) (r := fun h => I 20 (12 * kq + h)) (fun k hk => by
            rw [g6 kq k hq hk, Nat.zero_add, up_ne (by omega), g5 kq k hq hk])]
      · refine qref (E := 2) (w := 2) (by decide) hr0 ?_ ?_ (Or.inr ⟨rfl, rfl⟩)
        · unfold f_x_tries179; rw [t6, nE_ok hp (by omega), tb_inr, nP_ok hq, tb_inr, nT_no g2 g1 hq ht]
          rfl
        · unfold f_m_tries343
          rw [mC_ok (I := ab_up1 (ab_up1 I 0 (14 + 2) (I 0 (14 + 2) + 1)) 47 0 0) u1 hp (by omega), ob_some, if_neg (by decide), mP_ok hq, ob_some, if_neg (by decide), ob_some, bad_0 up_eq, ob_some, if_pos rfl]
          have e135 : (ab_up1 (ab_up1 I 0 (14 + 2) (I 0 (14 + 2) + 1)) 47 0 0) 135 kq = 0 := by rw [up_ne (by omega), up_ne (by omega), g3 kq hq, if_neg ht]
          try dsimp only
          rw [rdb_135 hq, ob_some, e135, if_pos rfl, ob_some, show f_m_bad268 1 2 2 _ = _ from bad_ref (E := 2) (by decide) (by decide)]
          rfl
    · refine qref (E := 0) (w := 1) (by decide) hr0 ?_ ?_ (Or.inl ⟨rfl, rfl⟩)
      · unfold f_x_tries179; rw [t6, nE_ok hp (by omega), tb_inr, nP_no hq]
        rfl
      · unfold f_m_tries343
        rw [mC_ok (I := ab_up1 (ab_up1 I 0 (14 + 0) (I 0 (14 + 0) + 1)) 47 0 0) u1 hp (by omega), ob_some, if_neg (by decide), mP_no hq, ob_some, if_pos rfl, ob_some, show f_m_bad268 1 1 0 _ = _ from bad_ref (E := 0) (by decide) (by decide)]
        rfl
  · refine qref (E := 0) (w := 1) (by decide) hr0 ?_ ?_ (Or.inl ⟨rfl, rfl⟩)
    · unfold f_x_tries179; rw [t6, nE_no hp]
      rfl
    · unfold f_m_tries343
      rw [mC_no (I := ab_up1 (ab_up1 I 0 (14 + 0) (I 0 (14 + 0) + 1)) 47 0 0) u1 (by omega) hp, ob_some, if_pos rfl, ob_some, show f_m_bad268 1 1 0 _ = _ from bad_ref (E := 0) (by decide) (by decide)]
      rfl