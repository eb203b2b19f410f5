/-! clashes -/
set_option maxHeartbeats 1000000 in
theorem op_clashes_ok : op_clashes rel := by
  intro p I hr
  have hr0 := hr
  obtain ⟨tn, bl, st, wa, od, tb, pk, ln, ht, nl, bh, bs, nk, ni, wt, u, hS, hD, hP, hL, hB, hK, hT, hC⟩ := hr
  obtain ⟨s1, s2, s3, s4, s5, s6, s7, s8, s9, s10, s11, s12, s13, s14, s15, s16, s17⟩ := hS
  obtain ⟨d1, d2⟩ := hD
  obtain ⟨day, q1, q2, q3, q4, q5⟩ := d2
  have t5 : I 3 5 = Int32.ofNat (tn 0) := s3 0 (by decide)
  have t6 : I 3 6 = Int32.ofNat (tn 1) := s3 1 (by decide)
  have t7 : I 3 7 = Int32.ofNat (tn 2) := s3 2 (by decide)
  have t8 : I 3 8 = Int32.ofNat (tn 3) := s3 3 (by decide)
  have t9 : I 3 9 = Int32.ofNat (tn 4) := s3 4 (by decide)
  have u0 : I 51 0 = Int32.ofNat (tn 0) := s2 0 (by decide)
  have u1 : I 51 1 = Int32.ofNat (tn 1) := s2 1 (by decide)
  have u2 : I 51 2 = Int32.ofNat (tn 2) := s2 2 (by decide)
  have u3 : I 51 3 = Int32.ofNat (tn 3) := s2 3 (by decide)
  have u4 : I 51 4 = Int32.ofNat (tn 4) := s2 4 (by decide)
  have J13 : ∀ w j, w < tn 2 → j < 5 → (ab_up1 I 47 0 0) (94 + w) j = Int32.ofNat (wa w j) := fun w j hw hj => (up_ne (by omega)).trans (s13 w j hw hj)
  have J16 : ∀ o j, o < tn 3 → j < 5 → (ab_up1 I 47 0 0) (120 + o) j = Int32.ofNat (od o j) := fun w j hw hj => (up_ne (by omega)).trans (s16 w j hw hj)
  have J5 : ∀ k, (ab_up1 I 47 0 0) 576 k = I 576 k := fun k => up_ne (by omega)
  rcases range_cases p (n := tn 1) (by omega) with ⟨kp, hp, rfl⟩ | hp
  · skip
    have hw3 : ∀ w, w < tn 2 → wa w 1 ≤ 11 ∧ wa w 2 ≤ 11 ∧ wa w 3 < 6 := fun w hw => by have := s12 w hw; omega
    have v2 : (ab_up1 I 47 0 0) 51 2 = Int32.ofNat (tn 2) := u2
    refine qok0 hr0 (v := sm (fun i => sm (fun j => if wa i 0 = kp then (if wa (i + 1 + j) 0 = kp then clF wa i (i + 1 + j) else 0) else 0) (tn 2 - (i + 1))) (tn 2)) ?_ ?_
    · unfold f_x_clashes194; rw [t6, nE_ok hp (by omega), tb_inr]
      rw [x_wantsOf (by omega) t7 s14, ob_some, x_clashesAmong (nw := tn 2) (wa := wa) (P := fun w => wa w 0 = kp) (d := fun w => inferInstance) (by omega) t7 hw3 s14 (fun w hw => by
        rw [bitF_bo (P := fun w => Int32.ofNat (wa w 0) = Int32.ofNat kp) (d := fun w => inferInstance) (by omega) (by omega)]
        have c := s12 w hw
        have e : (Int32.ofNat (wa w 0) = Int32.ofNat kp) = (wa w 0 = kp) := i_eq (by omega) (by omega)
        simp only [e, hw, true_and])]
      rfl
    · rw [sm_twos (fun a b => if wa a 0 = kp then (if wa b 0 = kp then clF wa a b else 0) else 0)]
      unfold f_m_clashes349; rw [mC_ok (I := ab_up1 I 47 0 0) u1 hp (by omega), ob_some, if_neg (by decide), ob_some, bad_0 up_eq, ob_some, if_pos rfl]; try dsimp only
      rw [wh_sum0 (fun a => sm (fun b => if wa b 0 = kp then (if wa a 0 = kp then clF wa b a else 0) else 0) a) (tn 2) ?_ ?_]
      · rfl
      · intro a ha s
        dsimp only
        rw [if_pos (by rw [v2, i_lt (by omega) (by omega)]; exact ha)]
        rw [wh_sumS s (fun b => if wa b 0 = kp then (if wa a 0 = kp then clF wa b a else 0) else 0) a ?_ ?_]
        · exact congrArg some (congrArg Sum.inl (Prod.ext rfl (i_addr (n := 1))))
        · intro b hb s'
          have hb2 : b < tn 2 := by omega
          have ca := s12 a ha
          have cb := s12 b hb2
          dsimp only
          rw [if_pos (by rw [i_lt (by omega) (by omega)]; exact hb), rdp_93 (by omega), ob_some, show rd (ab_up1 I 47 0 0) (94 + a) 0 = some ((ab_up1 I 47 0 0) (94 + a) 0) from rdr_93 (w := a) (k := 0) (by omega) (by decide), ob_some, J13 a 0 ha (by decide), rdp_93 (by omega), ob_some, show rd (ab_up1 I 47 0 0) (94 + b) 0 = some ((ab_up1 I 47 0 0) (94 + b) 0) from rdr_93 (w := b) (k := 0) (by omega) (by decide), ob_some, J13 b 0 hb2 (by decide), m_isClash (I := ab_up1 I 47 0 0) (nw := tn 2) (by omega) ha hb2 hw3 J13, clF_comm wa b a]
          have e1 : (Int32.ofNat (wa a 0) = Int32.ofNat kp) = (wa a 0 = kp) := i_eq (by omega) (by omega)
          have e2 : (Int32.ofNat (wa b 0) = Int32.ofNat kp) = (wa b 0 = kp) := i_eq (by omega) (by omega)
          by_cases h1 : wa a 0 = kp
          · by_cases h2 : wa b 0 = kp
            · rcases clF_01 wa a b with h3 | h3
              · simp only [e1, e2, h1, h2, h3, if_true, ob_some]
                exact congrArg some (congrArg Sum.inl (Prod.ext rfl (i_addr (n := 1))))
              · simp only [e1, e2, h1, h2, h3, if_true, ob_some]
                exact congrArg some (congrArg Sum.inl (Prod.ext rfl (i_addr (n := 1))))
            · simp only [e1, e2, h1, h2, if_true, if_false, ob_some]
              exact congrArg some (congrArg Sum.inl (Prod.ext rfl (i_addr (n := 1))))
          · by_cases h2 : wa b 0 = kp
            · simp only [e1, h1, h2, if_true, if_false, ob_some]
              exact congrArg some (congrArg Sum.inl (Prod.ext rfl (i_addr (n := 1))))
            · simp only [e1, h1, h2, if_false, ob_some]
              exact congrArg some (congrArg Sum.inl (Prod.ext rfl (i_addr (n := 1))))
        · intro s'
          exact if_neg Int32.lt_irrefl
      · intro s
        exact if_neg (by rw [v2]; exact Int32.lt_irrefl)
  · refine qref (E := 0) (w := 1) (by decide) hr0 ?_ ?_ (Or.inl ⟨rfl, rfl⟩)
    · unfold f_x_clashes194
      rw [t6, nE_no hp]
      rfl
    · unfold f_m_clashes349
      rw [mC_no (I := ab_up1 (ab_up1 I 0 (14 + 0) (I 0 (14 + 0) + 1)) 47 0 0) u1 (by omega) hp, ob_some, if_pos rfl, ob_some, show f_m_bad268 1 1 0 _ = _ from bad_ref (E := 0) (by decide) (by decide)]
      rfl
