/-! cloth -/
theorem sm_zero {t : Nat → Int32} : ∀ {n : Nat}, (∀ k, k < n → t k = 0) → sm t n = 0
  | 0, _ => rfl
  | n + 1, h => by
    show sm t n + t n = 0
    rw [sm_zero (fun k hk => h k (by omega)), h n (by omega)]
    rfl
/-- a loop that is left at once -/
theorem wh_dead {f : Int32 × Int32 → Option ((Int32 × Int32) ⊕ Int32)} {s : Int32} (h : f (s, (0 : Int32)) = some (.inr s)) : wh f (s, (0 : Int32)) = some s := wh_inr h
theorem ite_same2 {α : Type} {c : Prop} [Decidable c] {a b : α} (h : a = b) : (if c then a else b) = b := by
  by_cases hc : c
  · rw [if_pos hc, h]
  · rw [if_neg hc]
set_option maxHeartbeats 2000000 in
theorem op_cloth_ok : op_cloth rel := by
  intro p q I hr
  have hr0 := hr
  obtain ⟨tn, bl, st, wa, od, tb, pk, ln, ht, nl, bh, bs, nk, ni, wt, u, hS, hD, hP, hL, hB, hK, hT, hC⟩ := hr
  obtain ⟨s1, s2, s3, s4, s5, s6, s7, s8, s9, s10, s11, s12, s13, s14, s15, s16, s17⟩ := hS
  obtain ⟨d1, d2⟩ := hD
  obtain ⟨day, q1, q2, q3, q4, q5⟩ := d2
  have t5 : I 3 5 = Int32.ofNat (tn 0) := s3 0 (by decide)
  have t6 : I 3 6 = Int32.ofNat (tn 1) := s3 1 (by decide)
  have t7 : I 3 7 = Int32.ofNat (tn 2) := s3 2 (by decide)
  have t8 : I 3 8 = Int32.ofNat (tn 3) := s3 3 (by decide)
  have t9 : I 3 9 = Int32.ofNat (tn 4) := s3 4 (by decide)
  have u0 : I 51 0 = Int32.ofNat (tn 0) := s2 0 (by decide)
  have u1 : I 51 1 = Int32.ofNat (tn 1) := s2 1 (by decide)
  have u2 : I 51 2 = Int32.ofNat (tn 2) := s2 2 (by decide)
  have u3 : I 51 3 = Int32.ofNat (tn 3) := s2 3 (by decide)
  have u4 : I 51 4 = Int32.ofNat (tn 4) := s2 4 (by decide)
  have J13 : ∀ w j, w < tn 2 → j < 5 → (ab_up1 I 47 0 0) (94 + w) j = Int32.ofNat (wa w j) := fun w j hw hj => (up_ne (by omega)).trans (s13 w j hw hj)
  have J16 : ∀ o j, o < tn 3 → j < 5 → (ab_up1 I 47 0 0) (120 + o) j = Int32.ofNat (od o j) := fun w j hw hj => (up_ne (by omega)).trans (s16 w j hw hj)
  have J5 : ∀ k, (ab_up1 I 47 0 0) 576 k = I 576 k := fun k => up_ne (by omega)
  obtain ⟨g1, g2, g3, g4, g5, g6⟩ := hP
  have v0 : (ab_up1 I 47 0 0) 51 0 = Int32.ofNat (tn 0) := u0
  have v1 : (ab_up1 I 47 0 0) 51 1 = Int32.ofNat (tn 1) := u1
  have v3 : (ab_up1 I 47 0 0) 51 3 = Int32.ofNat (tn 3) := u3
  have cells : ∀ c, c < 6 → ∀ h, h < 12 → I 16 (19 + 12 * c + h) = I 576 (10 + 12 * c + h) := by
    intro c hc h hh
    have := stE_suit d1 (j := 12 * c + h) (by omega)
    rw [show 19 + 12 * c + h = 19 + (12 * c + h) by omega, show 10 + 12 * c + h = 10 + (12 * c + h) by omega]
    exact this
  rcases range_cases p (n := 6) (by decide) with ⟨k, hk, rfl⟩ | hp
  · rcases range_cases q (n := 3) (by decide) with ⟨w, hw, rfl⟩ | hq
    · match w, hw with
      | 0, hw =>
        refine qok0 hr0 (v := sm (fun b => if Int32.ofNat (bl b 0) = Int32.ofNat k then I 576 b else 0) (tn 0)) ?_ ?_
        · unfold f_x_cloth166; rw [show f_x_needWithin38 (Int32.ofNat k) 0 5 I = _ from nW_ok (n := 5) hk (by decide), tb_inr, show f_x_needWithin38 (Int32.ofNat 0) 0 2 I = _ from nW_ok (n := 2) hw (by decide), tb_inr]
          show Option.bind (f_x_clothOnBolts167 (Int32.ofNat k) I) _ = _
          unfold f_x_clothOnBolts167
          rw [wh_sum0 (fun b => if Int32.ofNat (bl b 0) = Int32.ofNat k then I 576 b else 0) (tn 0) ?_ ?_]
          · rfl
          · intro b hb s
            have c := s7 b hb
            simp (disch := omega) only [i_add, i_addr, i_addl, i_mul, i_mulr, i_mull, i_lt, i_ltr, i_ltl, i_eq, i_eqr, i_eql, i_clamp, i_neg1, i_lt0, n_lt, n_nlt, n_eq, n_ne, ob_some, tb_inr, tb_inl, o_ite, nar_0, nar_1, nar_ite, if_true, if_false, Nat.reduceAdd, Nat.reduceMul, Nat.reduceSub, t5, f_sho_boltKind147, at_4, c, f_sta_leftOn143, at_16, stE_left d1 (show b < 10 by omega)]
          · intro s
            exact if_neg (by rw [t5]; exact Int32.lt_irrefl)
        · unfold f_m_cloth338; rw [show f_m_in264 (Int32.ofNat k) 0 5 _ = _ from in_ok (n := 5) hk (by decide), ob_some, if_neg (by decide), show f_m_in264 (Int32.ofNat 0) 0 2 _ = _ from in_ok (n := 2) hw (by decide), ob_some, if_neg (by decide), ob_some, bad_0 up_eq, ob_some, if_pos rfl]
          dsimp only
          rw [wh_sum0 (fun b => if Int32.ofNat (bl b 0) = Int32.ofNat k then I 576 b else 0) (tn 0) ?_ ?_, ob_some, wh_dead, ob_some, wh_dead, ob_some]
          · exact ite_same2 rfl
          · exact ite_same2 rfl
          · intro b hb s
            have c : (ab_up1 I 47 0 0) (66 + b) 0 = Int32.ofNat (bl b 0) := (up_ne (by omega)).trans (s5 b hb)
            dsimp only
            rw [if_pos (by rw [v0, i_lt (by omega) (by omega)]; exact hb), if_pos (show Int32.ofNat 0 = (0 : Int32) from rfl), rdp_65 (by omega), ob_some, show rd (ab_up1 I 47 0 0) (66 + b) 0 = some ((ab_up1 I 47 0 0) (66 + b) 0) from rdr_65 (w := b) (k := 0) (by omega) (by decide), ob_some, c]
            simp (disch := omega) only [i_add, i_addr, i_addl, i_mul, i_mulr, i_mull, i_lt, i_ltr, i_ltl, i_eq, i_eqr, i_eql, i_clamp, i_neg1, i_lt0, n_lt, n_nlt, n_eq, n_ne, ob_some, tb_inr, tb_inl, o_ite, nar_0, nar_1, nar_ite, if_true, if_false, Nat.reduceAdd, Nat.reduceMul, Nat.reduceSub, rd_576, J5, Nat.zero_add]
          · intro s
            exact if_neg (by rw [v0]; exact Int32.lt_irrefl)
      | 1, hw =>
        refine qok0 hr0 (v := sm (fun c => if I 576 (82 + c) = -1 then 0 else hoursF (fun h => I 576 (10 + 12 * c + h)) (Int32.ofNat k)) (tn 1)) ?_ ?_
        · unfold f_x_cloth166; rw [show f_x_needWithin38 (Int32.ofNat k) 0 5 I = _ from nW_ok (n := 5) hk (by decide), tb_inr, show f_x_needWithin38 (Int32.ofNat 1) 0 2 I = _ from nW_ok (n := 2) hw (by decide), tb_inr]
          show Option.bind (Option.bind (f_x_clothInSuits168 (Int32.ofNat k) I) _) _ = _
          unfold f_x_clothInSuits168
          rw [wh_sum0 (fun c => if I 576 (82 + c) = -1 then 0 else hoursF (fun h => I 576 (10 + 12 * c + h)) (Int32.ofNat k)) (tn 1) ?_ ?_]
          · rfl
          · intro c hc s
            have c6 : c < 6 := by omega
            have sx : f_sta_suitAt114 15 (Int32.ofNat c) I = some (Int32.ofNat (19 + 12 * c)) := by
              unfold f_sta_suitAt114
              simp (disch := omega) only [i_add, i_addr, i_addl, i_mul, i_mulr, i_mull, i_lt, i_ltr, i_ltl, i_eq, i_eqr, i_eql, i_clamp, i_neg1, i_lt0, n_lt, n_nlt, n_eq, n_ne, ob_some, tb_inr, tb_inl, o_ite, nar_0, nar_1, nar_ite, if_true, if_false, Nat.reduceAdd, Nat.reduceMul, Nat.reduceSub]
            dsimp only
            rw [if_pos (by rw [t6, i_lt (by omega) (by omega)]; exact hc), x_hasSuit (t := 15) rfl (by decide) c6, ob_some, stE_cut d1 c6]
            by_cases hs : I 576 (82 + c) = -1
            · rw [if_pos hs, if_pos hs, if_pos rfl, ob_some]
              exact congrArg some (congrArg Sum.inl (Prod.ext rfl (i_addr (n := 1))))
            · rw [if_neg hs, if_neg hs, if_neg (by decide), sx, ob_some, x_hoursOf (a := 16) (n := 91) rfl (by decide) (by decide) (by omega), ob_some, ob_some, hoursF_congr (cells c c6)]
              exact congrArg some (congrArg Sum.inl (Prod.ext rfl (i_addr (n := 1))))
          · intro s
            exact if_neg (by rw [t6]; exact Int32.lt_irrefl)
        · unfold f_m_cloth338; rw [show f_m_in264 (Int32.ofNat k) 0 5 _ = _ from in_ok (n := 5) hk (by decide), ob_some, if_neg (by decide), show f_m_in264 (Int32.ofNat 1) 0 2 _ = _ from in_ok (n := 2) hw (by decide), ob_some, if_neg (by decide), ob_some, bad_0 up_eq, ob_some, if_pos rfl]
          dsimp only
          rw [wh_dead, ob_some, wh_sum0 (fun c => if I 576 (82 + c) = -1 then 0 else hoursF (fun h => I 576 (10 + 12 * c + h)) (Int32.ofNat k)) (tn 1) ?_ ?_, ob_some, wh_dead, ob_some]
          · exact ite_same2 rfl
          · intro c hc s
            have c6 : c < 6 := by omega
            dsimp only
            rw [if_pos (by rw [v1, i_lt (by omega) (by omega)]; exact hc), if_pos (show Int32.ofNat 1 = (1 : Int32) from rfl)]
            rw [wh_sumS s (fun h => if I 576 (82 + c) = -1 then 0 else if I 576 (10 + 12 * c + h) = Int32.ofNat k then 1 else 0) 12 ?_ ?_]
            · rw [ob_some]
              refine congrArg some (congrArg Sum.inl (Prod.ext ?_ (i_addr (n := 1))))
              dsimp only
              by_cases hs : I 576 (82 + c) = -1
              · rw [if_pos hs, sm_zero (fun h _ => if_pos hs)]
              · rw [if_neg hs]
                unfold hoursF
                rw [sm_congr (fun h _ => if_neg hs)]
            · intro h hh s2
              dsimp only
              rw [if_pos (by rw [i_ltr (by omega) (by decide)]; exact hh), m_hasSuit (I := ab_up1 I 47 0 0) (a := 576) (n := 91) rfl (by decide) (by decide) c6, ob_some, J5]
              by_cases hs : I 576 (82 + c) = -1
              · rw [if_pos hs, if_pos hs, if_pos rfl, ob_some]
                exact congrArg some (congrArg Sum.inl (Prod.ext rfl (i_addr (n := 1))))
              · rw [if_neg hs, if_neg hs, if_neg (by decide)]
                simp (disch := omega) only [i_add, i_addr, i_addl, i_mul, i_mulr, i_mull, i_lt, i_ltr, i_ltl, i_eq, i_eqr, i_eql, i_clamp, i_neg1, i_lt0, n_lt, n_nlt, n_eq, n_ne, ob_some, tb_inr, tb_inl, o_ite, nar_0, nar_1, nar_ite, if_true, if_false, Nat.reduceAdd, Nat.reduceMul, Nat.reduceSub, f_m_suitOf310, rd_576, J5]
            · intro s2; rfl
          · intro s
            exact if_neg (by rw [v1]; exact Int32.lt_irrefl)
          · exact ite_same2 rfl
      | 2, hw =>
        refine qok0 hr0 (v := sm (fun o => if stF (I 576 88) (I 576 89) (od o 2) o = 0 then (if tb.testBit (od o 1) = true then hoursF (fun h => Int32.ofNat (pk (od o 1) h)) (Int32.ofNat k) else 0) else 0) (tn 3)) ?_ ?_
        · unfold f_x_cloth166; rw [show f_x_needWithin38 (Int32.ofNat k) 0 5 I = _ from nW_ok (n := 5) hk (by decide), tb_inr, show f_x_needWithin38 (Int32.ofNat 2) 0 2 I = _ from nW_ok (n := 2) hw (by decide), tb_inr]
          show Option.bind (Option.bind (f_x_clothInOrders169 (Int32.ofNat k) I) _) _ = _
          unfold f_x_clothInOrders169
          rw [wh_sum0 (fun o => if stF (I 576 88) (I 576 89) (od o 2) o = 0 then (if tb.testBit (od o 1) = true then hoursF (fun h => Int32.ofNat (pk (od o 1) h)) (Int32.ofNat k) else 0) else 0) (tn 3) ?_ ?_]
          · rfl
          · intro c hc s
            have b := s15 c hc
            have p1 : f_sho_orderPart123 (Int32.ofNat c) 1 I = _ := x_orderPart (j := 1) hc (by omega) (by decide) s17
            dsimp only
            rw [if_pos (by rw [t8, i_lt (by omega) (by omega)]; exact hc), p1, ob_some, x_stateOf hc (by omega) s17, ob_some, stE_sold d1, stE_day d1]
            by_cases h1 : stF (I 576 88) (I 576 89) (od c 2) c = 0
            · rw [if_pos h1, if_pos h1, x_isTold g2 g1 b.2.1, ob_some]
              by_cases h2 : tb.testBit (od c 1) = true
              · rw [if_pos h2, if_pos h2, if_neg (by decide), show (12 : Int32) * Int32.ofNat (od c 1) = Int32.ofNat (12 * od c 1) from by simp (disch := omega) only [i_add, i_addr, i_addl, i_mul, i_mulr, i_mull, i_lt, i_ltr, i_ltl, i_eq, i_eqr, i_eql, i_clamp, i_neg1, i_lt0, n_lt, n_nlt, n_eq, n_ne, ob_some, tb_inr, tb_inl, o_ite, nar_0, nar_1, nar_ite, if_true, if_false, Nat.reduceAdd, Nat.reduceMul, Nat.reduceSub], x_hoursOf (a := 20) (n := 72) rfl (by decide) (by decide) (by omega), ob_some, ob_some, hoursF_congr (fun h hh => g6 (od c 1) h b.2.1 hh)]
                exact congrArg some (congrArg Sum.inl (Prod.ext rfl (i_addr (n := 1))))
              · rw [if_neg h2, if_neg h2, if_pos rfl, ob_some, Int32.add_zero]
                exact congrArg some (congrArg Sum.inl (Prod.ext rfl (i_addr (n := 1))))
            · rw [if_neg h1, if_neg h1, ob_some, Int32.add_zero]
              exact congrArg some (congrArg Sum.inl (Prod.ext rfl (i_addr (n := 1))))
          · intro s
            exact if_neg (by rw [t8]; exact Int32.lt_irrefl)
        · unfold f_m_cloth338; rw [show f_m_in264 (Int32.ofNat k) 0 5 _ = _ from in_ok (n := 5) hk (by decide), ob_some, if_neg (by decide), show f_m_in264 (Int32.ofNat 2) 0 2 _ = _ from in_ok (n := 2) hw (by decide), ob_some, if_neg (by decide), ob_some, bad_0 up_eq, ob_some, if_pos rfl]
          dsimp only
          rw [wh_dead, ob_some, wh_dead, ob_some, wh_sum0 (fun o => if stF (I 576 88) (I 576 89) (od o 2) o = 0 then (if tb.testBit (od o 1) = true then hoursF (fun h => Int32.ofNat (pk (od o 1) h)) (Int32.ofNat k) else 0) else 0) (tn 3) ?_ ?_, ob_some]
          · intro c hc s
            have b := s15 c hc
            have r1 : rd (ab_up1 I 47 0 0) (120 + c) 1 = some (Int32.ofNat (od c 1)) := by
              rw [show rd (ab_up1 I 47 0 0) (120 + c) 1 = some ((ab_up1 I 47 0 0) (120 + c) 1) from rdr_119 (w := c) (k := 1) (by omega) (by decide), J16 c 1 hc (by decide)]
            have e135 : (ab_up1 I 47 0 0) 135 (od c 1) = if tb.testBit (od c 1) then 1 else 0 := (up_ne (by omega)).trans (g3 _ b.2.1)
            dsimp only
            rw [if_pos (by rw [v3, i_lt (by omega) (by omega)]; exact hc), if_pos (show Int32.ofNat 2 = (2 : Int32) from rfl)]
            rw [wh_sumS s (fun h => if stF (I 576 88) (I 576 89) (od c 2) c = 0 then (if tb.testBit (od c 1) = true then (if Int32.ofNat (pk (od c 1) h) = Int32.ofNat k then 1 else 0) else 0) else 0) 12 ?_ ?_]
            · rw [ob_some]
              refine congrArg some (congrArg Sum.inl (Prod.ext ?_ (i_addr (n := 1))))
              dsimp only
              by_cases h1 : stF (I 576 88) (I 576 89) (od c 2) c = 0
              · by_cases h2 : tb.testBit (od c 1) = true
                · rw [if_pos h1, if_pos h2]
                  unfold hoursF
                  rw [sm_congr (fun h _ => (if_pos h1).trans (if_pos h2))]
                · rw [if_pos h1, if_neg h2, sm_zero (fun h _ => (if_pos h1).trans (if_neg h2))]
              · rw [if_neg h1, sm_zero (fun h _ => if_neg h1)]
            · intro h hh s2
              have ek : (ab_up1 I 47 0 0) (129 + od c 1) h = Int32.ofNat (pk (od c 1) h) := (up_ne (by omega)).trans (g5 _ h b.2.1 hh)
              dsimp only
              rw [if_pos (by rw [i_ltr (by omega) (by decide)]; exact hh), m_stateOf (I := ab_up1 I 47 0 0) (a := 576) (n := 91) hc (by omega) J16 rfl (by decide) (by decide), ob_some, J5, J5]
              by_cases h1 : stF (I 576 88) (I 576 89) (od c 2) c = 0
              · rw [if_pos h1, if_pos h1, rdp_119 (by omega), ob_some, r1, ob_some, rdb_135 b.2.1, ob_some, e135]
                by_cases h2 : tb.testBit (od c 1) = true
                · rw [if_pos h2, if_pos h2, if_neg (by decide), ob_some, r1, ob_some, rdp_128 b.2.1, ob_some, rdr_128 b.2.1 hh, ob_some, ek, o_ite, ob_some]
                  exact congrArg some (congrArg Sum.inl (Prod.ext rfl (i_addr (n := 1))))
                · rw [if_neg h2, if_neg h2, if_pos rfl, ob_some]
                  exact congrArg some (congrArg Sum.inl (Prod.ext rfl (i_addr (n := 1))))
              · rw [if_neg h1, if_neg h1, ob_some]
                exact congrArg some (congrArg Sum.inl (Prod.ext rfl (i_addr (n := 1))))
            · intro s2; rfl
          · intro s
            exact if_neg (by rw [v3]; exact Int32.lt_irrefl)
          · exact ite_same2 rfl
          · exact ite_same2 rfl
    · refine qref (E := 1) (w := 1) (by decide) hr0 ?_ ?_ (Or.inl ⟨rfl, rfl⟩)
      · unfold f_x_cloth166
        rw [show f_x_needWithin38 (Int32.ofNat k) 0 5 I = _ from nW_ok (n := 5) hk (by decide), tb_inr, show f_x_needWithin38 q 0 2 I = _ from nW_no (n := 2) (by decide) hq]
        rfl
      · unfold f_m_cloth338
        rw [show f_m_in264 (Int32.ofNat k) 0 5 _ = _ from in_ok (n := 5) hk (by decide), ob_some, if_neg (by decide), show f_m_in264 q 0 2 _ = _ from in_no (n := 2) (by decide) hq, ob_some, if_pos rfl, ob_some, show f_m_bad268 1 1 1 _ = _ from bad_ref (E := 1) (by decide) (by decide)]
        rfl
  · refine qref (E := 1) (w := 1) (by decide) hr0 ?_ ?_ (Or.inl ⟨rfl, rfl⟩)
    · unfold f_x_cloth166
      rw [show f_x_needWithin38 p 0 5 I = _ from nW_no (n := 5) (by decide) hp]
      rfl
    · unfold f_m_cloth338
      rw [show f_m_in264 p 0 5 _ = _ from in_no (n := 5) (by decide) hp, ob_some, if_pos rfl, ob_some, show f_m_bad268 1 1 1 _ = _ from bad_ref (E := 1) (by decide) (by decide)]
      rfl