/-! calls that only read -/
theorem op_fault_ok : op_fault rel := by
  intro I hr
  refine ⟨I 1 6, ab_up1 I 47 0 0, rfl, ?_, rel_agr hr (agr_up agr_rf rfl)⟩
  rw [(rel_cnt hr).2.2.2.2]
  rfl
theorem op_status_ok : op_status rel := by
  intro p I hr
  obtain ⟨c1, c2, c3, c4, c5⟩ := rel_cnt hr
  have hr2 : rel (ab_up1 I 47 0 0) := rel_agr hr (agr_up agr_rf rfl)
  rcases range_cases p (n := 3) (by decide) with ⟨k, hk, rfl⟩ | hp
  · have hm : f_m_status384 (Int32.ofNat k) I = some (I 49 k, ab_up1 I 47 0 0) := by
      unfold f_m_status384
      rw [show f_m_in264 (Int32.ofNat k) 0 2 (ab_up1 I 47 0 0) = _ from in_ok (n := 2) hk (by decide), ob_some, if_neg (by decide), rd_49 hk, up_ne (by omega)]
      rfl
    refine ⟨I 49 k, ab_up1 I 47 0 0, ?_, hm, hr2⟩
    match k, hk with
    | 0, _ => show some (I 0 14) = _; rw [c2]
    | 1, _ => show some (I 0 15) = _; rw [c3]
    | 2, _ => show some (I 0 16) = _; rw [c4]
  · refine ⟨-1, ab_up1 I 47 0 0, ?_, ?_, hr2⟩
    · unfold f_x_status33
      rw [if_neg, if_neg, if_neg]
      all_goals
        rintro rfl
        exact absurd hp (by decide)
    · unfold f_m_status384
      rw [show f_m_in264 p 0 2 (ab_up1 I 47 0 0) = _ from in_no (n := 2) (by decide) hp]
      rfl
theorem op_count_ok : op_count rel := by
  intro p I hr
  have hr2 : rel (ab_up1 I 47 0 0) := rel_agr hr (agr_up agr_rf rfl)
  obtain ⟨tn, bo, st, wa, od, tb, pk, ln, ht, nl, bh, bs, nk, ni, wt, u, hS, hD, hP, hL, hB, hK, hT, hC⟩ := hr
  have e1 : I 31 4 = I 47 42 := hK.2.2.2.2.2.1.trans hK.2.2.2.2.2.2.1.symm
  have e2 : I 1 1 = I 47 1 := hT.2.1.trans hT.2.2.1.symm
  have e3 : I 31 3 = I 47 40 := hK.2.1.trans hK.2.2.1.symm
  refine ⟨if p = 0 then I 47 42 else if p = 1 then I 47 1 else if p = 2 then I 47 40 else -1, ab_up1 I 47 0 0, ?_, ?_, hr2⟩
  · unfold f_x_count34
    rw [e1, e2, e3]
    simp only [o_ite]
  · unfold f_m_count385
    simp only [o_ite, ob_some]
theorem op_told_ok : op_told rel := by
  intro p I hr
  rcases range_cases p (n := 10) (by decide) with ⟨k, hk, rfl⟩ | hp
  · have hr0 := hr
    obtain ⟨c1, c2, c3, c4, c5⟩ := rel_cnt hr
    obtain ⟨tn, bo, st, wa, od, tb, pk, ln, ht, nl, bh, bs, nk, ni, wt, u, hS, hD, hP, hL, hB, hK, hT, hC⟩ := hr
    obtain ⟨s1, s2, s3, s4, s5, s6, s7, s8, s9, s10, s11, s12, s13, s14, s15, s16, s17⟩ := hS
    obtain ⟨d1, d2⟩ := hD
    have hx : f_x_needWithin38 (Int32.ofNat k) 0 9 I = _ := nW_ok (n := 9) hk (by decide)
    have hi : f_m_in264 (Int32.ofNat k) 0 9 (ab_up1 I 47 0 0) = _ := in_ok (n := 9) hk (by decide)
    have hb : f_m_bad268 0 1 1 (ab_up1 I 47 0 0) = _ := bad_0 up_eq
    obtain ⟨day, q1, q2, q3, q4, q5⟩ := d2
    match k, hk with
    | 0, _ => exact qok0 hr0 (v := I 3 5) (by unfold f_x_told141; rw [hx, tb_inr]; rfl) (by unfold f_m_told324; rw [hi, ob_some, if_neg (by decide), ob_some, hb, ob_some, if_pos rfl]; rw [s3 0 (by decide), ← s2 0 (by decide)]; rfl)
    | 1, _ => exact qok0 hr0 (v := I 3 6) (by unfold f_x_told141; rw [hx, tb_inr]; rfl) (by unfold f_m_told324; rw [hi, ob_some, if_neg (by decide), ob_some, hb, ob_some, if_pos rfl]; rw [s3 1 (by decide), ← s2 1 (by decide)]; rfl)
    | 2, _ => exact qok0 hr0 (v := I 3 7) (by unfold f_x_told141; rw [hx, tb_inr]; rfl) (by unfold f_m_told324; rw [hi, ob_some, if_neg (by decide), ob_some, hb, ob_some, if_pos rfl]; rw [s3 2 (by decide), ← s2 2 (by decide)]; rfl)
    | 3, _ => exact qok0 hr0 (v := I 3 8) (by unfold f_x_told141; rw [hx, tb_inr]; rfl) (by unfold f_m_told324; rw [hi, ob_some, if_neg (by decide), ob_some, hb, ob_some, if_pos rfl]; rw [s3 3 (by decide), ← s2 3 (by decide)]; rfl)
    | 4, _ => exact qok0 hr0 (v := I 16 0) (by unfold f_x_told141; rw [hx, tb_inr]; rfl) (by unfold f_m_told324; rw [hi, ob_some, if_neg (by decide), ob_some, hb, ob_some, if_pos rfl]; rw [stE_day d1]; rfl)
    | 5, _ => exact qok0 hr0 (v := I 16 1) (by unfold f_x_told141; rw [hx, tb_inr]; rfl) (by unfold f_m_told324; rw [hi, ob_some, if_neg (by decide), ob_some, hb, ob_some, if_pos rfl]; rw [stE_pence d1]; rfl)
    | 6, _ =>
      refine qok0 hr0 (v := sm (fun b => I 16 (9 + b)) 10) ?_ ?_
      · unfold f_x_told141; rw [hx, tb_inr]
        show Option.bind (f_sta_hoursLeft142 15 I) _ = _
        rw [x_hoursLeft (t := 15) rfl (by decide)]
        rfl
      · unfold f_m_told324; rw [hi, ob_some, if_neg (by decide), ob_some, hb, ob_some, if_pos rfl]
        show Option.bind (f_m_onBolts325 576 (ab_up1 I 47 0 0)) _ = _
        rw [m_onBolts (I := ab_up1 I 47 0 0) (a := 576) (n := 91) (nb := tn 0) rfl (by decide) (by decide) s1.1 (s2 0 (by decide))]
        rw [sm_tail (m := tn 0) (n := 10) s1.1 (fun j h1 h2 => by
          obtain ⟨m, m1, m2, m3⟩ := q3 j h2
          rw [stE_left d1 h2, m2, m3 h1]
          rfl)]
        rw [sm_congr (t := fun b => I 16 (9 + b)) (u := fun b => ab_up1 I 47 0 0 576 b) (fun j hj => by
          try dsimp only
          rw [stE_left d1 (by omega), up_ne (by omega)])]
        rfl
    | 7, _ => exact qok0 hr0 (v := I 35 3) (by unfold f_x_told141; rw [hx, tb_inr]; rfl) (by unfold f_m_told324; rw [hi, ob_some, if_neg (by decide), ob_some, hb, ob_some, if_pos rfl]; rw [hB.2.1, ← hB.2.2.1]; rfl)
    | 8, _ => exact qok0 hr0 (v := I 0 13) (by unfold f_x_told141; rw [hx, tb_inr]; rfl) (by unfold f_m_told324; rw [hi, ob_some, if_neg (by decide), ob_some, hb, ob_some, if_pos rfl]; rw [c1]; rfl)
    | 9, _ =>
      refine qok0 hr0 (v := sm (fun c => if I 16 (3 + c) = -1 then 0 else 1) 6) ?_ ?_
      · unfold f_x_told141; rw [hx, tb_inr]
        show Option.bind (f_sta_suits144 I) _ = _
        rw [x_suits]
        rfl
      · have hw : wh (fun (s9 : Int32 × Int32) =>
            (if s9.2 < ((ab_up1 I 47 0 0) 51 1) then
              (Option.bind (f_m_hasSuit305 576 s9.2 (ab_up1 I 47 0 0)) fun v11 =>
              (Option.bind (α := Int32) (if v11 = 0 then some (0 : Int32) else some (1 : Int32)) fun b12 =>
              some (.inl ((s9.1 + b12), (s9.2 + (1 : Int32))))))
            else some (.inr s9.1))) ((0 : Int32), (0 : Int32)) = some (sm (fun c => if I 576 (82 + c) = -1 then 0 else 1) (tn 1)) := by
          refine wh_sum0 (fun c => if I 576 (82 + c) = -1 then 0 else 1) (tn 1) ?_ ?_
          · intro c hc s
            have e : (ab_up1 I 47 0 0) 51 1 = Int32.ofNat (tn 1) := s2 1 (by decide)
            have e2 : (ab_up1 I 47 0 0) 576 (82 + c) = I 576 (82 + c) := up_ne (by omega)
            simp (disch := omega) only [i_add, i_addr, i_addl, i_mul, i_mulr, i_mull, i_lt, i_ltr, i_ltl, i_eq, i_eqr, i_eql, i_clamp, i_neg1, i_lt0, n_lt, n_nlt, n_eq, n_ne, ob_some, tb_inr, tb_inl, o_ite, nar_0, nar_1, nar_ite, if_true, if_false, Nat.reduceAdd, Nat.reduceMul, Nat.reduceSub, e, hc, m_hasSuit (a := 576) (n := 91) rfl (by decide) (by decide) (show c < 6 by omega), e2, ite10]
          · intro s
            have e : (ab_up1 I 47 0 0) 51 1 = Int32.ofNat (tn 1) := s2 1 (by decide)
            simp (disch := omega) only [i_add, i_addr, i_addl, i_mul, i_mulr, i_mull, i_lt, i_ltr, i_ltl, i_eq, i_eqr, i_eql, i_clamp, i_neg1, i_lt0, n_lt, n_nlt, n_eq, n_ne, ob_some, tb_inr, tb_inl, o_ite, nar_0, nar_1, nar_ite, if_true, if_false, Nat.reduceAdd, Nat.reduceMul, Nat.reduceSub, e]
        unfold f_m_told324; rw [hi, ob_some, if_neg (by decide), ob_some, hb, ob_some, if_pos rfl]
        show Option.bind (wh _ _) _ = _
        rw [hw]
        rw [sm_tail (m := tn 1) (n := 6) s1.2.1 (fun j h1 h2 => by
          try dsimp only
          rw [stE_cut d1 h2]
          rcases q4 j h2 with h3 | ⟨h3, _⟩
          · rw [h3]; rfl
          · omega)]
        rw [sm_congr (t := fun c => if I 16 (3 + c) = -1 then 0 else 1) (u := fun c => if I 576 (82 + c) = -1 then 0 else 1) (fun j hj => by
          try dsimp only
          rw [stE_cut d1 (by omega)])]
        rfl
  · refine qref (E := 1) (w := 1) (by decide) hr ?_ ?_ (Or.inl ⟨rfl, rfl⟩)
    · unfold f_x_told141
      rw [show f_x_needWithin38 p 0 9 I = _ from nW_no (n := 9) (by decide) hp]
      rfl
    · unfold f_m_told324
      rw [show f_m_in264 p 0 9 _ = _ from in_no (n := 9) (by decide) hp, ob_some, if_pos rfl, ob_some, show f_m_bad268 1 1 1 _ = _ from bad_ref (E := 1) (by decide) (by decide)]
      rfl
theorem op_bolt_ok : op_bolt rel := by
  intro p q I hr
  have hr0 := hr
  obtain ⟨tn, bo, st, wa, od, tb, pk, ln, ht, nl, bh, bs, nk, ni, wt, u, hS, hD, hP, hL, hB, hK, hT, hC⟩ := hr
  obtain ⟨s1, s2, s3, s4, s5, s6, s7, s8, s9, s10, s11, s12, s13, s14, s15, s16, s17⟩ := hS
  have e5 : I 3 5 = Int32.ofNat (tn 0) := s3 0 (by decide)
  have e51 : I 51 0 = Int32.ofNat (tn 0) := s2 0 (by decide)
  rcases range_cases p (n := tn 0) (by omega) with ⟨b, hb, rfl⟩ | hp
  · have hi : ∀ J : MJ, J 51 0 = Int32.ofNat (tn 0) → f_m_in264 (Int32.ofNat b) 0 (J 51 0 - 1) (ab_up1 J 47 0 0) = some 1 := fun J hJ => by rw [hJ]; exact in1_ok hb (by omega)
    rcases range_cases q (n := 2) (by decide) with ⟨k, hk, rfl⟩ | hq
    · have e4 := s7 b hb
      have e66 := s5 b hb
      match k, hk with
      | 0, hk =>
        refine qok0 hr0 (v := I 4 b) ?_ ?_
        · unfold f_x_bolt146; rw [e5, nE_ok hb (by omega), tb_inr, show f_x_needWithin38 (Int32.ofNat 0) 0 1 I = _ from nW_ok (n := 1) hk (by decide), tb_inr]
          simp (disch := omega) only [i_add, i_addr, i_addl, i_mul, i_mulr, i_mull, i_lt, i_ltr, i_ltl, i_eq, i_eqr, i_eql, i_clamp, i_neg1, i_lt0, n_lt, n_nlt, n_eq, n_ne, ob_some, tb_inr, tb_inl, o_ite, nar_0, nar_1, nar_ite, if_true, if_false, Nat.reduceAdd, Nat.reduceMul, Nat.reduceSub, f_sho_boltKind147, at_4]
          try rfl
        · have e2 : (ab_up1 I 47 0 0) (66 + b) 0 = I (66 + b) 0 := up_ne (by omega)
          unfold f_m_bolt326; rw [hi I e51, ob_some, if_neg (by decide), ob_some, bad_0 up_eq, ob_some, if_pos rfl, show f_m_in264 (Int32.ofNat 0) 0 1 _ = _ from in_ok (n := 1) hk (by decide), ob_some, if_neg (by decide), ob_some, bad_0 up_eq, ob_some, if_pos rfl]
          simp (disch := omega) only [i_add, i_addr, i_addl, i_mul, i_mulr, i_mull, i_lt, i_ltr, i_ltl, i_eq, i_eqr, i_eql, i_clamp, i_neg1, i_lt0, n_lt, n_nlt, n_eq, n_ne, ob_some, tb_inr, tb_inl, o_ite, nar_0, nar_1, nar_ite, if_true, if_false, Nat.reduceAdd, Nat.reduceMul, Nat.reduceSub, rdp_65, rdrl_65, e2, e4, e66]
          try rfl
      | 1, hk =>
        refine qok0 hr0 (v := I 16 (9 + b)) ?_ ?_
        · unfold f_x_bolt146; rw [e5, nE_ok hb (by omega), tb_inr, show f_x_needWithin38 (Int32.ofNat 1) 0 1 I = _ from nW_ok (n := 1) hk (by decide), tb_inr]
          simp (disch := omega) only [i_add, i_addr, i_addl, i_mul, i_mulr, i_mull, i_lt, i_ltr, i_ltl, i_eq, i_eqr, i_eql, i_clamp, i_neg1, i_lt0, n_lt, n_nlt, n_eq, n_ne, ob_some, tb_inr, tb_inl, o_ite, nar_0, nar_1, nar_ite, if_true, if_false, Nat.reduceAdd, Nat.reduceMul, Nat.reduceSub, f_sta_leftOn143, at_16]
          try rfl
        · have e2 : (ab_up1 I 47 0 0) 576 b = I 576 b := up_ne (by omega)
          unfold f_m_bolt326; rw [hi I e51, ob_some, if_neg (by decide), ob_some, bad_0 up_eq, ob_some, if_pos rfl, show f_m_in264 (Int32.ofNat 1) 0 1 _ = _ from in_ok (n := 1) hk (by decide), ob_some, if_neg (by decide), ob_some, bad_0 up_eq, ob_some, if_pos rfl]
          simp (disch := omega) only [i_add, i_addr, i_addl, i_mul, i_mulr, i_mull, i_lt, i_ltr, i_ltl, i_eq, i_eqr, i_eql, i_clamp, i_neg1, i_lt0, n_lt, n_nlt, n_eq, n_ne, ob_some, tb_inr, tb_inl, o_ite, nar_0, nar_1, nar_ite, if_true, if_false, Nat.reduceAdd, Nat.reduceMul, Nat.reduceSub, rd_576, Nat.zero_add, e2, stE_left hD.1 (show b < 10 by omega)]
          try rfl
    · refine qref (E := 1) (w := 2) (by decide) hr0 ?_ ?_ (Or.inr ⟨rfl, rfl⟩)
      · unfold f_x_bolt146
        rw [e5, nE_ok hb (by omega), tb_inr, show f_x_needWithin38 q 0 1 I = _ from nW_no (n := 1) (by decide) hq]
        rfl
      · unfold f_m_bolt326
        rw [hi (ab_up1 I 0 (14 + 1) (I 0 (14 + 1) + 1)) e51, ob_some, if_neg (by decide), ob_some, bad_0 up_eq, ob_some, if_pos rfl, show f_m_in264 q 0 1 _ = _ from in_no (n := 1) (by decide) hq, ob_some, if_pos rfl, ob_some, show f_m_bad268 1 2 1 _ = _ from bad_ref (E := 1) (by decide) (by decide)]
        rfl
  · refine qref (E := 0) (w := 1) (by decide) hr0 ?_ ?_ (Or.inl ⟨rfl, rfl⟩)
    · unfold f_x_bolt146
      rw [e5, nE_no hp]
      rfl
    · unfold f_m_bolt326
      rw [show (ab_up1 I 0 (14 + 0) (I 0 (14 + 0) + 1)) 51 0 = Int32.ofNat (tn 0) from e51, in1_no (by omega) hp, ob_some, if_pos rfl, ob_some, show f_m_bad268 1 1 0 _ = _ from bad_ref (E := 0) (by decide) (by decide)]
      rfl
