/-! work -/
theorem x_full {J : MJ} {nk : Nat} (e : J 31 3 = Int32.ofNat nk) (h : nk ≤ 16) : f_pas_isFull93 J = some (if nk < 16 then 0 else 1) := by
  unfold f_pas_isFull93
  rw [e]
  by_cases h16 : nk < 16
  · rw [if_pos (show Int32.ofNat nk < (16 : Int32) from lt_l (b := 16) h16 (by omega)), ob_some, if_pos h16, nar_0]
  · rw [if_neg (show ¬ Int32.ofNat nk < (16 : Int32) from nlt_l (b := 16) h16 (by omega) (by omega)), ob_some, if_neg h16, nar_1]
set_option maxHeartbeats 4000000 in
theorem op_work_ok : op_work rel := by
  intro p I hr
  have hr0 := hr
  obtain ⟨tn, bl, st, wa, od, tb, pk, ln, ht, nl, bh, bs, nk, ni, wt, u, hS, hD, hP, hL, hB, hK, hT, hC⟩ := hr
  have hB' := hB
  have hu : u ≤ 600 := hT.1
  have tu : I 1 1 = Int32.ofNat u := hT.2.1
  have mu : I 47 1 = Int32.ofNat u := hT.2.2.1
  rcases rcW p (lo := 0) (hi := min u 200) (by omega) (Nat.zero_le _) with ⟨n, -, hn, rfl⟩ | hp
  · obtain ⟨B, hTB⟩ := tape_B hT
    have hn1 : n ≤ u := by omega
    have hn2 : n ≤ 200 := by omega
    have hn6 : n ≤ 600 := by omega
    obtain ⟨k1, k2, k3, k4, k5, k6, k7, k8⟩ := id hK
    obtain ⟨c1, c2, c3, c4, c5⟩ := hC
    obtain ⟨C0, o1, o2, o3⟩ := x_open (I := I) (B := B) hn6 (fun k hk => ⟨(hTB k (by omega)).1, (hTB k (by omega)).2.2⟩)
    have o31 : C0 31 3 = Int32.ofNat nk := (o3 _ _ (by omega)).trans k2
    have hgd := fun (J : MJ) (hJ : J 47 1 = Int32.ofNat u) => mTx_ok (I := ab_up1 J 47 0 0) (k := n) (mo := 200) (u := u) (by rw [up_ne (by omega)]; exact hJ) hu hn2 hn1 (by decide)
    by_cases h16 : nk < 16
    · obtain ⟨s1, s2, s3, s4, s5, s6, s7, s8, s9, s10, s11, s12, s13, s14, s15, s16, s17⟩ := id hS
      obtain ⟨g1, g2, g3, g4, g5, g6⟩ := id hP
      have hB : cxB (tn 0) (tn 1) (tn 3) tb ln od pk ht (I 24) (fun k => I (146 + k) 0) (fun k => I (146 + k) 1) := ⟨s1.1, s1.2.1, s1.2.2.2.1, g1, fun o ho => ⟨(s15 o ho).1, (s15 o ho).2.1⟩, g4, lawP_of hL⟩
      have hCI : cxC (tn 0) (tn 1) (tn 3) tb ln (fun b => bl b 0) od pk (I 24) I := ⟨s3 0 (by decide), s3 1 (by decide), s7, s17, g2, g6, hL.2.1, fun k _ => rfl⟩
      have hDI : cxM (tn 0) (tn 1) (tn 3) tb ln (fun b => bl b 0) od pk (fun k => I (146 + k) 0) (fun k => I (146 + k) 1) I := ⟨s2 0 (by decide), s2 1 (by decide), s5, s16, g3, g5, hL.2.2.1, fun k _ => ⟨rfl, rfl⟩⟩
      have b1 : tn 1 ≤ 6 := s1.2.1
      have b3 : tn 3 ≤ 8 := s1.2.2.2.1
      obtain ⟨d1, d2⟩ := id hD
      obtain ⟨K0, t1, t2, t3, t4, t5⟩ := m_starts (I := I) (B := B) hn6 (fun k hk => ⟨(hTB k (by omega)).1, (hTB k (by omega)).2.1⟩)
      obtain ⟨sy, bc, bm, w1, w2, w3, w4, w5, w6⟩ := work_read (n1 := tn 1) (n3 := tn 3) (C0 := C0) (K0 := K0) hn2 (by omega) (by omega) ⟨o2, t2⟩ t3 t4.2.2 ⟨(o3 _ _ (by omega)).trans (s3 1 (by decide)), (o3 _ _ (by omega)).trans (s3 3 (by decide)), (t5 _ _ (by omega)).trans (s2 1 (by decide)), (t5 _ _ (by omega)).trans (s2 3 (by decide))⟩
      have bcI : ∀ a k, ¬ (a = 1 ∧ 2 ≤ k ∧ k ≤ 6) → a ≠ 30 → ¬ (a = 29 ∧ k = 1) → bc a k = I a k := fun a k h1 h2 h3 => by rw [w4 a k (by omega) (by omega) h3, o3 a k h1]
      have bmI0 : ∀ a k, ¬ (a = 47 ∧ (k = 1 ∨ k = 2 ∨ k = 4 ∨ k = 5 ∨ k = 6 ∨ k = 7 ∨ k = 8 ∨ k = 34)) → ¬ (496 ≤ a ∧ a < 576) → bm a k = I a k := fun a k h1 h2 => by rw [w5 a k (by omega) (by omega), t5 a k (by omega)]
      have hMo : ∀ J : MJ, J 47 1 = Int32.ofNat u → J 47 40 = Int32.ofNat nk → ∀ K1, f_m_starts269 (Int32.ofNat n) (ab_up1 J 47 0 0) = some K1 → ∀ bm, wh (wpM (f_m_readsStep300 16)) (ab_up1 K1 47 34 0) = some bm → ∀ R, (if (bm 47 5) = 0 then (Option.bind (rdp 578 (bm 47 40)) fun r7 => Option.bind (f_m_copies302 576 r7 (ab_up1 bm 47 3 (-1 : Int32))) fun I8 => Option.bind (f_m_goes303 16 (0 : Int32) (I8 47 34) (ab_up1 (ab_up1 (ab_up1 (ab_up1 I8 47 40 ((I8 47 40) + (1 : Int32))) 47 46 (0 : Int32)) 47 47 (0 : Int32)) 47 41 (0 : Int32))) fun I9 => some ((I9 47 47), I9)) else (Option.bind (f_m_ends286 bm) fun w10 => some (w10.1, w10.2))) = R → f_m_work299 (Int32.ofNat n) J = R := fun J j1 j2 K1 y1 bm y2 R r => by
        unfold f_m_work299
        refine (bind_key (hgd J j1)).trans ?_
        try dsimp only
        rw [bad_0 up_eq, ob_some, if_pos rfl]
        try dsimp only
        rw [if_neg (show ¬ (ab_up1 J 47 0 0) 47 40 = (16 : Int32) by rw [up_ne (by omega), j2]; exact neq_l (b := 16) (by omega) (by omega) (by omega)), y1, ob_some]
        exact (congrArg (fun z => Option.bind z _) (show _ = some bm from y2)).trans r
      cases sy with
      | some q' =>
        have z5 : bc 1 5 = 0 := (TT_some w3).1
        have z6 : bc 1 6 = -1 := w3.1.2.2.1
        obtain ⟨c, hc, hst⟩ := w6 q' rfl
        obtain ⟨Kc, Km0, x1, -, -, -, x5, x6, x7, -⟩ := work_do (r := I 576) hc hB (cxC_c hCI fun a k z => bcI a k (by omega) (by omega) (by omega)) (cxM_c hB hDI fun a k z => bmI0 a k (by omega) (by omega)) hst h16 ((bcI 31 3 (by omega) (by omega) (by omega)).trans k2) ((bmI0 47 40 (by omega) (by omega)).trans k3) (by rw [show bc 16 = I 16 from funext fun k => bcI 16 k (by omega) (by omega) (by omega)]; exact d1) (fun k _ => bmI0 576 k (by omega) (by omega)) d2
        have hx : f_x_work92 (Int32.ofNat n) I = some (.inr (Kc 29 3), ab_up1 (ab_up1 Kc 0 13 (Kc 29 4)) 1 1 0) := by
          unfold f_x_work92
          rw [show f_x_needText37 (Int32.ofNat n) 200 I = _ from nTx_ok (mo := 200) tu hu (by omega) (by omega) (by decide), tb_inr, o1, ob_some, x_full o31 k1, ob_some, if_pos h16, if_pos rfl, w1, ob_some, x_sound, ob_some, if_pos z5, if_neg (show ¬ (1 : Int32) = 0 by decide), x1, ob_some, x_close, ob_some, up_ne (by omega), up_ne (by omega), x5 1 5 (by decide) (by decide) (by decide) (by decide) (by decide) (by decide) (by omega), if_pos z5]
        generalize hJ : ab_up1 (ab_up1 Kc 0 13 (Kc 29 4)) 1 1 0 = J at hx
        have jK : ∀ a k, ¬ (a = 0 ∧ k = 13) → ¬ (a = 1 ∧ k = 1) → J a k = Kc a k := fun a k z1 z2 => by rw [← hJ, up_ne z2, up_ne z1]
        have j013 : J 0 13 = Kc 29 4 := by rw [← hJ, up_ne (by omega), up_eq]
        have j11 : J 1 1 = Int32.ofNat 0 := by rw [← hJ, up_eq]; rfl
        have jI : ∀ a k, ¬ (a = 0 ∧ k = 13) → a ≠ 1 → a ≠ 16 → a ≠ 18 → a ≠ 26 → a ≠ 27 → a ≠ 29 → a ≠ 30 → a ≠ 32 → ¬ (a = 31 ∧ k = 3) → J a k = I a k := fun a k z1 z2 z3 z4 z5 z6 z7 z8 z9 z10 => by rw [jK a k z1 (by omega), x5 a k z3 z4 z5 z6 z7 z9 z10, bcI a k (by omega) z8 (by omega)]
        have J48 : ∀ k, J 48 k = I 48 k := fun k => jI _ _ (by omega) (by omega) (by omega) (by omega) (by omega) (by omega) (by omega) (by omega) (by omega) (by omega)
        have J47 : ∀ k, J 47 k = I 47 k := fun k => jI _ _ (by omega) (by omega) (by omega) (by omega) (by omega) (by omega) (by omega) (by omega) (by omega) (by omega)
        obtain ⟨K1, v1, v2, v3, v4, v5⟩ := m_starts (I := ab_up1 J 47 0 0) (B := B) hn6 (fun k hk => ⟨(hTB k (by omega)).1, by rw [up_ne (by omega), J48]; exact (hTB k (by omega)).2.1⟩)
        have K1J : ∀ a k, ¬ (a = 47 ∧ (k = 0 ∨ k = 1 ∨ k = 2 ∨ k = 4 ∨ k = 5 ∨ k = 6 ∨ k = 7 ∨ k = 8)) → K1 a k = J a k := fun a k z => by rw [v5 a k (by omega), up_ne (by omega)]
        obtain ⟨sz, bc', bn, r1, r2, r3, -, r5, r6⟩ := work_read (n1 := tn 1) (n3 := tn 3) (C0 := C0) (K0 := K1) hn2 (by omega) (by omega) ⟨o2, v2⟩ v3 v4.2.2 ⟨(o3 _ _ (by omega)).trans (s3 1 (by decide)), (o3 _ _ (by omega)).trans (s3 3 (by decide)), by rw [K1J _ _ (by omega), jI _ _ (by omega) (by omega) (by omega) (by omega) (by omega) (by omega) (by omega) (by omega) (by omega) (by omega)]; exact s2 1 (by decide), by rw [K1J _ _ (by omega), jI _ _ (by omega) (by omega) (by omega) (by omega) (by omega) (by omega) (by omega) (by omega) (by omega) (by omega)]; exact s2 3 (by decide)⟩
        have hbc : bc' = bc := Option.some.inj (r1.symm.trans w1)
        subst hbc
        have bnJ : ∀ a k, ¬ (a = 47 ∧ (k = 0 ∨ k = 1 ∨ k = 2 ∨ k = 4 ∨ k = 5 ∨ k = 6 ∨ k = 7 ∨ k = 8 ∨ k = 34)) → ¬ (496 ≤ a ∧ a < 576) → bn a k = J a k := fun a k z1 z2 => by rw [r5 a k (by omega) (by omega), K1J a k (by omega)]
        have bnI : ∀ a k, 47 ≤ a → ¬ (a = 47 ∧ (k = 0 ∨ k = 1 ∨ k = 2 ∨ k = 4 ∨ k = 5 ∨ k = 6 ∨ k = 7 ∨ k = 8 ∨ k = 34)) → ¬ (496 ≤ a ∧ a < 576) → bn a k = I a k := fun a k z0 z1 z2 => by rw [bnJ a k z1 z2, jI a k (by omega) (by omega) (by omega) (by omega) (by omega) (by omega) (by omega) (by omega) (by omega) (by omega)]
        cases sz with
        | none =>
          obtain ⟨k, w, y1, y2⟩ := r3
          exact absurd z5 (cX_ne y1)
        | some q'' =>
          obtain ⟨c', hc', hst'⟩ := r6 q'' rfl
          obtain ⟨Kc', Km, y1, y2, y3, y4, y5, y6, y7, y8, y9, y10, y11⟩ := work_do (r := I 576) hc' hB (cxC_c hCI fun a k z => bcI a k (by omega) (by omega) (by omega)) (cxM_c hB hDI fun a k z => bnI a k (by omega) (by omega) (by omega)) hst' h16 ((bcI 31 3 (by omega) (by omega) (by omega)).trans k2) ((bnI 47 40 (by omega) (by omega) (by omega)).trans k3) (by rw [show bc' 16 = I 16 from funext fun k => bcI 16 k (by omega) (by omega) (by omega)]; exact d1) (fun k _ => bnI 576 k (by omega) (by omega) (by omega)) d2
          have hKK : ab_up1 Kc' 0 13 (Kc' 29 4) = ab_up1 Kc 0 13 (Kc 29 4) := Option.some.inj (y1.symm.trans x1)
          have hKc : ∀ a k, ¬ (a = 0 ∧ k = 13) → Kc' a k = Kc a k := fun a k z => by
            have := congrFun (congrFun hKK a) k
            rwa [up_ne z, up_ne z] at this
          have kJ : ∀ a k, a ≠ 576 → a ≠ 599 → a ≠ 493 → a ≠ 494 → a ≠ 600 → ¬ (a = 47 ∧ (k = 0 ∨ k = 1 ∨ k = 2 ∨ k = 3 ∨ k = 4 ∨ k = 5 ∨ k = 6 ∨ k = 7 ∨ k = 8 ∨ k = 34 ∨ k = 40 ∨ k = 41 ∨ k = 46 ∨ k = 47)) → ¬ (496 ≤ a ∧ a < 576) → a ≠ 579 + nk → Km a k = J a k := fun a k z1 z2 z3 z4 z5 z6 z7 z8 => by rw [y8 a k z1 z2 z3 z4 z5 (by omega) z8, bnJ a k (by omega) z7]
          have kI : ∀ a k, ¬ (a = 0 ∧ k = 13) → a ≠ 1 → a ≠ 16 → a ≠ 18 → a ≠ 26 → a ≠ 27 → a ≠ 29 → a ≠ 30 → a ≠ 32 → ¬ (a = 31 ∧ k = 3) → a ≠ 576 → a ≠ 599 → a ≠ 493 → a ≠ 494 → a ≠ 600 → ¬ (a = 47 ∧ (k = 0 ∨ k = 1 ∨ k = 2 ∨ k = 3 ∨ k = 4 ∨ k = 5 ∨ k = 6 ∨ k = 7 ∨ k = 8 ∨ k = 34 ∨ k = 40 ∨ k = 41 ∨ k = 46 ∨ k = 47)) → ¬ (496 ≤ a ∧ a < 576) → a ≠ 579 + nk → Km a k = I a k := fun a k q1 q2 q3 q4 q5 q6 q7 q8 q9 q10 z1 z2 z3 z4 z5 z6 z7 z8 => by rw [kJ a k z1 z2 z3 z4 z5 z6 z7 z8, jI a k q1 q2 q3 q4 q5 q6 q7 q8 q9 q10]
          obtain ⟨-, n3, n4⟩ := y4
          obtain ⟨r, e1, e2, e3⟩ := y3
          have K32 : ∀ k, Km 32 k = if 91 * nk ≤ k ∧ k < 91 * nk + 91 then I 16 (k - 91 * nk) else I 32 k := fun k => by
            rw [kJ _ _ (by omega) (by omega) (by omega) (by omega) (by omega) (by omega) (by omega) (by omega), jK _ _ (by omega) (by omega), x7]
            by_cases z : 91 * nk ≤ k ∧ k < 91 * nk + 91
            · rw [if_pos z, if_pos z]
              exact bcI _ _ (by omega) (by omega) (by omega)
            · rw [if_neg z, if_neg z]
              exact bcI _ _ (by omega) (by omega) (by omega)
          refine ⟨_, J, _, Km, hx, hMo J ((J47 1).trans mu) ((J47 40).trans k3) K1 v1 bn r2 _ ((if_pos (TT_some r3).2.1).trans y2), ⟨tn, bl, st, wa, od, tb, pk, ln, ht, nl, bh, bs, nk + 1, ni, wt, 0, rShop_congr (fun a k h => kI a k (by omega) (by omega) (by omega) (by omega) (by omega) (by omega) (by omega) (by omega) (by omega) (by omega) (by omega) (by omega) (by omega) (by omega) (by omega) (by omega) (by omega) (by omega)) hS, ⟨?_, ?_⟩, rPat_congr (fun a k h => kI a k (by omega) (by omega) (by omega) (by omega) (by omega) (by omega) (by omega) (by omega) (by omega) (by omega) (by omega) (by omega) (by omega) (by omega) (by omega) (by omega) (by omega) (by omega)) hP, rLaw_congr (fun a k h => kI a k (by omega) (by omega) (by omega) (by omega) (by omega) (by omega) (by omega) (by omega) (by omega) (by omega) (by omega) (by omega) (by omega) (by omega) (by omega) (by omega) (by omega) (by omega)) hL, rBook_congr (fun a k h => kI a k (by omega) (by omega) (by omega) (by omega) (by omega) (by omega) (by omega) (by omega) (by omega) (by omega) (by omega) (by omega) (by omega) (by omega) (by omega) (by omega) (by omega) (by omega)) hB', ⟨by omega, ?_, y10, fun w hw => ?_, k5, ?_, ?_, fun i hi => ?_⟩, ⟨by decide, ?_, ?_, fun k hk => absurd hk (Nat.not_lt_zero k)⟩, ⟨?_, ?_, ?_, ?_, ?_⟩⟩, okI_0 ?_ ?_⟩
          · have : ∀ k, k < 91 → Km 16 k = Kc' 16 k := fun k _ => by rw [kJ _ _ (by omega) (by omega) (by omega) (by omega) (by omega) (by omega) (by omega) (by omega), jK _ _ (by omega) (by omega), hKc _ _ (by omega)]
            exact stE_congr this e2 e1
          · exact stV_congr e2 e3
          · rw [kJ _ _ (by omega) (by omega) (by omega) (by omega) (by omega) (by omega) (by omega) (by omega), jK _ _ (by omega) (by omega)]
            exact x6
          · by_cases z : w = nk
            · subst z
              have q1 : ∀ k, k < 91 → Km (579 + w) k = I 576 k := fun k hk => (y11 k hk).trans (bnI _ _ (by omega) (by omega) (by omega))
              exact ⟨stE_congr (fun k hk => by rw [K32, if_pos (by omega), show 91 * w + k - 91 * w = k by omega]) q1 d1, stV_congr q1 d2⟩
            · have hw2 : w < nk := by omega
              have q1 : ∀ k, k < 91 → Km (579 + w) k = I (579 + w) k := fun k hk => kI _ _ (by omega) (by omega) (by omega) (by omega) (by omega) (by omega) (by omega) (by omega) (by omega) (by omega) (by omega) (by omega) (by omega) (by omega) (by omega) (by omega) (by omega) (by omega)
              exact ⟨stE_congr (fun k hk => by rw [K32, if_neg (by omega)]) q1 (k4 w hw2).1, stV_congr q1 (k4 w hw2).2⟩
          · rw [kI _ _ (by omega) (by omega) (by omega) (by omega) (by omega) (by omega) (by omega) (by omega) (by omega) (by omega) (by omega) (by omega) (by omega) (by omega) (by omega) (by omega) (by omega) (by omega)]
            exact k6
          · rw [kI _ _ (by omega) (by omega) (by omega) (by omega) (by omega) (by omega) (by omega) (by omega) (by omega) (by omega) (by omega) (by omega) (by omega) (by omega) (by omega) (by omega) (by omega) (by omega)]
            exact k7
          · have hkI : ∀ a k, (a = 33 ∨ a = 34 ∨ (596 ≤ a ∧ a < 599)) → Km a k = I a k := fun a k h => kI a k (by omega) (by omega) (by omega) (by omega) (by omega) (by omega) (by omega) (by omega) (by omega) (by omega) (by omega) (by omega) (by omega) (by omega) (by omega) (by omega) (by omega) (by omega)
            obtain ⟨p1, p2, p3, p4, p5⟩ := k8 i hi
            refine ⟨p1, by rw [hkI _ _ (by omega)]; exact p2, by rw [hkI _ _ (by omega)]; exact p3, ⟨stE_congr (fun k _ => hkI _ _ (by omega)) (fun k _ => hkI _ _ (by omega)) p4.1, stV_congr (fun k _ => hkI _ _ (by omega)) p4.2⟩, fun w hw => ?_⟩
            exact ⟨stE_congr (fun k _ => hkI _ _ (by omega)) (fun k _ => hkI _ _ (by omega)) (p5 w hw).1, stV_congr (fun k _ => hkI _ _ (by omega)) (p5 w hw).2⟩
          · rw [kJ _ _ (by omega) (by omega) (by omega) (by omega) (by omega) (by omega) (by omega) (by omega)]
            exact j11
          · rw [y8 47 1 (by omega) (by omega) (by omega) (by omega) (by omega) (by omega) (by omega), r5 47 1 (by omega) (by omega)]
            exact v4.1
          · rw [kJ _ _ (by omega) (by omega) (by omega) (by omega) (by omega) (by omega) (by omega) (by omega), j013, ← hKc 29 4 (by omega)]
            exact n4
          · rw [kI _ _ (by omega) (by omega) (by omega) (by omega) (by omega) (by omega) (by omega) (by omega) (by omega) (by omega) (by omega) (by omega) (by omega) (by omega) (by omega) (by omega) (by omega) (by omega), kI _ _ (by omega) (by omega) (by omega) (by omega) (by omega) (by omega) (by omega) (by omega) (by omega) (by omega) (by omega) (by omega) (by omega) (by omega) (by omega) (by omega) (by omega) (by omega)]
            exact c2
          · rw [kI _ _ (by omega) (by omega) (by omega) (by omega) (by omega) (by omega) (by omega) (by omega) (by omega) (by omega) (by omega) (by omega) (by omega) (by omega) (by omega) (by omega) (by omega) (by omega), kI _ _ (by omega) (by omega) (by omega) (by omega) (by omega) (by omega) (by omega) (by omega) (by omega) (by omega) (by omega) (by omega) (by omega) (by omega) (by omega) (by omega) (by omega) (by omega)]
            exact c3
          · rw [kI _ _ (by omega) (by omega) (by omega) (by omega) (by omega) (by omega) (by omega) (by omega) (by omega) (by omega) (by omega) (by omega) (by omega) (by omega) (by omega) (by omega) (by omega) (by omega), kI _ _ (by omega) (by omega) (by omega) (by omega) (by omega) (by omega) (by omega) (by omega) (by omega) (by omega) (by omega) (by omega) (by omega) (by omega) (by omega) (by omega) (by omega) (by omega)]
            exact c4
          · rw [kJ 1 6 (by omega) (by omega) (by omega) (by omega) (by omega) (by omega) (by omega) (by omega), jK 1 6 (by omega) (by omega), x5 1 6 (by decide) (by decide) (by decide) (by decide) (by decide) (by decide) (by omega), z6, y9]
          · rw [y8 47 0 (by omega) (by omega) (by omega) (by omega) (by omega) (by omega) (by omega), r5 47 0 (by omega) (by omega), v5 47 0 (by omega), up_eq]
          · rw [← hKc 29 3 (by omega)]
            exact n3
      | none =>
        obtain ⟨k, w, z1, z2⟩ := w3
        have z5 : ¬ bc 1 5 = 0 := cX_ne z1
        have hx : f_x_work92 (Int32.ofNat n) I = some (.inr (bc 1 5 - 10), ab_up1 bc 1 1 0) := by
          unfold f_x_work92
          rw [show f_x_needText37 (Int32.ofNat n) 200 I = _ from nTx_ok (mo := 200) tu hu (by omega) (by omega) (by decide), tb_inr, o1, ob_some, x_full o31 k1, ob_some, if_pos h16, if_pos rfl, w1, ob_some, x_sound, ob_some, if_neg z5, if_pos rfl, ob_some, x_close, ob_some, if_neg z5]
        generalize hJ : ab_up1 bc 1 1 0 = J at hx
        have j11 : J 1 1 = Int32.ofNat 0 := by rw [← hJ, up_eq]; rfl
        have jI : ∀ a k, a ≠ 1 → a ≠ 30 → ¬ (a = 29 ∧ k = 1) → J a k = I a k := fun a k q1 q2 q3 => by rw [← hJ, up_ne (by omega), bcI a k (by omega) q2 q3]
        have J48 : ∀ k, J 48 k = I 48 k := fun k => jI _ _ (by omega) (by omega) (by omega)
        have J47 : ∀ k, J 47 k = I 47 k := fun k => jI _ _ (by omega) (by omega) (by omega)
        obtain ⟨K1, v1, v2, v3, v4, v5⟩ := m_starts (I := ab_up1 J 47 0 0) (B := B) hn6 (fun k hk => ⟨(hTB k (by omega)).1, by rw [up_ne (by omega), J48]; exact (hTB k (by omega)).2.1⟩)
        have K1J : ∀ a k, ¬ (a = 47 ∧ (k = 0 ∨ k = 1 ∨ k = 2 ∨ k = 4 ∨ k = 5 ∨ k = 6 ∨ k = 7 ∨ k = 8)) → K1 a k = J a k := fun a k z => by rw [v5 a k (by omega), up_ne (by omega)]
        obtain ⟨sz, bc', bn, r1, r2, r3, -, r5, -⟩ := work_read (n1 := tn 1) (n3 := tn 3) (C0 := C0) (K0 := K1) hn2 (by omega) (by omega) ⟨o2, v2⟩ v3 v4.2.2 ⟨(o3 _ _ (by omega)).trans (s3 1 (by decide)), (o3 _ _ (by omega)).trans (s3 3 (by decide)), by rw [K1J _ _ (by omega), jI _ _ (by omega) (by omega) (by omega)]; exact s2 1 (by decide), by rw [K1J _ _ (by omega), jI _ _ (by omega) (by omega) (by omega)]; exact s2 3 (by decide)⟩
        have hbc : bc' = bc := Option.some.inj (r1.symm.trans w1)
        subst hbc
        cases sz with
        | some q'' => exact absurd (TT_some r3).1 z5
        | none =>
          obtain ⟨k', w', y1, y2⟩ := r3
          have hf2 : ¬ bn 47 5 = 0 := mX_ne y2
          have bnJ : ∀ a k, ¬ (a = 47 ∧ (k = 0 ∨ k = 1 ∨ k = 2 ∨ k = 4 ∨ k = 5 ∨ k = 6 ∨ k = 7 ∨ k = 8 ∨ k = 34)) → ¬ (496 ≤ a ∧ a < 576) → bn a k = J a k := fun a k z1 z2 => by rw [r5 a k (by omega) (by omega), K1J a k (by omega)]
          have kI : ∀ a k, a ≠ 1 → a ≠ 30 → ¬ (a = 29 ∧ k = 1) → ¬ (a = 47 ∧ (k = 0 ∨ k = 1 ∨ k = 2 ∨ k = 3 ∨ k = 4 ∨ k = 5 ∨ k = 6 ∨ k = 7 ∨ k = 8 ∨ k = 34)) → ¬ (496 ≤ a ∧ a < 576) → (ab_up1 bn 47 3 (bn 47 6)) a k = I a k := fun a k q1 q2 q3 q4 q5 => by rw [up_ne (by omega), bnJ a k (by omega) q5, jI a k q1 q2 q3]
          refine ⟨_, J, bn 47 5 - 10, ab_up1 bn 47 3 (bn 47 6), hx, hMo J ((J47 1).trans mu) ((J47 40).trans k3) K1 v1 bn r2 _ ((if_neg hf2).trans rfl), ⟨tn, bl, st, wa, od, tb, pk, ln, ht, nl, bh, bs, nk, ni, wt, 0, rShop_congr (fun a k h => kI a k (by omega) (by omega) (by omega) (by omega) (by omega)) hS, rStand_congr (fun a k h => kI a k (by omega) (by omega) (by omega) (by omega) (by omega)) hD, rPat_congr (fun a k h => kI a k (by omega) (by omega) (by omega) (by omega) (by omega)) hP, rLaw_congr (fun a k h => kI a k (by omega) (by omega) (by omega) (by omega) (by omega)) hL, rBook_congr (fun a k h => kI a k (by omega) (by omega) (by omega) (by omega) (by omega)) hB', rPast_congr (fun a k h => kI a k (by omega) (by omega) (by omega) (by omega) (by omega)) hK, ⟨by decide, ?_, ?_, fun k hk => absurd hk (Nat.not_lt_zero k)⟩, ⟨?_, ?_, ?_, ?_, ?_⟩⟩, okI_0 ?_ ?_⟩
          · rw [up_ne (by omega), bnJ 1 1 (by omega) (by omega)]; exact j11
          · rw [up_ne (by omega), r5 47 1 (by omega) (by omega)]; exact v4.1
          · rw [kI _ _ (by decide) (by decide) (by decide) (by decide) (by decide), kI _ _ (by decide) (by decide) (by decide) (by decide) (by decide)]; exact c1
          · rw [kI _ _ (by decide) (by decide) (by decide) (by decide) (by decide), kI _ _ (by decide) (by decide) (by decide) (by decide) (by decide)]; exact c2
          · rw [kI _ _ (by decide) (by decide) (by decide) (by decide) (by decide), kI _ _ (by decide) (by decide) (by decide) (by decide) (by decide)]; exact c3
          · rw [kI _ _ (by decide) (by decide) (by decide) (by decide) (by decide), kI _ _ (by decide) (by decide) (by decide) (by decide) (by decide)]; exact c4
          · rw [up_eq, up_ne (by omega), bnJ 1 6 (by omega) (by omega), ← hJ, up_ne (by omega), y1.2.2, y2.2.2.1]
          · rw [up_ne (by omega), r5 47 0 (by omega) (by omega), v5 47 0 (by omega), up_eq]
          · rw [y1.2.1, y2.2.1]
    · -- full
      have e16 : nk = 16 := by omega
      subst e16
      have q5 : C0 1 5 = 0 := o2.2.1
      have q6 : C0 1 6 = -1 := o2.2.2.1
      have hx : f_x_work92 (Int32.ofNat n) I = some (.inr (-20), ab_up1 C0 1 1 0) := by
        unfold f_x_work92
        rw [show f_x_needText37 (Int32.ofNat n) 200 I = _ from nTx_ok (mo := 200) tu hu (by omega) (by omega) (by decide), tb_inr, o1, ob_some, x_full o31 k1, ob_some, if_neg h16, if_neg (show ¬ (1 : Int32) = 0 by decide), x_close, ob_some, if_pos q5]
      have jI : ∀ a k, a ≠ 1 → (ab_up1 C0 1 1 0) a k = I a k := fun a k q => by rw [up_ne (by omega), o3 a k (by omega)]
      have kI : ∀ a k, a ≠ 1 → ¬ (a = 47 ∧ (k = 0 ∨ k = 1 ∨ k = 3)) → (ab_up1 (ab_up1 (ab_up1 (ab_up1 C0 1 1 0) 47 0 0) 47 1 0) 47 3 (-1)) a k = I a k := fun a k q1 q2 => by rw [up_ne (by omega), up_ne (by omega), up_ne (by omega), jI a k q1]
      refine ⟨_, _, -20, ab_up1 (ab_up1 (ab_up1 (ab_up1 C0 1 1 0) 47 0 0) 47 1 0) 47 3 (-1), hx, ?_, ⟨tn, bl, st, wa, od, tb, pk, ln, ht, nl, bh, bs, 16, ni, wt, 0, rShop_congr (fun a k h => kI a k (by omega) (by omega)) hS, rStand_congr (fun a k h => kI a k (by omega) (by omega)) hD, rPat_congr (fun a k h => kI a k (by omega) (by omega)) hP, rLaw_congr (fun a k h => kI a k (by omega) (by omega)) hL, rBook_congr (fun a k h => kI a k (by omega) (by omega)) hB', rPast_congr (fun a k h => kI a k (by omega) (by omega)) hK, ⟨by decide, ?_, ?_, fun k hk => absurd hk (Nat.not_lt_zero k)⟩, ⟨?_, ?_, ?_, ?_, ?_⟩⟩, okI_0 ?_ rfl⟩
      · unfold f_m_work299
        refine (bind_key (hgd (ab_up1 C0 1 1 0) ((jI 47 1 (by omega)).trans mu))).trans ?_
        try dsimp only
        rw [bad_0 up_eq, ob_some, if_pos rfl]
        try dsimp only
        rw [if_pos (show (ab_up1 (ab_up1 C0 1 1 0) 47 0 0) 47 40 = (16 : Int32) by rw [up_ne (by omega), jI 47 40 (by omega), k3]; rfl)]
      · rw [up_ne (by omega), up_ne (by omega), up_ne (by omega), up_eq]; rfl
      · rw [up_ne (by omega), up_eq]; rfl
      · rw [kI _ _ (by decide) (by decide), kI _ _ (by decide) (by decide)]; exact c1
      · rw [kI _ _ (by decide) (by decide), kI _ _ (by decide) (by decide)]; exact c2
      · rw [kI _ _ (by decide) (by decide), kI _ _ (by decide) (by decide)]; exact c3
      · rw [kI _ _ (by decide) (by decide), kI _ _ (by decide) (by decide)]; exact c4
      · rw [up_eq, up_ne (by omega), up_ne (by omega), up_ne (by omega), up_ne (by omega)]; exact q6
      · rw [up_ne (by omega), up_ne (by omega), up_eq]
  · refine qref (E := 1) (w := 1) (by decide) hr0 ?_ ?_ (Or.inl ⟨rfl, rfl⟩)
    · unfold f_x_work92
      rw [show f_x_needText37 p 200 I = _ from nTx_no (mo := 200) tu hu (by decide) hp]
      rfl
    · unfold f_m_work299
      refine (bind_key (mTx_bad (I := ab_up1 (ab_up1 I 0 (14 + 1) (I 0 (14 + 1) + 1)) 47 0 0) (mo := 200) mu hu (by decide) hp)).trans ?_
      try dsimp only
      rw [show f_m_bad268 1 1 1 _ = _ from bad_ref (E := 1) (by decide) (by decide)]
      rfl
