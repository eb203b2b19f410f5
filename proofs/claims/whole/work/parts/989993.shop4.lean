set_option maxHeartbeats 2000000 in
theorem op_shop_ok : op_shop rel := by
  intro p I hr
  have hr0 := hr
  obtain ⟨tn, bl, st, wa, od, tb, pk, ln, ht, nl, bh, bs, nk, ni, wt, u, hS, hD, hP, hL, hB, hK, hT, hC⟩ := hr
  have hu : u ≤ 600 := hT.1
  have tu : I 1 1 = Int32.ofNat u := hT.2.1
  have mu : I 47 1 = Int32.ofNat u := hT.2.2.1
  rcases rcW p (lo := 0) (hi := min u 600) (by omega) (Nat.zero_le _) with ⟨n, -, hn, rfl⟩ | hp
  · obtain ⟨B, hTB⟩ := tape_B hT
    have hn1 : n ≤ u := by omega
    have hn6 : n ≤ 600 := by omega
    obtain ⟨C0, o1, o2, o3⟩ := x_open (I := I) (B := B) hn6 (fun k hk => ⟨(hTB k (by omega)).1, (hTB k (by omega)).2.2⟩)
    generalize hF : (ab_up1 (ab_up1 (ab_up1 (ab_up1 (ab_up1 (ab_up1 C0 9 5 (0 : Int32)) 9 6 (0 : Int32)) 9 7 (0 : Int32)) 9 8 (0 : Int32)) 9 9 (1 : Int32)) 9 10 (8 : Int32)) = F
    have f2 : ∀ a k, a ≠ 9 → F a k = C0 a k := fun a k h => by rw [← hF, up_ne (by omega), up_ne (by omega), up_ne (by omega), up_ne (by omega), up_ne (by omega), up_ne (by omega)]
    have f9 : F 9 5 = Int32.ofNat 0 ∧ F 9 6 = Int32.ofNat 0 ∧ F 9 7 = Int32.ofNat 0 ∧ F 9 8 = Int32.ofNat 0 ∧ F 9 9 = Int32.ofNat 1 ∧ F 9 10 = Int32.ofNat 8 := by
      refine ⟨?_, ?_, ?_, ?_, ?_, ?_⟩
      · rw [← hF, up_ne (by omega), up_ne (by omega), up_ne (by omega), up_ne (by omega), up_ne (by omega), up_eq]; rfl
      · rw [← hF, up_ne (by omega), up_ne (by omega), up_ne (by omega), up_ne (by omega), up_eq]; rfl
      · rw [← hF, up_ne (by omega), up_ne (by omega), up_ne (by omega), up_eq]; rfl
      · rw [← hF, up_ne (by omega), up_ne (by omega), up_eq]; rfl
      · rw [← hF, up_ne (by omega), up_eq]; rfl
      · rw [← hF, up_eq]; rfl
    have cF : cR B n F (sk B n 0) := by
      obtain ⟨q1, q2, q3, p0, q4, q5, q6⟩ := o2
      exact ⟨cE_c q1 (f2 _ _ (by decide)) (fun k => f2 _ _ (by decide)), by rw [f2 _ _ (by decide)]; exact q2, by rw [f2 _ _ (by decide)]; exact q3, p0, q4, by rw [f2 _ _ (by decide)]; exact q5, q6⟩
    have D0 : ∀ Jm : MJ, Jm 47 7 = Int32.ofNat 0 → (Jm 50 0 = Int32.ofNat 0 ∧ Jm 50 1 = Int32.ofNat 0 ∧ Jm 50 2 = Int32.ofNat 0 ∧ Jm 50 3 = Int32.ofNat 0 ∧ Jm 50 4 = Int32.ofNat 1 ∧ Jm 50 5 = Int32.ofNat 8) → sD 0 0 0 0 0 1 8 F Jm := fun Jm h7 h5 => ⟨by omega, h7, f9, h5, fun k hk => absurd hk (Nat.not_lt_zero k), fun k hk => absurd hk (Nat.not_lt_zero k), fun k hk => absurd hk (Nat.not_lt_zero k), fun k hk => absurd hk (Nat.not_lt_zero k)⟩
    have mStart : ∀ Im : MJ, (∀ k, k < n → Im 48 k = Int32.ofNat (B k)) → ∃ K0 K1, f_m_starts269 (Int32.ofNat n) Im = some K0 ∧ f_m_tellsNothing261 K0 = some K1 ∧ mR B n K1 (sk B n 0) ∧ K1 47 4 = Int32.ofNat (sk B n 0) ∧ sD 0 0 0 0 0 1 8 F K1 ∧ K1 47 1 = Int32.ofNat 0 ∧ ∀ a k, a ≠ 50 → ¬ (a = 47 ∧ (k = 1 ∨ k = 2 ∨ k = 4 ∨ k = 5 ∨ k = 6 ∨ k = 7 ∨ k = 8)) → K1 a k = Im a k := fun Im hIm => by
      obtain ⟨K0, s1, s2, s3, s4, s5⟩ := m_starts (I := Im) (B := B) hn6 (fun k hk => ⟨(hTB k (by omega)).1, hIm k hk⟩)
      obtain ⟨K1, t1, t2, t3⟩ := m_nothing (I := K0)
      obtain ⟨q1, q2, q3, p0, q4, q5, q6⟩ := s2
      exact ⟨K0, K1, s1, t1, ⟨mE_c q1 (t3 _ _ (by decide)) (fun k => t3 _ _ (by decide)), by rw [t3 _ _ (by decide)]; exact q2, by rw [t3 _ _ (by decide)]; exact q3, p0, q4, by rw [t3 _ _ (by decide)]; exact q5, q6⟩, by rw [t3 _ _ (by decide)]; exact s3, D0 K1 (by rw [t3 _ _ (by decide)]; exact s4.2.1) t2, by rw [t3 _ _ (by decide)]; exact s4.1, fun a k h1 h2 => by rw [t3 a k h1, s5 a k h2]⟩
    -- the class' loop
    obtain ⟨K0, K1, -, -, s3, s4, s5, -, -⟩ := mStart I (fun k hk => (hTB k (by omega)).2.1)
    obtain ⟨bc, bm0, r1, -, r3, -, r5⟩ := shop_run (C0 := F) (M0 := K1) (n + 1) 0 (sk B n 0) 0 0 0 0 1 8 _ _ (by omega) cF s3 s4 s5 (fun _ _ _ _ => rfl) (fun _ _ _ _ _ _ _ _ => rfl)
    have bcI : ∀ a k, ¬ (a = 1 ∧ 2 ≤ k ∧ k ≤ 6) → ¬ (9 ≤ a ∧ a ≤ 14) → bc a k = I a k := fun a k h1 h2 => by rw [r3 a k (by omega) h2, f2 a k (by omega), o3 a k h1]
    have hrd : f_sho_readFrom41 C0 = some bc := by
      unfold f_sho_readFrom41
      have e1 : (Option.bind (wh shC ((0 : Int32), F)) fun b2 => some b2) = some bc := by
        rw [show ((0 : Int32), F) = (Int32.ofNat 0, F) from rfl, r1]
        rfl
      rw [hF]
      exact e1
    have hX : ∃ v J, f_x_shop36 (Int32.ofNat n) I = some (.inr v, J) ∧ J 1 1 = Int32.ofNat 0 ∧ J 1 6 = bc 1 6 ∧ (∀ a k, a ≠ 1 → ¬ (3 ≤ a ∧ a ≤ 14) → a ≠ 16 → ¬ (a = 19 ∧ k = 3) → ¬ (a = 23 ∧ k = 4) → ¬ (a = 35 ∧ k = 3) → a ≠ 36 → ¬ (a = 31 ∧ (k = 3 ∨ k = 4)) → ¬ (a = 0 ∧ k = 13) → J a k = I a k) ∧ (bc 1 5 = 0 → ∀ nb, nb ≤ 10 → bc 9 5 = Int32.ofNat nb → v = bc 9 6 ∧ (J 3 5 = bc 9 5 ∧ J 3 6 = bc 9 6 ∧ J 3 7 = bc 9 7 ∧ J 3 8 = bc 9 8 ∧ J 3 9 = bc 9 9 ∧ J 3 10 = bc 9 10) ∧ (∀ k, k < 10 → J 4 k = bc 10 k ∧ J 5 k = bc 11 k) ∧ (∀ k, k < 6 → J 6 k = bc 12 k) ∧ (∀ k, k < 80 → J 7 k = bc 13 k) ∧ (∀ k, k < 40 → J 8 k = bc 14 k) ∧ (∀ k, k < 91 → J 16 k = if 3 ≤ k ∧ k < 9 then -1 else if 9 ≤ k ∧ k < 9 + nb then bc 11 (k - 9) else 0) ∧ J 19 3 = 0 ∧ J 23 4 = 0 ∧ J 35 3 = 0 ∧ (∀ k, k < 12 → J 36 k = -1) ∧ J 31 3 = 0 ∧ J 31 4 = 0 ∧ J 0 13 = 0) ∧ (¬ bc 1 5 = 0 → v = bc 1 5 - 10 ∧ ∀ a k, a ≠ 1 → ¬ (9 ≤ a ∧ a ≤ 14) → J a k = I a k) := by
      unfold f_x_shop36
      rw [show f_x_needText37 (Int32.ofNat n) 600 I = _ from nTx_ok (mo := 600) tu hu (by omega) (by omega) (by decide), tb_inr, o1, ob_some, hrd, ob_some, x_sound, ob_some]
      by_cases h5 : bc 1 5 = 0
      · have h9 : ∃ nb, nb ≤ 10 ∧ bc 9 5 = Int32.ofNat nb := by
          rcases r5 with ⟨i, nb, nc, nw, no, se, ha, d, -⟩ | ⟨k, w, g, -⟩
          · exact ⟨nb, d.1.1, d.2.2.1.1⟩
          · exact absurd h5 (cX_ne g)
        obtain ⟨nb, l1, c0⟩ := h9
        rw [if_pos h5, if_neg (by decide)]
        obtain ⟨J1, a1, a2, a3, a4, a5, a6, a7⟩ := x_keepShop (I := bc)
        obtain ⟨J2, b1, b2, b3⟩ := x_begin (I := J1) (nb := nb) l1 (a6.1.trans c0)
        obtain ⟨J3, d1, d2, d3⟩ := fill_ok (a := 36) (n := 12) (x := -1) (I := ab_up1 (ab_up1 (ab_up1 J2 19 3 0) 23 4 0) 35 3 0) rfl (by decide) (by decide)
        have e : f_boo_forget63 (ab_up1 (ab_up1 J2 19 3 0) 23 4 0) = some J3 := by
          unfold f_boo_forget63
          rw [d1, ob_some]
        rw [a1, ob_some, b1, ob_some, show f_pat_forget61 J2 = some (ab_up1 J2 19 3 0) from rfl, ob_some, show f_mot_forget62 (ab_up1 J2 19 3 0) = some (ab_up1 (ab_up1 J2 19 3 0) 23 4 0) from rfl, ob_some, e, ob_some, show f_pas_forget64 J3 = some (ab_up1 (ab_up1 J3 31 3 0) 31 4 0) from rfl, ob_some, ob_some, x_close, ob_some]
        dsimp only
        have fr : ∀ a k, ¬ (a = 1 ∧ k = 1) → ¬ (a = 0 ∧ k = 13) → ¬ (a = 31 ∧ (k = 3 ∨ k = 4)) → (ab_up1 (ab_up1 (ab_up1 (ab_up1 J3 31 3 0) 31 4 0) 0 13 0) 1 1 0) a k = J3 a k := fun a k h1 h2 h3 => by rw [up_ne h1, up_ne h2, up_ne (by omega), up_ne (by omega)]
        have fr3 : ∀ a k, a ≠ 36 → ¬ (a = 35 ∧ k = 3) → ¬ (a = 23 ∧ k = 4) → ¬ (a = 19 ∧ k = 3) → J3 a k = J2 a k := fun a k h1 h2 h3 h4 => by rw [d2 a k h1, up_ne h2, up_ne h3, up_ne h4]
        have fr2 : ∀ a k, ¬ (3 ≤ a ∧ a ≤ 8) → a ≠ 16 → J2 a k = bc a k := fun a k h1 h2 => by rw [b3 a k h2, a7 a k (by omega) (by omega)]
        refine ⟨_, _, rfl, (up_eq (I := (ab_up1 (ab_up1 (ab_up1 J3 31 3 0) 31 4 0) 0 13 0)) (a := 1) (j := 1) (x := 0)), ?_, fun a k h1 h2 h3 h4 h5 h6 h7 h8 h9 => ?_, fun _ nb' l1' c0' => ?_, fun z => absurd h5 z⟩
        · rw [fr 1 6 (by omega) (by omega) (by omega), fr3 1 6 (by omega) (by omega) (by omega) (by omega), fr2 1 6 (by omega) (by omega)]
        · rw [fr a k (by omega) h9 h8, fr3 a k h7 h6 h5 h4, fr2 a k (by omega) h3, bcI a k (by omega) (by omega)]
        · have hnb : nb' = nb := (i_eq (by omega) (by omega)).mp (c0'.symm.trans c0)
          subst hnb
          refine ⟨?_, ⟨?_, ?_, ?_, ?_, ?_, ?_⟩, fun k hk => ⟨?_, ?_⟩, fun k hk => ?_, fun k hk => ?_, fun k hk => ?_, fun k hk => ?_, ?_, ?_, ?_, fun k hk => ?_, ?_, ?_, ?_⟩
          · rw [up_ne (show ¬ ((1 : Nat) = 0 ∧ (5 : Nat) = 13) by omega), up_ne (show ¬ ((1 : Nat) = 31 ∧ (5 : Nat) = 4) by omega), up_ne (show ¬ ((1 : Nat) = 31 ∧ (5 : Nat) = 3) by omega), fr3 1 5 (by omega) (by omega) (by omega) (by omega), fr2 1 5 (by omega) (by omega), if_pos h5, up_ne (by omega), up_ne (by omega), up_ne (by omega), fr3 3 6 (by omega) (by omega) (by omega) (by omega), b3 3 6 (by omega), a6.2.1]
          · rw [fr _ _ (by omega) (by omega) (by omega), fr3 _ _ (by omega) (by omega) (by omega) (by omega), b3 _ _ (by omega), a6.1]
          · rw [fr _ _ (by omega) (by omega) (by omega), fr3 _ _ (by omega) (by omega) (by omega) (by omega), b3 _ _ (by omega), a6.2.1]
          · rw [fr _ _ (by omega) (by omega) (by omega), fr3 _ _ (by omega) (by omega) (by omega) (by omega), b3 _ _ (by omega), a6.2.2.1]
          · rw [fr _ _ (by omega) (by omega) (by omega), fr3 _ _ (by omega) (by omega) (by omega) (by omega), b3 _ _ (by omega), a6.2.2.2.1]
          · rw [fr _ _ (by omega) (by omega) (by omega), fr3 _ _ (by omega) (by omega) (by omega) (by omega), b3 _ _ (by omega), a6.2.2.2.2.1]
          · rw [fr _ _ (by omega) (by omega) (by omega), fr3 _ _ (by omega) (by omega) (by omega) (by omega), b3 _ _ (by omega), a6.2.2.2.2.2]
          · rw [fr _ _ (by omega) (by omega) (by omega), fr3 _ _ (by omega) (by omega) (by omega) (by omega), b3 _ _ (by omega), (a2 k hk).1]
          · rw [fr _ _ (by omega) (by omega) (by omega), fr3 _ _ (by omega) (by omega) (by omega) (by omega), b3 _ _ (by omega), (a2 k hk).2]
          · rw [fr _ _ (by omega) (by omega) (by omega), fr3 _ _ (by omega) (by omega) (by omega) (by omega), b3 _ _ (by omega), a3 k hk]
          · rw [fr _ _ (by omega) (by omega) (by omega), fr3 _ _ (by omega) (by omega) (by omega) (by omega), b3 _ _ (by omega), a4 k hk]
          · rw [fr _ _ (by omega) (by omega) (by omega), fr3 _ _ (by omega) (by omega) (by omega) (by omega), b3 _ _ (by omega), a5 k hk]
          · rw [fr _ _ (by omega) (by omega) (by omega), fr3 _ _ (by omega) (by omega) (by omega) (by omega), b2 k hk]
            by_cases z : 3 ≤ k ∧ k < 9
            · rw [if_pos z, if_pos z]
            · rw [if_neg z, if_neg z]
              by_cases z2 : 9 ≤ k ∧ k < 9 + nb'
              · rw [if_pos z2, if_pos z2, (a2 _ (by omega)).2]
              · rw [if_neg z2, if_neg z2]
          · rw [fr _ _ (by omega) (by omega) (by omega), d2 _ _ (by omega), up_ne (by omega), up_ne (by omega), up_eq]
          · rw [fr _ _ (by omega) (by omega) (by omega), d2 _ _ (by omega), up_ne (by omega), up_eq]
          · rw [fr _ _ (by omega) (by omega) (by omega), d2 _ _ (by omega), up_eq]
          · rw [fr _ _ (by omega) (by omega) (by omega), d3 k hk]
          · rw [up_ne (by omega), up_ne (by omega), up_ne (by omega), up_eq]
          · rw [up_ne (by omega), up_ne (by omega), up_eq]
          · rw [up_ne (by omega), up_eq]
      · rw [if_neg h5, if_pos rfl, ob_some, x_close, ob_some]
        dsimp only
        refine ⟨_, _, rfl, (up_eq (I := bc) (a := 1) (j := 1) (x := 0)), ?_, fun a k h1 h2 h3 h4 h5 h6 h7 h8 h9 => ?_, fun z => absurd z h5, fun _ => ⟨?_, fun a k h1 h2 => ?_⟩⟩
        · rw [up_ne (by omega)]
        · rw [up_ne (by omega), bcI a k (by omega) (by omega)]
        · rw [if_neg h5]
        · rw [up_ne (by omega), bcI a k (by omega) h2]
    obtain ⟨v, J, x1, x2, x3, x4, x5, x6⟩ := hX
    -- the model's
    have J48 : ∀ k, J 48 k = I 48 k := fun k => x4 _ _ (by omega) (by omega) (by omega) (by omega) (by omega) (by omega) (by omega) (by omega) (by omega)
    obtain ⟨K0', K1', t1, t2, t3, t4, t5, t6, t7⟩ := mStart (ab_up1 J 47 0 0) (fun k hk => by rw [up_ne (by omega), J48]; exact (hTB k (by omega)).2.1)
    obtain ⟨bc', bm, r1', r2, -, r4, r6⟩ := shop_run (C0 := F) (M0 := K1') (n + 1) 0 (sk B n 0) 0 0 0 0 1 8 _ _ (by omega) cF t3 t4 t5 (fun _ _ _ _ => rfl) (fun _ _ _ _ _ _ _ _ => rfl)
    have hbc : bc' = bc := Option.some.inj (r1'.symm.trans r1)
    subst hbc
    have bmI : ∀ a k, ¬ (a = 47 ∧ (k = 0 ∨ k = 1 ∨ k = 2 ∨ k = 4 ∨ k = 5 ∨ k = 6 ∨ k = 7 ∨ k = 8)) → a ≠ 50 → a ≠ 52 → ¬ (55 ≤ a ∧ a < 65) → ¬ (77 ≤ a ∧ a < 93) → ¬ (111 ≤ a ∧ a < 119) → bm a k = J a k := fun a k h1 h2 h3 h4 h5 h6 => by rw [r4 a k (by omega) h2 h3 h4 h5 h6, t7 a k h2 (by omega), up_ne (by omega)]
    have b1 : bm 47 1 = Int32.ofNat 0 := by rw [r4 47 1 (by omega) (by omega) (by omega) (by omega) (by omega) (by omega)]; exact t6
    have b0 : bm 47 0 = 0 := by rw [r4 47 0 (by omega) (by omega) (by omega) (by omega) (by omega) (by omega), t7 47 0 (by omega) (by omega), up_eq]
    have J471 : J 47 1 = Int32.ofNat u := by rw [x4 _ _ (by omega) (by omega) (by omega) (by omega) (by omega) (by omega) (by omega) (by omega) (by omega)]; exact mu
    have hM : ∀ R, (if (bm 47 5) = 0 then (Option.bind (f_m_stands262 (ab_up1 bm 47 3 (-1 : Int32))) fun I8 => some ((I8 51 1), I8)) else (Option.bind (f_m_ends286 bm) fun w9 => some (w9.1, w9.2))) = R → f_m_shop267 (Int32.ofNat n) J = R := fun R h => by
      unfold f_m_shop267
      rw [J471, show f_m_in264 (Int32.ofNat n) 0 (Int32.ofNat u) _ = some 1 from inW_ok (lo := 0) (Nat.zero_le _) hn1 (by omega), ob_some, if_neg (by decide), ob_some, bad_0 up_eq, ob_some, if_pos rfl]
      try dsimp only
      rw [t1, ob_some, t2, ob_some]
      exact (congrArg (fun z => Option.bind z _) (show wh shM K1' = some bm from r2)).trans h
    rcases r6 with ⟨i, nb, nc, nw, no, se, ha, hD', n1, n2, n3⟩ | ⟨k, w, g1, g2, g3⟩
    · have hD'' := hD'
      obtain ⟨⟨l1, l2, l3, l4, l5, l6, l7, l8⟩, D7, ⟨c0, c1, c2, c3, c4, c5⟩, ⟨d0, d1, d2, d3, d4, d5⟩, -, -, -, -⟩ := hD''
      obtain ⟨y1, y2, y3, y4, y5, y6, y7, y8, y9, y10, y11, y12, y13, y14⟩ := x5 n1 nb l1 c0
      obtain ⟨K, z1, z2, z3, z4, z5, z6, z7, z8, z9, z10⟩ := m_stands (I := ab_up1 bm 47 3 (-1)) l1 l2 l3 l4 (by rw [up_ne (by omega)]; exact d0) (by rw [up_ne (by omega)]; exact d1) (by rw [up_ne (by omega)]; exact d2) (by rw [up_ne (by omega)]; exact d3)
      have kJ : ∀ a k, a ≠ 47 → a ≠ 50 → a ≠ 52 → ¬ (55 ≤ a ∧ a < 65) → ¬ (77 ≤ a ∧ a < 93) → ¬ (111 ≤ a ∧ a < 119) → a ≠ 51 → a ≠ 53 → ¬ (66 ≤ a ∧ a < 76) → ¬ (94 ≤ a ∧ a < 110) → ¬ (120 ≤ a ∧ a < 128) → a ≠ 576 → a ≠ 135 → K a k = J a k := fun a k h0 h1 h2 h3 h4 h5 h6 h7 h8 h9 h10 h11 h12 => by rw [z10 a k h6 h7 h8 h9 h10 h11 h12 (by omega), up_ne (by omega), bmI a k (by omega) h1 h2 h3 h4 h5]
      have kI : ∀ a k, (a = 0 ∧ k ≠ 13) ∨ a = 2 ∨ a = 20 ∨ (129 ≤ a ∧ a < 135) ∨ a = 48 ∨ a = 49 ∨ a = 46 → K a k = I a k := fun a k h => by rw [kJ a k (by omega) (by omega) (by omega) (by omega) (by omega) (by omega) (by omega) (by omega) (by omega) (by omega) (by omega) (by omega) (by omega), x4 a k (by omega) (by omega) (by omega) (by omega) (by omega) (by omega) (by omega) (by omega) (by omega)]
      have kL : ∀ a k, a < 47 → K a k = J a k := fun a k h => kJ a k (by omega) (by omega) (by omega) (by omega) (by omega) (by omega) (by omega) (by omega) (by omega) (by omega) (by omega) (by omega) (by omega)
      obtain ⟨⟨bo', st', wa', od', S'⟩, T'⟩ := shop_rel (K := K) hD' ((kI 46 0 (by omega)).trans hS.1.2.2.2.2.2.2.2) ⟨(kL _ _ (by omega)).trans y2.1, (kL _ _ (by omega)).trans y2.2.1, (kL _ _ (by omega)).trans y2.2.2.1, (kL _ _ (by omega)).trans y2.2.2.2.1, (kL _ _ (by omega)).trans y2.2.2.2.2.1, (kL _ _ (by omega)).trans y2.2.2.2.2.2⟩ (fun k hk => ⟨(kL _ _ (by omega)).trans (y3 k hk).1, (kL _ _ (by omega)).trans (y3 k hk).2⟩) (fun k hk => (kL _ _ (by omega)).trans (y4 k hk)) (fun k hk => (kL _ _ (by omega)).trans (y5 k hk)) (fun k hk => (kL _ _ (by omega)).trans (y6 k hk)) (fun k hk => (kL _ _ (by omega)).trans (y7 k hk)) (fun j hj => by rw [z2 j hj, up_ne (by omega)]) (fun c hc => by rw [z3 c hc, up_ne (by omega)]) (fun b hb i hi => by rw [z4 b hb i hi, up_ne (by omega)]) (fun b hb i hi => by rw [z5 b hb i hi, up_ne (by omega)]) (fun b hb i hi => by rw [z6 b hb i hi, up_ne (by omega)]) (fun k hk => by
        rw [z7 k hk]
        by_cases q : 82 ≤ k ∧ k ≤ 87
        · rw [if_pos q, if_pos q]
        · rw [if_neg q, if_neg q]
          by_cases q2 : k < nb
          · rw [if_pos q2, if_pos q2, up_ne (by omega)]
          · rw [if_neg q2, if_neg q2])
      have k47 : ∀ k, ¬ (k = 25 ∨ k = 39 ∨ k = 40 ∨ k = 41 ∨ k = 42) → k ≠ 3 → K 47 k = bm 47 k := fun k h h2 => by rw [z10 47 k (by omega) (by omega) (by omega) (by omega) (by omega) (by omega) (by omega) (by omega), up_ne (by omega)]
      have k473 : K 47 3 = -1 := by rw [z10 47 3 (by omega) (by omega) (by omega) (by omega) (by omega) (by omega) (by omega) (by omega), up_eq]
      obtain ⟨q1, q2, q3, q4, q5⟩ := hC
      obtain ⟨w1, w2, w3, w4⟩ := z9
      obtain ⟨P1, P2, P3, P4, P5, P6⟩ := hP
      refine ⟨_, J, K 51 1, K, x1, hM _ ?_, ⟨tnN nb nc nw no se ha, bo', st', wa', od', 0, pk, 0, fun _ => 0, 0, bh, bs, 0, 0, wt, 0, S', T', ⟨by decide, ?_, fun p hp => ?_, P4, fun p h hp hh => ?_, fun p h hp hh => ?_⟩, ⟨by decide, ?_, ?_, fun k hk => absurd hk (Nat.not_lt_zero k), rfl, fun k hk => absurd hk (Nat.not_lt_zero k), fun h => absurd h (Nat.lt_irrefl 0), fun _ _ => Nat.zero_le _⟩, ⟨by decide, ?_, ?_, fun k hk => absurd hk (Nat.not_lt_zero k), fun k hk => absurd hk (Nat.not_lt_zero k), fun k hk => absurd hk (Nat.not_lt_zero k), fun j k hj => absurd hj (Nat.not_lt_zero j), fun k hk => absurd hk (Nat.not_lt_zero k), fun h hh _ => ?_⟩, ⟨by decide, ?_, ?_, fun k hk => absurd hk (Nat.not_lt_zero k), by decide, ?_, ?_, fun k hk => absurd hk (Nat.not_lt_zero k)⟩, ⟨by decide, ?_, ?_, fun k hk => absurd hk (Nat.not_lt_zero k)⟩, ⟨?_, ?_, ?_, ?_, ?_⟩⟩, okI_0 ?_ ?_⟩
      · rw [if_pos n3, z1, ob_some]
      · rw [kL _ _ (by omega), y8]; rfl
      · rw [z8 p hp, Nat.zero_testBit]; rfl
      · rw [kI _ _ (by omega), P5 p h hp hh]
      · rw [kI _ _ (by omega), P6 p h hp hh]
      · rw [kL _ _ (by omega), y9]; rfl
      · rw [w1]; rfl
      · rw [kL _ _ (by omega), y10]; rfl
      · rw [w2]; rfl
      · rw [kL _ _ (by omega), y11 h hh]
      · rw [kL _ _ (by omega), y12]; rfl
      · rw [w3]; rfl
      · rw [kL _ _ (by omega), y13]; rfl
      · rw [w4.2]; rfl
      · rw [kL _ _ (by omega), x2]
      · rw [k47 1 (by omega) (by omega), b1]
      · rw [kL _ _ (by omega), y14, w4.1]
      · rw [kI _ _ (by omega), kI _ _ (by omega)]; exact q2
      · rw [kI _ _ (by omega), kI _ _ (by omega)]; exact q3
      · rw [kI _ _ (by omega), kI _ _ (by omega)]; exact q4
      · rw [kL _ _ (by omega), x3, n2, k473]
      · rw [k47 0 (by omega) (by omega), b0]
      · rw [y1, c1, z2 1 (by decide), up_ne (by omega), d1]
    · have hf : ¬ bc' 1 5 = 0 := cX_ne g1
      have hf2 : ¬ bm 47 5 = 0 := by rw [g2]; exact neq_l (b := 0) (by have := g1.1; omega) (by have := g1.1; omega) (by decide)
      obtain ⟨y1, y2⟩ := x6 hf
      have kI : ∀ a k, a ≠ 1 → ¬ (9 ≤ a ∧ a ≤ 14) → ¬ (a = 47 ∧ (k = 0 ∨ k = 1 ∨ k = 2 ∨ k = 3 ∨ k = 4 ∨ k = 5 ∨ k = 6 ∨ k = 7 ∨ k = 8)) → a ≠ 50 → a ≠ 52 → ¬ (55 ≤ a ∧ a < 65) → ¬ (77 ≤ a ∧ a < 93) → ¬ (111 ≤ a ∧ a < 119) → (ab_up1 bm 47 3 (bm 47 6)) a k = I a k := fun a k h1 h2 h3 h4 h5 h6 h7 h8 => by rw [up_ne (by omega), bmI a k (by omega) h4 h5 h6 h7 h8, y2 a k h1 h2]
      obtain ⟨q1, q2, q3, q4, q5⟩ := hC
      refine ⟨_, J, bm 47 5 - 10, ab_up1 bm 47 3 (bm 47 6), x1, hM _ ?_, ⟨tn, bl, st, wa, od, tb, pk, ln, ht, nl, bh, bs, nk, ni, wt, 0, rShop_congr (fun a k h => kI a k (by omega) (by omega) (by omega) (by omega) (by omega) (by omega) (by omega) (by omega)) hS, rStand_congr (fun a k h => kI a k (by omega) (by omega) (by omega) (by omega) (by omega) (by omega) (by omega) (by omega)) hD, rPat_congr (fun a k h => kI a k (by omega) (by omega) (by omega) (by omega) (by omega) (by omega) (by omega) (by omega)) hP, rLaw_congr (fun a k h => kI a k (by omega) (by omega) (by omega) (by omega) (by omega) (by omega) (by omega) (by omega)) hL, rBook_congr (fun a k h => kI a k (by omega) (by omega) (by omega) (by omega) (by omega) (by omega) (by omega) (by omega)) hB, rPast_congr (fun a k h => kI a k (by omega) (by omega) (by omega) (by omega) (by omega) (by omega) (by omega) (by omega)) hK, ⟨by decide, ?_, ?_, fun k hk => absurd hk (Nat.not_lt_zero k)⟩, ⟨?_, ?_, ?_, ?_, ?_⟩⟩, okI_0 ?_ ?_⟩
      · rw [if_neg hf2]
        rfl
      · rw [up_ne (by omega), bmI 1 1 (by omega) (by omega) (by omega) (by omega) (by omega) (by omega)]; exact x2
      · rw [up_ne (by omega)]; exact b1
      · rw [kI _ _ (by decide) (by decide) (by decide) (by decide) (by decide) (by decide) (by decide) (by decide), kI _ _ (by decide) (by decide) (by decide) (by decide) (by decide) (by decide) (by decide) (by decide)]; exact q1
      · rw [kI _ _ (by decide) (by decide) (by decide) (by decide) (by decide) (by decide) (by decide) (by decide), kI _ _ (by decide) (by decide) (by decide) (by decide) (by decide) (by decide) (by decide) (by decide)]; exact q2
      · rw [kI _ _ (by decide) (by decide) (by decide) (by decide) (by decide) (by decide) (by decide) (by decide), kI _ _ (by decide) (by decide) (by decide) (by decide) (by decide) (by decide) (by decide) (by decide)]; exact q3
      · rw [kI _ _ (by decide) (by decide) (by decide) (by decide) (by decide) (by decide) (by decide) (by decide), kI _ _ (by decide) (by decide) (by decide) (by decide) (by decide) (by decide) (by decide) (by decide)]; exact q4
      · rw [up_eq, up_ne (by omega), bmI 1 6 (by omega) (by omega) (by omega) (by omega) (by omega) (by omega), x3, g1.2.2, g3]
      · rw [up_ne (by omega)]; exact b0
      · rw [y1, g1.2.1, g2]
  · have e600 : min u 600 = u := by omega
    rw [e600] at hp
    refine qref (E := 1) (w := 1) (by decide) hr0 ?_ ?_ (Or.inl ⟨rfl, rfl⟩)
    · unfold f_x_shop36
      rw [show f_x_needText37 p 600 I = _ from nTx_no (mo := 600) tu hu (by decide) (by rw [e600]; exact hp)]
      rfl
    · unfold f_m_shop267
      have hin : ∀ (z : Int32) (I' : MJ), z = Int32.ofNat u → f_m_in264 p 0 z I' = some 0 := fun z I' h => by
        rw [h]
        exact inW_no hp
      rw [hin _ _ (by rw [up_ne (by omega)]; exact mu), ob_some, if_pos rfl, ob_some, show f_m_bad268 1 1 1 _ = _ from bad_ref (E := 1) (by decide) (by decide), ob_some]
      rfl
