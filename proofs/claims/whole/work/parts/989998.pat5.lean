/-! pattern -/
theorem rP16 : f_pat_readParts72 16 = F_pat_readParts72 (f_pat_readParts72 15) := rfl
theorem mP16 : f_m_part289 16 = F_m_part289 (f_m_part289 15) := rfl
noncomputable def ptE (b9 : MJ) : Option MJ := Option.bind (α := MJ) (if (b9 47 5) = 0 then (if (b9 144 0) < (12 : Int32) then (Option.bind (f_m_wrong278 (4 : Int32) (b9 47 2) b9) fun I20 => some I20) else some b9) else some b9) fun b10 => some b10
theorem pat_read {B : Nat → Nat} {n q : Nat} {C0 K0 : MJ} (hn : n ≤ 100) (h : TT B n (some q) C0 K0) (h4 : K0 47 4 = Int32.ofNat q) (h8 : K0 47 8 = Int32.ofNat 0) : ∃ st bc bm0 bm, f_pat_readFrom71 C0 = some bc ∧ wh (tpM (f_m_part289 16)) (ab_up1 K0 144 0 (0 : Int32)) = some bm0 ∧ ptE bm0 = some bm ∧ TT B n st bc bm ∧ fcP C0 bc ∧ fmP K0 bm ∧ ∀ q', st = some q' → ∀ i, i < 12 → ∃ v, v < 6 ∧ bc 21 i = Int32.ofNat v ∧ bm 137 i = Int32.ofNat v := by
  have hp : pD 0 (ab_up1 C0 22 0 0) (ab_up1 K0 144 0 0) := fun e he => by
    have : e = 0 := by omega
    subst this
    exact ⟨0, by omega, up_eq, up_eq, fun i hi => absurd hi (Nat.not_lt_zero i)⟩
  obtain ⟨st, bc, bm, r1, r2, r3, r4, r5, r6⟩ := top_run (rc := f_pat_readParts72 15) (rm := f_m_part289 15) hn (HC_all hn 15 0 (by omega) (by omega)) (n - q + 1) 0 q (ab_up1 C0 22 0 0) (ab_up1 K0 144 0 0) (by omega) (by omega) (TT_mu (TT_cu h (by decide) (by decide)) (by omega) (by omega)) (by rw [up_ne (by omega)]; exact h4) (by rw [up_ne (by omega)]; exact h8) hp
  have fc : fcP C0 bc := fcP_2 (fun a j z1 z2 z3 => up_ne (by omega)) r4
  have fm : fmP K0 bm := fmP_2 (fun a j z1 z2 => up_ne (by omega)) r5
  have hC : ∀ R, (Option.bind (α := MJ) (if bc 22 0 < (12 : Int32) then (Option.bind (f_tap_fail50 (4 : Int32) (bc 1 3) bc) fun I4 => some I4) else some bc) fun b3 => some b3) = R → f_pat_readFrom71 C0 = R := fun R hh => by
    unfold f_pat_readFrom71
    have e : f_pat_readParts72 16 (0 : Int32) C0 = some bc := by
      rw [rP16]
      unfold F_pat_readParts72
      rw [show f_x_put15 22 (0 : Int32) 0 C0 = some (ab_up1 C0 22 0 0) from put_22 (k := 0) (by decide), ob_some, b_some]
      exact r1
    rw [e, ob_some, show f_x_at16 22 (0 : Int32) bc = some (bc 22 0) from at_22 (k := 0) (by decide), ob_some]
    exact hh
  cases st with
  | none =>
    obtain ⟨b1, b2⟩ := TT_none r3
    refine ⟨none, bc, bm, bm, hC _ ?_, r2, ?_, r3, fc, fm, fun q' e => by cases e⟩
    · rw [x_fail_f b1, ob_some]
      have e : (if bc 22 0 < (12 : Int32) then some bc else some bc) = some bc := by split <;> rfl
      rw [e, ob_some]
    · unfold ptE
      rw [if_neg b2, ob_some]
  | some q' =>
    obtain ⟨l, l1, l2, l3, l4⟩ := r6 q' rfl 0 (Nat.le_refl 0)
    by_cases hl : l < 12
    · obtain ⟨J2, K2, a1, a2, a3, a4, a5⟩ := tt_fail (k := 4) (w := n) (by omega) r3
      refine ⟨none, J2, bm, K2, hC _ ?_, r2, ?_, a3, fcP_1 fc a4, fmP_1 fm a5, fun q' e => by cases e⟩
      · rw [l2, if_pos (show Int32.ofNat l < (12 : Int32) from lt_l (b := 12) hl (by decide)), r3.1.1.2.1, show f_tap_fail50 4 (Int32.ofNat n) bc = some J2 from a1, ob_some, ob_some]
      · unfold ptE
        rw [if_pos (TT_some r3).2.1, l3, if_pos (show Int32.ofNat l < (12 : Int32) from lt_l (b := 12) hl (by decide)), r3.2.1.2.1, show f_m_wrong278 4 (Int32.ofNat n) bm = some K2 from a2, ob_some, ob_some]
    · refine ⟨some q', bc, bm, bm, hC _ ?_, r2, ?_, r3, fc, fm, fun q'' e i hi => ?_⟩
      · rw [l2, if_neg (show ¬ Int32.ofNat l < (12 : Int32) from nlt_l (b := 12) hl (by omega) (by decide)), ob_some]
      · unfold ptE
        rw [if_pos (TT_some r3).2.1, l3, if_neg (show ¬ Int32.ofNat l < (12 : Int32) from nlt_l (b := 12) hl (by omega) (by decide)), ob_some]
      · obtain ⟨v, w1, w2, w3⟩ := l4 i (by omega)
        exact ⟨v, w1, by rw [← w2]; congr 1; omega, w3⟩
theorem tb_set : ∀ t : Nat, t < 64 → ∀ p : Nat, p < 6 → (Int32.ofNat t ||| ((1 : Int32) <<< (Int32.ofNat p &&& 31)) = Int32.ofNat (t ||| 2 ^ p) ∧ (t ||| 2 ^ p) < 64 ∧ ∀ q : Nat, q < 6 → (t ||| 2 ^ p).testBit q = (t.testBit q || decide (q = p))) := by decide +kernel
set_option maxHeartbeats 2000000 in
theorem op_pattern_ok : op_pattern rel := by
  intro p1 p I hr
  have hr0 := hr
  obtain ⟨tn, bl, st, wa, od, tb, pk, ln, ht, nl, bh, bs, nk, ni, wt, u, hS, hD, hP, hL, hB, hK, hT, hC⟩ := hr
  have hu : u ≤ 600 := hT.1
  have tu : I 1 1 = Int32.ofNat u := hT.2.1
  have mu : I 47 1 = Int32.ofNat u := hT.2.2.1
  rcases range_cases p1 (n := 6) (by omega) with ⟨g, hg, rfl⟩ | hg
  · rcases rcW p (lo := 0) (hi := min u 100) (by omega) (Nat.zero_le _) with ⟨n, -, hn, rfl⟩ | hp
    · obtain ⟨B, hTB⟩ := tape_B hT
      have hn1 : n ≤ u := by omega
      have hn2 : n ≤ 100 := by omega
      have hn6 : n ≤ 600 := by omega
      obtain ⟨C0, o1, o2, o3⟩ := x_open (I := I) (B := B) hn6 (fun k hk => ⟨(hTB k (by omega)).1, (hTB k (by omega)).2.2⟩)
      obtain ⟨K0, s1, s2, s3, s4, s5⟩ := m_starts (I := I) (B := B) hn6 (fun k hk => ⟨(hTB k (by omega)).1, (hTB k (by omega)).2.1⟩)
      obtain ⟨st0, bc, bm00, bm01, r1, -, -, r3, r4, -, r6⟩ := pat_read (K0 := K0) hn2 ⟨o2, s2⟩ s3 s4.2.2
      have bcI : ∀ a k, ¬ (a = 1 ∧ 2 ≤ k ∧ k ≤ 6) → a ≠ 21 → a ≠ 22 → bc a k = I a k := fun a k h1 h2 h3 => by rw [r4 a k (by omega) h2 h3, o3 a k h1]
      have e12 : (12 : Int32) * Int32.ofNat g = Int32.ofNat (12 * g) := i_mull
      have hX : ∃ v J, f_x_pattern67 (Int32.ofNat g) (Int32.ofNat n) I = some (.inr v, J) ∧ J 1 1 = Int32.ofNat 0 ∧ J 1 6 = bc 1 6 ∧ (∀ a k, a ≠ 1 → a ≠ 21 → a ≠ 22 → ¬ (a = 19 ∧ k = 3) → a ≠ 20 → J a k = I a k) ∧ (bc 1 5 = 0 → v = runsF (fun h => bc 21 h) ∧ J 19 3 = I 19 3 ||| ((1 : Int32) <<< (Int32.ofNat g &&& 31)) ∧ ∀ k, J 20 k = if 12 * g ≤ k ∧ k < 12 * g + 12 then bc 21 (k - 12 * g) else I 20 k) ∧ (¬ bc 1 5 = 0 → v = bc 1 5 - 10 ∧ J 19 3 = I 19 3 ∧ ∀ k, J 20 k = I 20 k) := by
        unfold f_x_pattern67
        rw [nP_ok hg, tb_inr, show f_x_needText37 (Int32.ofNat n) 100 I = _ from nTx_ok (mo := 100) tu hu (by omega) (by omega) (by decide), tb_inr, o1, ob_some, r1, ob_some, x_sound, ob_some]
        by_cases h5 : bc 1 5 = 0
        · rw [if_pos h5, if_neg (by decide)]
          unfold f_pat_keep78
          rw [e12, show f_x_copy22 21 0 20 (Int32.ofNat (12 * g)) 12 (ab_up1 bc 19 3 (bc 19 3 ||| ((1 : Int32) <<< (Int32.ofNat g &&& 31)))) = _ from copy_ok (la := 84) (lb := 72) (sp := 0) (dp := 12 * g) (n := 12) rfl rfl (by decide) (by decide) (by decide) (by omega) (by decide) (by decide), ob_some, ob_some, ob_some, x_runsOf (n := 72) rfl (by decide) (by decide) (by omega), ob_some, x_close, ob_some]
          dsimp only
          have hcp : ∀ a k, a ≠ 20 → ¬ (a = 19 ∧ k = 3) → ab_cpy (ab_up1 bc 19 3 (bc 19 3 ||| ((1 : Int32) <<< (Int32.ofNat g &&& 31)))) 21 20 0 (12 * g) 12 a k = bc a k := fun a k h1 h2 => by rw [cpy_ne h1, up_ne h2]
          have h20 : ∀ k, ab_cpy (ab_up1 bc 19 3 (bc 19 3 ||| ((1 : Int32) <<< (Int32.ofNat g &&& 31)))) 21 20 0 (12 * g) 12 20 k = if 12 * g ≤ k ∧ k < 12 * g + 12 then bc 21 (k - 12 * g) else I 20 k := fun k => by
            rw [cpy_at, up_ne (by omega), up_ne (by omega), bcI 20 k (by omega) (by omega) (by omega), show 0 + (k - 12 * g) = k - 12 * g by omega]
          refine ⟨_, _, rfl, (up_eq (I := ab_cpy (ab_up1 bc 19 3 (bc 19 3 ||| ((1 : Int32) <<< (Int32.ofNat g &&& 31)))) 21 20 0 (12 * g) 12) (a := 1) (j := 1) (x := 0)), ?_, fun a k h1 h2 h3 h4 h5 => ?_, fun _ => ⟨?_, ?_, fun k => ?_⟩, fun z => absurd h5 z⟩
          · rw [up_ne (by omega), hcp 1 6 (by decide) (by decide)]
          · rw [up_ne (by omega), hcp a k h5 h4, bcI a k (by omega) h2 h3]
          · rw [if_pos (by rw [hcp 1 5 (by decide) (by decide)]; exact h5)]
            exact runsF_congr fun k hk => by rw [h20, if_pos (by omega), show 12 * g + k - 12 * g = k by omega]
          · rw [up_ne (by omega), cpy_ne (by decide), up_eq, bcI 19 3 (by omega) (by omega) (by omega)]
          · rw [up_ne (by omega), h20]
        · rw [if_neg h5, if_pos rfl, ob_some, e12, x_runsOf (n := 72) rfl (by decide) (by decide) (by omega), ob_some, x_close, ob_some]
          dsimp only
          refine ⟨_, _, rfl, (up_eq (I := bc) (a := 1) (j := 1) (x := 0)), ?_, fun a k h1 h2 h3 h4 h5 => ?_, fun z => absurd z h5, fun _ => ⟨?_, ?_, fun k => ?_⟩⟩
          · rw [up_ne (by omega)]
          · rw [up_ne (by omega), bcI a k (by omega) h2 h3]
          · rw [if_neg h5]
          · rw [up_ne (by omega), bcI _ _ (by omega) (by omega) (by omega)]
          · rw [up_ne (by omega), bcI _ _ (by omega) (by omega) (by omega)]
      obtain ⟨v, J, x1, x2, x3, x4, x5, x6⟩ := hX
      -- the model's
      have J48 : ∀ k, J 48 k = I 48 k := fun k => x4 _ _ (by omega) (by omega) (by omega) (by omega) (by omega)
      have J471 : J 47 1 = Int32.ofNat u := by rw [x4 _ _ (by omega) (by omega) (by omega) (by omega) (by omega)]; exact mu
      obtain ⟨K1, t1, t2, t3, t4, t5⟩ := m_starts (I := ab_up1 J 47 0 0) (B := B) hn6 (fun k hk => ⟨(hTB k (by omega)).1, by rw [up_ne (by omega), J48]; exact (hTB k (by omega)).2.1⟩)
      obtain ⟨sz, bc', bm0, bm, r1', q1, q2, q3, -, q5, q6⟩ := pat_read (K0 := K1) hn2 ⟨o2, t2⟩ t3 t4.2.2
      have hbc : bc' = bc := Option.some.inj (r1'.symm.trans r1)
      subst hbc
      have bmI : ∀ a k, ¬ (a = 47 ∧ (k = 0 ∨ k = 1 ∨ k = 2 ∨ k = 4 ∨ k = 5 ∨ k = 6 ∨ k = 7 ∨ k = 8)) → ¬ (137 ≤ a ∧ a ≤ 144) → bm a k = J a k := fun a k h1 h2 => by rw [q5 a k (by omega) h2, t5 a k (by omega), up_ne (by omega)]
      have b1 : bm 47 1 = Int32.ofNat 0 := by rw [q5 47 1 (by omega) (by omega)]; exact t4.1
      have b0 : bm 47 0 = 0 := by rw [q5 47 0 (by omega) (by omega), t5 47 0 (by omega), up_eq]
      have hgd := mTx_ok (I := ab_up1 J 47 0 0) (k := n) (mo := 100) (u := u) (by rw [up_ne (by omega)]; exact J471) hu hn2 hn1 (by decide)
      have hM : ∀ R, (if (bm 47 5) = 0 then (Option.bind (wrb (ab_up1 bm 47 3 (-1 : Int32)) 135 (Int32.ofNat g) (1 : Int32)) fun I11 => Option.bind (wh (β := MJ) (fun (s12 : Int32 × MJ) => (if s12.1 < (12 : Int32) then (Option.bind (rdp 128 (Int32.ofNat g)) fun r16 => Option.bind (rd s12.2 137 s12.1) fun v17 => Option.bind (wr s12.2 r16 s12.1 v17) fun I18 => some (.inl ((s12.1 + (1 : Int32)), I18))) else some (.inr s12.2))) ((0 : Int32), I11)) fun b13 => Option.bind (rdp 128 (Int32.ofNat g)) fun r14 => Option.bind (f_m_runsOf291 r14 (0 : Int32) b13) fun v15 => some (v15, b13)) else (Option.bind (f_m_ends286 bm) fun w19 => some (w19.1, w19.2))) = R → f_m_pattern287 (Int32.ofNat g) (Int32.ofNat n) J = R := fun R hh => by
        unfold f_m_pattern287
        rw [mP_ok hg, ob_some, if_neg (by decide), ob_some, bad_0 up_eq, ob_some, if_pos rfl]
        try dsimp only
        refine (bind_key hgd).trans ?_
        try dsimp only
        rw [bad_0 up_eq, ob_some, if_pos rfl]
        try dsimp only
        rw [t1, ob_some]
        refine (congrArg (fun z => Option.bind z _) (show wh (tpM (f_m_part289 16)) (ab_up1 K1 144 0 (0 : Int32)) = some bm0 from q1)).trans ?_
        rw [ob_some]
        refine Eq.trans ?_ hh
        have q2' := q2
        unfold ptE at q2'
        rw [b_some] at q2'
        refine (congrArg (fun z => Option.bind z _) q2').trans ?_
        rw [ob_some]
      obtain ⟨c1, c2, c3, c4, c5⟩ := hC
      cases sz with
      | some q' =>
        have n1 : bc' 1 5 = 0 := (TT_some q3).1
        have n3 : bm 47 5 = 0 := (TT_some q3).2.1
        have n2 : bc' 1 6 = -1 := q3.1.2.2.1
        obtain ⟨y1, y2, y3⟩ := x5 n1
        have h137 : ∀ i, i < 12 → (bm 137 i).toNatClampNeg < 6 ∧ bm 137 i = Int32.ofNat (bm 137 i).toNatClampNeg ∧ bc' 21 i = Int32.ofNat (bm 137 i).toNatClampNeg := fun i hi => by
          obtain ⟨v, w1, w2, w3⟩ := q6 q' rfl i hi
          obtain ⟨z1, z2⟩ := clampd w3 (by omega)
          exact ⟨by omega, z1, by rw [z2]; exact w2⟩
        obtain ⟨K, k1, k2, k3⟩ : ∃ K, wh (β := MJ) (fun (s12 : Int32 × MJ) => (if s12.1 < (12 : Int32) then (Option.bind (rdp 128 (Int32.ofNat g)) fun r16 => Option.bind (rd s12.2 137 s12.1) fun v17 => Option.bind (wr s12.2 r16 s12.1 v17) fun I18 => some (.inl ((s12.1 + (1 : Int32)), I18))) else some (.inr s12.2))) ((0 : Int32), ab_up1 (ab_up1 bm 47 3 (-1 : Int32)) 135 g 1) = some K ∧ (∀ a k, a ≠ 129 + g → K a k = (ab_up1 (ab_up1 bm 47 3 (-1 : Int32)) 135 g 1) a k) ∧ ∀ k, k < 12 → K (129 + g) k = bm 137 k := by
          refine wh_inv (fun i s => ∃ L : MJ, s = (Int32.ofNat i, L) ∧ (∀ a k, a ≠ 129 + g → L a k = (ab_up1 (ab_up1 bm 47 3 (-1 : Int32)) 135 g 1) a k) ∧ ∀ k, k < i → L (129 + g) k = bm 137 k) (fun K : MJ => (∀ a k, a ≠ 129 + g → K a k = (ab_up1 (ab_up1 bm 47 3 (-1 : Int32)) 135 g 1) a k) ∧ ∀ k, k < 12 → K (129 + g) k = bm 137 k) 12 ?_ ?_ ⟨_, rfl, fun _ _ _ => rfl, fun k hk => absurd hk (Nat.not_lt_zero k)⟩
          · intro i hi s hs
            obtain ⟨L, rfl, j1, j2⟩ := hs
            try dsimp only
            rw [if_pos (show Int32.ofNat i < (12 : Int32) from lt_l (b := 12) hi (by decide)), rdp_128 hg, ob_some, show rd L 137 (Int32.ofNat i) = some (L 137 i) from rdr_136 (w := 0) (by decide) hi, ob_some, wrr_128 hg hi, ob_some]
            refine ⟨_, rfl, _, Prod.ext i_addr rfl, fun a k ha => by rw [up_ne (fun z => ha z.1), j1 a k ha], fun k hk => ?_⟩
            by_cases e : k = i
            · subst e
              rw [up_eq, j1 137 k (by omega), up_ne (by omega), up_ne (by omega)]
            · rw [up_ne (fun z => e z.2), j2 k (by omega)]
          · intro s hs
            obtain ⟨L, rfl, j1, j2⟩ := hs
            try dsimp only
            rw [if_neg (show ¬ Int32.ofNat 12 < (12 : Int32) from nlt_l (b := 12) (by decide) (by decide) (by decide))]
            exact ⟨_, rfl, j1, j2⟩
        have kJ : ∀ a k, a ≠ 129 + g → ¬ (a = 47 ∧ (k = 0 ∨ k = 1 ∨ k = 2 ∨ k = 3 ∨ k = 4 ∨ k = 5 ∨ k = 6 ∨ k = 7 ∨ k = 8)) → ¬ (137 ≤ a ∧ a ≤ 144) → ¬ (a = 135 ∧ k = g) → K a k = J a k := fun a k h1 h2 h3 h4 => by rw [k2 a k h1, up_ne h4, up_ne (by omega), bmI a k (by omega) h3]
        have kI : ∀ a k, a ≠ 129 + g → ¬ (a = 47 ∧ (k = 0 ∨ k = 1 ∨ k = 2 ∨ k = 3 ∨ k = 4 ∨ k = 5 ∨ k = 6 ∨ k = 7 ∨ k = 8)) → ¬ (137 ≤ a ∧ a ≤ 144) → ¬ (a = 135 ∧ k = g) → a ≠ 1 → a ≠ 21 → a ≠ 22 → ¬ (a = 19 ∧ k = 3) → a ≠ 20 → K a k = I a k := fun a k h1 h2 h3 h4 h5 h6 h7 h8 h9 => by rw [kJ a k h1 h2 h3 h4, x4 a k h5 h6 h7 h8 h9]
        obtain ⟨P1, P2, P3, P4, P5, P6⟩ := hP
        obtain ⟨v1, v2, v3⟩ := tb_set tb P1 g hg
        refine ⟨_, J, runsF (fun h => K (129 + g) (0 + h)), K, x1, hM _ ?_, ⟨tn, bl, st, wa, od, tb ||| 2 ^ g, (fun q h => if q = g then (bm 137 h).toNatClampNeg else pk q h), ln, ht, nl, bh, bs, nk, ni, wt, 0, rShop_congr (fun a k h => kI a k (by omega) (by omega) (by omega) (by omega) (by omega) (by omega) (by omega) (by omega) (by omega)) hS, rStand_congr (fun a k h => kI a k (by omega) (by omega) (by omega) (by omega) (by omega) (by omega) (by omega) (by omega) (by omega)) hD, ⟨v2, ?_, fun q hq => ?_, fun q h hq hh => ?_, fun q h hq hh => ?_, fun q h hq hh => ?_⟩, rLaw_congr (fun a k h => kI a k (by omega) (by omega) (by omega) (by omega) (by omega) (by omega) (by omega) (by omega) (by omega)) hL, rBook_congr (fun a k h => kI a k (by omega) (by omega) (by omega) (by omega) (by omega) (by omega) (by omega) (by omega) (by omega)) hB, rPast_congr (fun a k h => kI a k (by omega) (by omega) (by omega) (by omega) (by omega) (by omega) (by omega) (by omega) (by omega)) hK, ⟨by decide, ?_, ?_, fun k hk => absurd hk (Nat.not_lt_zero k)⟩, ⟨?_, ?_, ?_, ?_, ?_⟩⟩, okI_0 ?_ ?_⟩
        · rw [if_pos n3, wrb_135 hg, nar_1, ob_some, k1, ob_some, rdp_128 hg, ob_some, show f_m_runsOf291 (129 + g) 0 K = _ from m_runsOf (n := 12) (f := 0) (KS_128 g hg) (by omega) (by decide) (by decide), ob_some]
        · rw [kJ 19 3 (by omega) (by omega) (by omega) (by omega), y2, P2, v1]
        · by_cases e : q = g
          · subst e
            rw [k2 _ _ (by omega), up_eq, v3 q hq, decide_eq_true rfl, Bool.or_true]
            rfl
          · rw [kI 135 q (by omega) (by omega) (by omega) (by omega) (by omega) (by omega) (by omega) (by omega) (by omega), P3 q hq, v3 q hq, decide_eq_false e, Bool.or_false]
        · try dsimp only
          by_cases e : q = g
          · rw [if_pos e]; exact (h137 h hh).1
          · rw [if_neg e]; exact P4 q h hq hh
        · try dsimp only
          by_cases e : q = g
          · rw [if_pos e, e, k3 h hh]; exact (h137 h hh).2.1
          · rw [if_neg e, kI _ _ (by omega) (by omega) (by omega) (by omega) (by omega) (by omega) (by omega) (by omega) (by omega)]; exact P5 q h hq hh
        · try dsimp only
          rw [kJ 20 _ (by omega) (by omega) (by omega) (by omega), y3]
          by_cases e : q = g
          · rw [if_pos e, e, if_pos (by omega), show 12 * g + h - 12 * g = h by omega]; exact (h137 h hh).2.2
          · rw [if_neg e, if_neg (by omega)]; exact P6 q h hq hh
        · rw [kJ 1 1 (by omega) (by omega) (by omega) (by omega), x2]
        · rw [k2 _ _ (by omega), up_ne (by omega), up_ne (by omega)]; exact b1
        · rw [kI _ _ (by omega) (by omega) (by omega) (by omega) (by omega) (by omega) (by omega) (by omega) (by omega), kI _ _ (by omega) (by omega) (by omega) (by omega) (by omega) (by omega) (by omega) (by omega) (by omega)]; exact c1
        · rw [kI _ _ (by omega) (by omega) (by omega) (by omega) (by omega) (by omega) (by omega) (by omega) (by omega), kI _ _ (by omega) (by omega) (by omega) (by omega) (by omega) (by omega) (by omega) (by omega) (by omega)]; exact c2
        · rw [kI _ _ (by omega) (by omega) (by omega) (by omega) (by omega) (by omega) (by omega) (by omega) (by omega), kI _ _ (by omega) (by omega) (by omega) (by omega) (by omega) (by omega) (by omega) (by omega) (by omega)]; exact c3
        · rw [kI _ _ (by omega) (by omega) (by omega) (by omega) (by omega) (by omega) (by omega) (by omega) (by omega), kI _ _ (by omega) (by omega) (by omega) (by omega) (by omega) (by omega) (by omega) (by omega) (by omega)]; exact c4
        · rw [kJ 1 6 (by omega) (by omega) (by omega) (by omega), x3, n2, k2 _ _ (by omega), up_ne (by omega), up_eq]
        · rw [k2 _ _ (by omega), up_ne (by omega), up_ne (by omega)]; exact b0
        · rw [y1]
          exact runsF_congr fun k hk => by rw [show 0 + k = k by omega, k3 k hk, (h137 k hk).2.1]; exact (h137 k hk).2.2
      | none =>
        obtain ⟨k, w, g1, g2⟩ := q3
        have hf : ¬ bc' 1 5 = 0 := cX_ne g1
        have hf2 : ¬ bm 47 5 = 0 := mX_ne g2
        obtain ⟨y1, y2, y3⟩ := x6 hf
        have kI : ∀ a k, a ≠ 1 → ¬ (a = 47 ∧ (k = 0 ∨ k = 1 ∨ k = 2 ∨ k = 3 ∨ k = 4 ∨ k = 5 ∨ k = 6 ∨ k = 7 ∨ k = 8)) → ¬ (137 ≤ a ∧ a ≤ 144) → a ≠ 21 → a ≠ 22 → (ab_up1 bm 47 3 (bm 47 6)) a k = I a k := fun a k h1 h2 h3 h4 h5 => by
          rw [up_ne (by omega), bmI a k (by omega) h3]
          by_cases e : a = 19 ∧ k = 3
          · obtain ⟨rfl, rfl⟩ := e
            exact y2
          · by_cases e2 : a = 20
            · subst e2
              exact y3 k
            · exact x4 a k h1 h4 h5 e e2
        refine ⟨_, J, bm 47 5 - 10, ab_up1 bm 47 3 (bm 47 6), x1, hM _ ?_, ⟨tn, bl, st, wa, od, tb, pk, ln, ht, nl, bh, bs, nk, ni, wt, 0, rShop_congr (fun a k h => kI a k (by omega) (by omega) (by omega) (by omega) (by omega)) hS, rStand_congr (fun a k h => kI a k (by omega) (by omega) (by omega) (by omega) (by omega)) hD, rPat_congr (fun a k h => kI a k (by omega) (by omega) (by omega) (by omega) (by omega)) hP, rLaw_congr (fun a k h => kI a k (by omega) (by omega) (by omega) (by omega) (by omega)) hL, rBook_congr (fun a k h => kI a k (by omega) (by omega) (by omega) (by omega) (by omega)) hB, rPast_congr (fun a k h => kI a k (by omega) (by omega) (by omega) (by omega) (by omega)) hK, ⟨by decide, ?_, ?_, fun k hk => absurd hk (Nat.not_lt_zero k)⟩, ⟨?_, ?_, ?_, ?_, ?_⟩⟩, okI_0 ?_ ?_⟩
        · rw [if_neg hf2]
          rfl
        · rw [up_ne (by omega), bmI 1 1 (by omega) (by omega)]; exact x2
        · rw [up_ne (by omega)]; exact b1
        · rw [kI _ _ (by decide) (by decide) (by decide) (by decide) (by decide), kI _ _ (by decide) (by decide) (by decide) (by decide) (by decide)]; exact c1
        · rw [kI _ _ (by decide) (by decide) (by decide) (by decide) (by decide), kI _ _ (by decide) (by decide) (by decide) (by decide) (by decide)]; exact c2
        · rw [kI _ _ (by decide) (by decide) (by decide) (by decide) (by decide), kI _ _ (by decide) (by decide) (by decide) (by decide) (by decide)]; exact c3
        · rw [kI _ _ (by decide) (by decide) (by decide) (by decide) (by decide), kI _ _ (by decide) (by decide) (by decide) (by decide) (by decide)]; exact c4
        · rw [up_eq, up_ne (by omega), bmI 1 6 (by omega) (by omega), x3, g1.2.2, g2.2.2.1]
        · rw [up_ne (by omega)]; exact b0
        · rw [y1, g1.2.1, g2.2.1]
    · refine qref (E := 1) (w := 2) (by decide) hr0 ?_ ?_ (Or.inr ⟨rfl, rfl⟩)
      · unfold f_x_pattern67
        rw [nP_ok hg, tb_inr, show f_x_needText37 p 100 I = _ from nTx_no (mo := 100) tu hu (by decide) hp]
        rfl
      · unfold f_m_pattern287
        rw [mP_ok hg, ob_some, if_neg (by decide), ob_some, bad_0 up_eq, ob_some, if_pos rfl]
        try dsimp only
        refine (bind_key (mTx_bad (I := ab_up1 (ab_up1 I 0 (14 + 1) (I 0 (14 + 1) + 1)) 47 0 0) (mo := 100) mu hu (by decide) hp)).trans ?_
        try dsimp only
        rw [show f_m_bad268 1 2 1 _ = _ from bad_ref (E := 1) (by decide) (by decide)]
        rfl
  · refine qref (E := 0) (w := 1) (by decide) hr0 ?_ ?_ (Or.inl ⟨rfl, rfl⟩)
    · unfold f_x_pattern67
      rw [nP_no hg]
      rfl
    · unfold f_m_pattern287
      rw [mP_no hg, ob_some, if_pos rfl, ob_some, show f_m_bad268 1 1 0 _ = _ from bad_ref (E := 0) (by decide) (by decide)]
      rfl
