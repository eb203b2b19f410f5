/-! span -/
def spL (H : Nat → Int32) : Nat → Int32
  | 0 => 1000000
  | i + 1 => if H i < spL H i then H i else spL H i
def spN (H : Nat → Int32) : Nat → Int32
  | 0 => -1
  | i + 1 => if spN H i = -1 then H i else if spN H i < H i then spN H i else H i
def spM (H : Nat → Int32) : Nat → Int32
  | 0 => 0
  | i + 1 => if spM H i < H i then H i else spM H i
theorem sp_eq {H : Nat → Int32} (h : ∀ i, ∃ m, m ≤ 600 ∧ H i = Int32.ofNat m) : ∀ i, (∃ m, m ≤ 600 ∧ spL H (i + 1) = Int32.ofNat m) ∧ spN H (i + 1) = spL H (i + 1)
  | 0 => by
    obtain ⟨m, m1, m2⟩ := h 0
    have e1 : spL H (0 + 1) = H 0 := if_pos (by rw [m2]; exact (show Int32.ofNat m < (1000000 : Int32) from lt_l (a := m) (b := 1000000) (by omega) (by omega)))
    exact ⟨⟨m, m1, e1.trans m2⟩, e1.symm⟩
  | i + 1 => by
    obtain ⟨⟨m, m1, m2⟩, ih⟩ := sp_eq h i
    obtain ⟨k, k1, k2⟩ := h (i + 1)
    have e1 : spN H (i + 1 + 1) = if H (i + 1) < spL H (i + 1) then H (i + 1) else spL H (i + 1) := by
      show (if spN H (i + 1) = -1 then H (i + 1) else if spN H (i + 1) < H (i + 1) then spN H (i + 1) else H (i + 1)) = _
      rw [ih, if_neg (by rw [m2, i_neg1 (by omega)]; exact id), i_less]
    refine ⟨?_, e1⟩
    show ∃ m, m ≤ 600 ∧ (if H (i + 1) < spL H (i + 1) then H (i + 1) else spL H (i + 1)) = Int32.ofNat m
    split
    · exact ⟨k, k1, k2⟩
    · exact ⟨m, m1, m2⟩
theorem sm_nat {t : Nat → Int32} : ∀ {n : Nat}, (∀ b, b < n → ∃ m, m ≤ 60 ∧ t b = Int32.ofNat m) → ∃ m, m ≤ 60 * n ∧ sm t n = Int32.ofNat m
  | 0, _ => ⟨0, by omega, rfl⟩
  | n + 1, h => by
    obtain ⟨m, m1, m2⟩ := sm_nat (t := t) (n := n) (fun b hb => h b (by omega))
    obtain ⟨k, k1, k2⟩ := h n (by omega)
    refine ⟨m + k, by omega, ?_⟩
    show sm t n + t n = _
    rw [m2, k2, i_add]
set_option maxHeartbeats 2000000 in
theorem op_span_ok : op_span rel := by
  intro seed p2 p3 p4 p5 p6 I hr
  have hr0 := hr
  obtain ⟨tn, bl, st, wa, od, tb, pk, ln, ht, nl, bh, bs, nk, ni, wt, u, hS, hD, hP, hL, hB, hK, hT, hC⟩ := hr
  obtain ⟨s1, s2, s3, s4, s5, s6, s7, s8, s9, s10, s11, s12, s13, s14, s15, s16, s17⟩ := hS
  obtain ⟨d1, d2⟩ := hD
  have hp := lawP_of hL
  obtain ⟨g1, g2, g3, g4, g5, g6⟩ := hP
  obtain ⟨day, hday, hd, hd3, hd4, hd5⟩ := d2
  have hlm : lawM ln (fun k => I (146 + k) 0) (fun k => I (146 + k) 1) I := ⟨hL.2.2.1, fun _ _ => ⟨rfl, rfl⟩⟩
  have t5 : I 3 5 = Int32.ofNat (tn 0) := s3 0 (by decide)
  have t8 : I 3 8 = Int32.ofNat (tn 3) := s3 3 (by decide)
  have u0 : I 51 0 = Int32.ofNat (tn 0) := s2 0 (by decide)
  have u1 : I 51 1 = Int32.ofNat (tn 1) := s2 1 (by decide)
  have u3 : I 51 3 = Int32.ofNat (tn 3) := s2 3 (by decide)
  have p1 := hp.1
  have u3' : (ab_up1 (ab_up1 I 0 (14 + 1) (I 0 (14 + 1) + 1)) 47 0 0) 51 3 = Int32.ofNat (tn 3) := u3
  rcases rcW p2 (lo := 1) (hi := 20) (by decide) (by decide) with ⟨many, hm1, hm2, rfl⟩ | hb2
  · rcases rcW p3 (lo := 0) (hi := 16) (by decide) (by decide) with ⟨q, -, hq, rfl⟩ | hb3
    · rcases rcW p4 (lo := 1) (hi := 60) (by decide) (by decide) with ⟨days, hds1, hds, rfl⟩ | hb4
      · rcases rcW p5 (lo := 0) (hi := 2) (by decide) (by decide) with ⟨kw, -, hw, rfl⟩ | hb5
        · rcases range_cases p6 (n := tn 3) (by omega) with ⟨o, ho, rfl⟩ | hb6
          · have hpo : od o 1 < 6 := (s15 o ho).2.1
            have hH : ∀ i, ∃ m, m ≤ 600 ∧ sm (fun b => (shL (tn 0) q (seed + Int32.ofNat i) (I 576) days).2 b) (tn 0) = Int32.ofNat m := fun i => by
              obtain ⟨m, m1, m2⟩ := sm_nat (t := fun b => (shL (tn 0) q (seed + Int32.ofNat i) (I 576) days).2 b) (n := tn 0) (fun b hb => by
                obtain ⟨m, m1, m2, -⟩ := shL_ok (nb := tn 0) (q := q) (s0 := seed + Int32.ofNat i) (L0 := I 576) hd3 days b (by omega)
                exact ⟨m, m1, m2⟩)
              exact ⟨m, by omega, m2⟩
            generalize hHd : (fun i : Nat => sm (fun b => (shL (tn 0) q (seed + Int32.ofNat i) (I 576) days).2 b) (tn 0)) = H at *
            have hHi : ∀ i, sm (fun b => (shL (tn 0) q (seed + Int32.ofNat i) (I 576) days).2 b) (tn 0) = H i := fun i => by rw [← hHd]
            have hH' : ∀ i, ∃ m, m ≤ 600 ∧ H i = Int32.ofNat m := fun i => by rw [← hHi]; exact hH i
            generalize hCd : (fun i : Nat => if tb.testBit (od o 1) = true ∧ (cutF (fun b => bl b 0) (tn 0) (fun h => Int32.ofNat (pk (od o 1) h)) 12 1 (shL (tn 0) q (seed + Int32.ofNat i) (I 576) days).2).1 = true then (1 : Int32) else 0) = C
            have hCi : ∀ i, (if tb.testBit (od o 1) = true ∧ (cutF (fun b => bl b 0) (tn 0) (fun h => Int32.ofNat (pk (od o 1) h)) 12 1 (shL (tn 0) q (seed + Int32.ofNat i) (I 576) days).2).1 = true then (1 : Int32) else 0) = C i := fun i => by rw [← hCd]
            have hC01 : ∀ i, C i = 0 ∨ C i = 1 := fun i => by
              rw [← hCi]
              split
              · exact Or.inr rfl
              · exact Or.inl rfl
            have hCid : ∀ i, (if C i = 0 then some (0 : Int32) else some (1 : Int32)) = some (C i) := fun i => by
              rcases hC01 i with h | h <;> rw [h] <;> rfl
            -- the class' run
            have hx : ∃ v J, f_x_span259 seed (Int32.ofNat many) (Int32.ofNat q) (Int32.ofNat days) (Int32.ofNat kw) (Int32.ofNat o) I = some (.inr v, J) ∧ (∀ a k, a ≠ 18 → a ≠ 28 → J a k = I a k) ∧ v = if kw = 2 then sm C many else if kw = 0 then spL H many else spM H many := by
              unfold f_x_span259
              rw [show f_x_needWithin38 (Int32.ofNat many) 1 20 I = _ from nWW_ok (lo := 1) (hi := 20) hm1 hm2 (by decide), tb_inr, nY_ok hq hds1 hds hw, tb_inr, t8, nWp_ok ho (by omega), tb_inr]
              have loop : ∃ b, wh (β := Int32 × Int32 × Int32 × MJ) (fun (s7 : Int32 × Int32 × Int32 × Int32 × MJ) => (if s7.2.2.2.1 < Int32.ofNat many then (Option.bind (f_sta_copyFrom107 17 15 s7.2.2.2.2) fun I10 => (Option.bind (f_tra_shorten254 (seed + s7.2.2.2.1) (Int32.ofNat q) (Int32.ofNat days) I10) fun I11 => (Option.bind (f_sta_hoursLeft142 17 I11) fun v12 => (Option.bind (f_sta_hoursLeft142 17 I11) fun v13 => (Option.bind (f_sho_orderPart123 (Int32.ofNat o) (1 : Int32) I11) fun v14 => (Option.bind (f_sta_takePattern109 v14 I11) fun w15 => (Option.bind (α := Int32) (if w15.1 = 0 then some (0 : Int32) else some (1 : Int32) ) fun b16 => some (.inl ((if v12 < s7.1 then v12 else s7.1), (if s7.2.1 < v13 then v13 else s7.2.1), (s7.2.2.1 + b16), (s7.2.2.2.1 + (1 : Int32)), w15.2)) ) ) ) ) ) ) ) else some (.inr (s7.1, s7.2.1, s7.2.2.1, s7.2.2.2.2)) ) ) ((1000000 : Int32), (0 : Int32), (0 : Int32), (0 : Int32), I) = some b ∧ b.1 = spL H many ∧ b.2.1 = spM H many ∧ b.2.2.1 = sm C many ∧ ∀ a k, a ≠ 18 → a ≠ 28 → b.2.2.2 a k = I a k := by
                refine wh_inv (fun i s => ∃ J : MJ, s = (spL H i, spM H i, sm C i, Int32.ofNat i, J) ∧ ∀ a k, a ≠ 18 → a ≠ 28 → J a k = I a k) (fun (b : Int32 × Int32 × Int32 × MJ) => b.1 = spL H many ∧ b.2.1 = spM H many ∧ b.2.2.1 = sm C many ∧ ∀ a k, a ≠ 18 → a ≠ 28 → b.2.2.2 a k = I a k) many ?_ ?_ ⟨I, rfl, fun _ _ _ _ => rfl⟩
                · intro i hi s hs
                  obtain ⟨J, rfl, j1⟩ := hs
                  try dsimp only
                  rw [if_pos (by rw [i_lt (by omega) (by omega)]; exact hi), st_copy, ob_some]
                  obtain ⟨M, m1, m2, m3, m4⟩ := x_shorten (I := ab_cpy J 16 18 0 0 91) (s0 := seed + Int32.ofNat i) (L0 := I 576) (nb := tn 0) (by omega) hq hds (by rw [cpy_ne (by decide), j1 3 5 (by decide) (by decide)]; exact t5) (fun b hb => by
                    rw [cpy_at, if_pos ⟨Nat.zero_le _, by omega⟩, show 0 + (9 + b - 0) = 9 + b by omega, j1 16 _ (by decide) (by decide)]
                    exact stE_left d1 hb)
                  have mI : ∀ a k, a ≠ 18 → a ≠ 28 → M a k = I a k := fun a k h1 h2 => by rw [m2 a k h1 h2, cpy_ne h1, j1 a k h1 h2]
                  have hl : f_sta_hoursLeft142 17 M = some (H i) := by
                    rw [x_hoursLeft (t := 17) rfl (by decide), sm_congr (u := fun b => (shL (tn 0) q (seed + Int32.ofNat i) (I 576) days).2 b) (fun b hb => m3 b hb), ← hHi]
                    refine congrArg some (sm_tail (by omega) fun b h1 h2 => ?_)
                    obtain ⟨m, m1, m2, m3⟩ := shL_ok (nb := tn 0) (q := q) (s0 := seed + Int32.ofNat i) (L0 := I 576) hd3 days b h2
                    try dsimp only
                    rw [m2, m3 h1]
                    rfl
                  obtain ⟨N, n1, n2, n3, n4⟩ := x_pattern (I := M) (nb := tn 0) (tb := tb) (p := od o 1) (bk := fun b => bl b 0) (pk := pk) (shL (tn 0) q (seed + Int32.ofNat i) (I 576) days).2 hpo (by omega) (by rw [mI _ _ (by decide) (by decide)]; exact t5) (fun b hb => by rw [mI _ _ (by decide) (by decide)]; exact s7 b hb) g1 (by rw [mI _ _ (by decide) (by decide)]; exact g2) (fun p h hp hh => by rw [mI _ _ (by decide) (by decide)]; exact g6 p h hp hh) (fun b hb => m3 b (by omega))
                  rw [hCi] at n1
                  rw [m1, ob_some, hl, ob_some, ob_some, show f_sho_orderPart123 (Int32.ofNat o) 1 M = some (Int32.ofNat (od o 1)) from x_orderPart (j := 1) ho (by omega) (by decide) (fun o j ho hj => by rw [mI _ _ (by decide) (by decide)]; exact s17 o j ho hj), ob_some, n1, ob_some]
                  try dsimp only
                  rw [hCid, ob_some]
                  exact ⟨_, rfl, N, Prod.ext rfl (Prod.ext rfl (Prod.ext rfl (Prod.ext i_addr rfl))), fun a k h1 h2 => by rw [n2 a k h1, mI a k h1 h2]⟩
                · intro s hs
                  obtain ⟨J, rfl, j1⟩ := hs
                  try dsimp only
                  rw [if_neg Int32.lt_irrefl]
                  exact ⟨_, rfl, rfl, rfl, rfl, j1⟩
              obtain ⟨⟨b1, b2, b3, J⟩, l1, l2, l3, l4, l5⟩ := loop
              dsimp only at l2 l3 l4 l5
              subst l2 l3 l4
              refine ⟨_, J, ?_, l5, rfl⟩
              refine (congrArg (fun z => Option.bind z _) l1).trans ?_
              rw [ob_some]
              try dsimp only
              by_cases hk2 : kw = 2
              · subst hk2
                rw [if_pos (show Int32.ofNat 2 = 2 from rfl), if_pos rfl]
              · rw [if_neg (show ¬ Int32.ofNat kw = 2 from neq_l (b := 2) hk2 (by omega) (by decide)), if_neg hk2]
                by_cases hk0 : kw = 0
                · subst hk0
                  rw [if_pos (show Int32.ofNat 0 = 0 from rfl), if_pos rfl, ob_some]
                · rw [if_neg (show ¬ Int32.ofNat kw = 0 from neq_l (b := 0) hk0 (by omega) (by decide)), if_neg hk0, ob_some]
            obtain ⟨v, J, x1, x2, x3⟩ := hx
            have hM : ∀ a k, a ≠ 18 → a ≠ 28 → ¬ (a = 47 ∧ k = 0) → ab_up1 J 47 0 0 a k = I a k := fun a k h3 h4 h5 => by rw [up_ne h5, x2 a k h3 h4]
            have hm : ∃ K, f_m_span379 seed (Int32.ofNat many) (Int32.ofNat q) (Int32.ofNat days) (Int32.ofNat kw) (Int32.ofNat o) J = some (v, K) ∧ (∀ a k, a ≠ 493 → a ≠ 494 → a ≠ 600 → a ≠ 577 → a ≠ 599 → ¬ (a = 47 ∧ k = 55) → K a k = ab_up1 J 47 0 0 a k) := by
              unfold f_m_span379
              rw [show f_m_in264 (Int32.ofNat many) 1 20 _ = _ from inW_ok (lo := 1) (hi := 20) hm1 hm2 (by decide), ob_some, if_neg (by decide), show f_m_in264 (Int32.ofNat q) 0 16 _ = _ from inW_ok (lo := 0) (hi := 16) (Nat.zero_le _) hq (by decide), ob_some, if_neg (by decide), show f_m_in264 (Int32.ofNat days) 1 60 _ = _ from inW_ok (lo := 1) (hi := 60) hds1 hds (by decide), ob_some, if_neg (by decide), show f_m_in264 (Int32.ofNat kw) 0 2 _ = _ from inW_ok (lo := 0) (hi := 2) (Nat.zero_le _) hw (by decide), ob_some, if_neg (by decide), mO_ok (I := ab_up1 J 47 0 0) (by rw [hM _ _ (by decide) (by decide) (by decide)]; exact u3) ho (by omega), ob_some, if_neg (by decide), ob_some, bad_0 up_eq, ob_some, if_pos rfl]
              try dsimp only
              have loop : ∃ b, wh (β := Int32 × Int32 × Int32 × MJ) (fun (s4 : Int32 × Int32 × Int32 × Int32 × MJ) => (if s4.2.2.2.1 < Int32.ofNat many then (Option.bind (f_m_shortens377 (seed + s4.2.2.2.1) (Int32.ofNat q) (Int32.ofNat days) s4.2.2.2.2) fun I7 => (Option.bind (f_m_onBolts325 577 I7) fun v8 => (Option.bind (α := Int32) (if s4.1 = (-1 : Int32) then some v8 else (Option.bind (f_m_less319 s4.1 v8 I7) fun v15 => some v15 ) ) fun b9 => (Option.bind (f_m_more320 s4.2.1 v8 I7) fun v10 => (Option.bind (rdp 119 (Int32.ofNat o)) fun r11 => (Option.bind (rd I7 r11 (1 : Int32)) fun v12 => (Option.bind (f_m_cuts307 577 v12 I7) fun w13 => (Option.bind (α := Int32) (if w13.1 = 0 then some (0 : Int32) else some (1 : Int32) ) fun b14 => some (.inl (b9, v10, (s4.2.2.1 + b14), (s4.2.2.2.1 + (1 : Int32)), w13.2)) ) ) ) ) ) ) ) ) else some (.inr (s4.1, s4.2.1, s4.2.2.1, s4.2.2.2.2)) ) ) ((-1 : Int32), (0 : Int32), (0 : Int32), (0 : Int32), ab_up1 J 47 0 0) = some b ∧ b.1 = spN H many ∧ b.2.1 = spM H many ∧ b.2.2.1 = sm C many ∧ ∀ a k, a ≠ 493 → a ≠ 494 → a ≠ 600 → a ≠ 577 → a ≠ 599 → ¬ (a = 47 ∧ k = 55) → b.2.2.2 a k = ab_up1 J 47 0 0 a k := by
                refine wh_inv (fun i s => ∃ K : MJ, s = (spN H i, spM H i, sm C i, Int32.ofNat i, K) ∧ ∀ a k, a ≠ 493 → a ≠ 494 → a ≠ 600 → a ≠ 577 → a ≠ 599 → ¬ (a = 47 ∧ k = 55) → K a k = ab_up1 J 47 0 0 a k) (fun (b : Int32 × Int32 × Int32 × MJ) => b.1 = spN H many ∧ b.2.1 = spM H many ∧ b.2.2.1 = sm C many ∧ ∀ a k, a ≠ 493 → a ≠ 494 → a ≠ 600 → a ≠ 577 → a ≠ 599 → ¬ (a = 47 ∧ k = 55) → b.2.2.2 a k = ab_up1 J 47 0 0 a k) many ?_ ?_ ⟨_, rfl, fun _ _ _ _ _ _ _ _ => rfl⟩
                · intro i hi s hs
                  obtain ⟨K, rfl, j1⟩ := hs
                  have kI : ∀ a k, a ≠ 493 → a ≠ 494 → a ≠ 600 → a ≠ 577 → a ≠ 599 → ¬ (a = 47 ∧ k = 55) → a ≠ 18 → a ≠ 28 → ¬ (a = 47 ∧ k = 0) → K a k = I a k := fun a k h1 h2 h3 h4 h5 h6 h7 h8 h9 => by rw [j1 a k h1 h2 h3 h4 h5 h6, hM a k h7 h8 h9]
                  have k576 : K 576 = I 576 := funext fun k => kI _ _ (by decide) (by decide) (by decide) (by decide) (by decide) (by omega) (by decide) (by decide) (by omega)
                  try dsimp only
                  rw [if_pos (by rw [i_lt (by omega) (by omega)]; exact hi)]
                  obtain ⟨M, m1, m2, m3, m4⟩ := m_shortens (I := K) (s0 := seed + Int32.ofNat i) (nb := tn 0) (nc := tn 1) (q := q) (days := days) hp (lawM_c p1 hlm (kI _ _ (by decide) (by decide) (by decide) (by decide) (by decide) (by decide) (by decide) (by decide) (by decide)) (fun a k h1 h2 => kI _ _ (by omega) (by omega) (by omega) (by omega) (by omega) (by omega) (by omega) (by omega) (by omega))) (by omega) (by omega) hq hds (by rw [kI _ _ (by decide) (by decide) (by decide) (by decide) (by decide) (by decide) (by decide) (by decide) (by decide)]; exact u0) (by rw [kI _ _ (by decide) (by decide) (by decide) (by decide) (by decide) (by decide) (by decide) (by decide) (by decide)]; exact u1) (by rw [k576]; exact hd) hday
                  rw [k576] at m3
                  have mK : ∀ a k, a ≠ 493 → a ≠ 494 → a ≠ 600 → a ≠ 577 → a ≠ 599 → ¬ (a = 47 ∧ k = 55) → a ≠ 18 → a ≠ 28 → ¬ (a = 47 ∧ k = 0) → M a k = I a k := fun a k h1 h2 h3 h4 h5 h6 h7 h8 h9 => by rw [m2 a k h1 h2 h3 h4 h6, kI a k h1 h2 h3 h4 h5 h6 h7 h8 h9]
                  have M0 : M 51 0 = Int32.ofNat (tn 0) := by
                    rw [mK _ _ (by decide) (by decide) (by decide) (by decide) (by decide) (by decide) (by decide) (by decide) (by decide)]
                    exact u0
                  have hl : f_m_onBolts325 577 M = some (H i) := by
                    rw [m_onBolts (I := M) (a := 577) (n := 91) rfl (by decide) (by decide) (by omega) M0, ← hHi]
                    exact congrArg some (sm_congr fun b hb => m3 b (by omega))
                  obtain ⟨N, n1, n2, n3, n4⟩ := m_pattern (I := M) (a := 577) (nb := tn 0) (tb := tb) (p := od o 1) (bk := fun b => bl b 0) (pk := pk) (shL (tn 0) q (seed + Int32.ofNat i) (I 576) days).2 rfl (by decide) (by decide) hpo (by omega) M0 (fun b hb => by
                    rw [mK _ _ (by omega) (by omega) (by omega) (by omega) (by omega) (by omega) (by omega) (by omega) (by omega)]
                    exact s5 b hb) (fun p hp => by
                    rw [mK _ _ (by decide) (by decide) (by decide) (by decide) (by decide) (by omega) (by decide) (by decide) (by omega)]
                    exact g3 p hp) (fun p h hp hh => by
                    rw [mK _ _ (by omega) (by omega) (by omega) (by omega) (by omega) (by omega) (by omega) (by omega) (by omega)]
                    exact g5 p h hp hh) (fun b hb => m3 b (by omega))
                  rw [hCi] at n1
                  have hless : (if spN H i = -1 then some (H i) else Option.bind (f_m_less319 (spN H i) (H i) M) fun v15 => some v15) = some (spN H (i + 1)) := by
                    show _ = some (if spN H i = -1 then H i else if spN H i < H i then spN H i else H i)
                    unfold f_m_less319
                    by_cases h : spN H i = -1
                    · rw [if_pos h, if_pos h]
                    · rw [if_neg h, if_neg h, o_ite, ob_some, ob_some]
                  have hmore : f_m_more320 (spM H i) (H i) M = some (spM H (i + 1)) := by
                    unfold f_m_more320
                    rw [o_ite, ob_some, i_more]
                    rfl
                  have r1 : rd M (120 + o) 1 = some (Int32.ofNat (od o 1)) := by
                    rw [show rd M (120 + o) 1 = some (M (120 + o) 1) from rdr_119 (w := o) (k := 1) (by omega) (by decide), mK _ _ (by omega) (by omega) (by omega) (by omega) (by omega) (by omega) (by omega) (by omega) (by omega), s16 o 1 ho (by decide)]
                  rw [m1, ob_some, hl, ob_some, hless, ob_some, hmore, ob_some, rdp_119 (by omega), ob_some, r1, ob_some, n1, ob_some]
                  try dsimp only
                  rw [hCid, ob_some]
                  exact ⟨_, rfl, N, Prod.ext rfl (Prod.ext rfl (Prod.ext rfl (Prod.ext i_addr rfl))), fun a k h1 h2 h3 h4 h5 h6 => by rw [n2 a k h5, m2 a k h1 h2 h3 h4 h6, j1 a k h1 h2 h3 h4 h5 h6]⟩
                · intro s hs
                  obtain ⟨K, rfl, j1⟩ := hs
                  try dsimp only
                  rw [if_neg Int32.lt_irrefl]
                  exact ⟨_, rfl, rfl, rfl, rfl, j1⟩
              obtain ⟨⟨b1, b2, b3, K⟩, l1, l2, l3, l4, l5⟩ := loop
              dsimp only at l2 l3 l4 l5
              subst l2 l3 l4
              refine ⟨K, ?_, l5⟩
              refine (congrArg (fun z => Option.bind z _) l1).trans ?_
              rw [ob_some]
              try dsimp only
              have hN : spN H many = spL H many := by
                obtain ⟨n, rfl⟩ : ∃ n, many = n + 1 := ⟨many - 1, by omega⟩
                exact (sp_eq hH' n).2
              rw [x3]
              have hk : kw = 0 ∨ kw = 1 ∨ kw = 2 := by omega
              rcases hk with rfl | rfl | rfl
              · rw [if_pos (show Int32.ofNat 0 = 0 from rfl), ob_some, if_neg (by decide), if_pos rfl, hN]
              · rw [if_neg (show ¬ Int32.ofNat 1 = 0 by decide), if_pos (show Int32.ofNat 1 = 1 from rfl), ob_some, if_neg (by decide), if_neg (by decide)]
              · rw [if_neg (show ¬ Int32.ofNat 2 = 0 by decide), if_neg (show ¬ Int32.ofNat 2 = 1 by decide), ob_some, if_pos rfl]
            obtain ⟨K, m1, m2⟩ := hm
            refine qok (v := v) (I1 := J) (I2 := K) hr0 x1 m1 (fun g k h => ?_) (by rw [m2 47 0 (by decide) (by decide) (by decide) (by decide) (by decide) (by decide)]; exact up_eq)
            obtain ⟨z1, z2, z3, z4, z5, z6, z7, z8, z9, z10, z11⟩ := qs_sc h
            rw [m2 g k z5 z6 z7 z8 z9 z11, hM g k z3 z4 z10]
          · refine qref (E := 1) (w := 1) (by decide) hr0 ?_ ?_ (Or.inl ⟨rfl, rfl⟩)
            · unfold f_x_span259
              rw [show f_x_needWithin38 (Int32.ofNat many) 1 20 I = _ from nWW_ok (lo := 1) (hi := 20) hm1 hm2 (by decide), tb_inr, nY_ok hq hds1 hds hw, tb_inr, t8, nWp_no (by omega) hb6]
              rfl
            · unfold f_m_span379
              rw [show f_m_in264 (Int32.ofNat many) 1 20 _ = _ from inW_ok (lo := 1) (hi := 20) hm1 hm2 (by decide), ob_some, if_neg (by decide), show f_m_in264 (Int32.ofNat q) 0 16 _ = _ from inW_ok (lo := 0) (hi := 16) (Nat.zero_le _) hq (by decide), ob_some, if_neg (by decide), show f_m_in264 (Int32.ofNat days) 1 60 _ = _ from inW_ok (lo := 1) (hi := 60) hds1 hds (by decide), ob_some, if_neg (by decide), show f_m_in264 (Int32.ofNat kw) 0 2 _ = _ from inW_ok (lo := 0) (hi := 2) (Nat.zero_le _) hw (by decide), ob_some, if_neg (by decide), mO_no u3' (by omega) hb6, ob_some, if_pos rfl, ob_some, show f_m_bad268 1 1 1 _ = _ from bad_ref (E := 1) (by decide) (by decide)]
              rfl
        · refine qref (E := 1) (w := 1) (by decide) hr0 ?_ ?_ (Or.inl ⟨rfl, rfl⟩)
          · unfold f_x_span259
            rw [show f_x_needWithin38 (Int32.ofNat many) 1 20 I = _ from nWW_ok (lo := 1) (hi := 20) hm1 hm2 (by decide), tb_inr, nY_no (Or.inr (Or.inr hb5))]
            rfl
          · unfold f_m_span379
            rw [show f_m_in264 (Int32.ofNat many) 1 20 _ = _ from inW_ok (lo := 1) (hi := 20) hm1 hm2 (by decide), ob_some, if_neg (by decide), show f_m_in264 (Int32.ofNat q) 0 16 _ = _ from inW_ok (lo := 0) (hi := 16) (Nat.zero_le _) hq (by decide), ob_some, if_neg (by decide), show f_m_in264 (Int32.ofNat days) 1 60 _ = _ from inW_ok (lo := 1) (hi := 60) hds1 hds (by decide), ob_some, if_neg (by decide), show f_m_in264 p5 0 2 _ = _ from inW_no hb5, ob_some, if_pos rfl, ob_some, show f_m_bad268 1 1 1 _ = _ from bad_ref (E := 1) (by decide) (by decide)]
            rfl
      · refine qref (E := 1) (w := 1) (by decide) hr0 ?_ ?_ (Or.inl ⟨rfl, rfl⟩)
        · unfold f_x_span259
          rw [show f_x_needWithin38 (Int32.ofNat many) 1 20 I = _ from nWW_ok (lo := 1) (hi := 20) hm1 hm2 (by decide), tb_inr, nY_no (Or.inr (Or.inl hb4))]
          rfl
        · unfold f_m_span379
          rw [show f_m_in264 (Int32.ofNat many) 1 20 _ = _ from inW_ok (lo := 1) (hi := 20) hm1 hm2 (by decide), ob_some, if_neg (by decide), show f_m_in264 (Int32.ofNat q) 0 16 _ = _ from inW_ok (lo := 0) (hi := 16) (Nat.zero_le _) hq (by decide), ob_some, if_neg (by decide), show f_m_in264 p4 1 60 _ = _ from inW_no hb4, ob_some, if_pos rfl, ob_some, show f_m_bad268 1 1 1 _ = _ from bad_ref (E := 1) (by decide) (by decide)]
          rfl
    · refine qref (E := 1) (w := 1) (by decide) hr0 ?_ ?_ (Or.inl ⟨rfl, rfl⟩)
      · unfold f_x_span259
        rw [show f_x_needWithin38 (Int32.ofNat many) 1 20 I = _ from nWW_ok (lo := 1) (hi := 20) hm1 hm2 (by decide), tb_inr, nY_no (Or.inl hb3)]
        rfl
      · unfold f_m_span379
        rw [show f_m_in264 (Int32.ofNat many) 1 20 _ = _ from inW_ok (lo := 1) (hi := 20) hm1 hm2 (by decide), ob_some, if_neg (by decide), show f_m_in264 p3 0 16 _ = _ from inW_no hb3, ob_some, if_pos rfl, ob_some, show f_m_bad268 1 1 1 _ = _ from bad_ref (E := 1) (by decide) (by decide)]
        rfl
  · refine qref (E := 1) (w := 1) (by decide) hr0 ?_ ?_ (Or.inl ⟨rfl, rfl⟩)
    · unfold f_x_span259
      rw [show f_x_needWithin38 p2 1 20 _ = _ from nWW_no hb2]
      rfl
    · unfold f_m_span379
      rw [show f_m_in264 p2 1 20 _ = _ from inW_no hb2, ob_some, if_pos rfl, ob_some, show f_m_bad268 1 1 1 _ = _ from bad_ref (E := 1) (by decide) (by decide)]
      rfl
