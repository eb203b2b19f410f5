/-! two tailors: gets -/
noncomputable def cmpI (c : Int32) (s3 : Int32 × MJ) : Option ((Int32 × MJ) ⊕ MJ) :=
  (if s3.1 < (6 : Int32) then
  (Option.bind (f_pat_isTold25 s3.1 s3.2) fun v5 =>
  (Option.bind (α := MJ)
  (if v5 = 0 then
  some s3.2
  else
  (Option.bind (f_sho_fitOf177 c 20 ((12 : Int32) * s3.1) s3.2) fun v7 =>
  (Option.bind (f_x_put15 42 (((6 : Int32) * c) + s3.1) v7 s3.2) fun I8 =>
  some I8
  )
  )
  )
  fun b6 =>
  some (.inl ((s3.1 + (1 : Int32)), b6))
  )
  )
  else
  some (.inr s3.2)
  )

/-- what a told pattern is worth to a client -/
noncomputable def FT (nw se : Nat) (wa : Nat → Nat → Nat) (pk : Nat → Nat → Nat) (c p : Nat) : Int32 := fitF nw se wa c (fun h => Int32.ofNat (pk p h))
theorem sm_ne (a b : Nat) (h : a ≠ b) : ∀ {I J : MJ}, (∀ x k, x ≠ b → J x k = I x k) → ∀ k, J a k = I a k := fun h2 k => h2 a k h
theorem cmpI_ok {tn : Nat → Nat} {bl : Nat → Nat → Nat} {st : Nat → Nat} {wa od : Nat → Nat → Nat} {tb : Nat} {pk : Nat → Nat → Nat} {I M : MJ} (hS : rShop tn bl st wa od I) (hP : rPat tb pk I) (hM : ∀ a k, a ≠ 42 → M a k = I a k) {c : Nat} (hc : c < tn 1) : ∃ b : MJ, wh (cmpI (Int32.ofNat c)) ((0 : Int32), M) = some b ∧ (∀ a k, a ≠ 42 → b a k = I a k) ∧ (∀ p, p < 6 → tb.testBit p = true → b 42 (6 * c + p) = FT (tn 2) (tn 4) wa pk c p) ∧ (∀ k, k < 6 * c → b 42 k = M 42 k) := by
  obtain ⟨s1, s2, s3, s4, s5, s6, s7, s8, s9, s10, s11, s12, s13, s14, s15, s16, s17⟩ := hS
  obtain ⟨g1, g2, g3, g4, g5, g6⟩ := hP
  have hb : ∀ w, w < tn 2 → wa w 0 < 6 ∧ wa w 1 ≤ wa w 2 ∧ wa w 2 ≤ 11 := fun w hw => ⟨by have := s12 w hw; omega, (s12 w hw).2.1, (s12 w hw).2.2.1⟩
  refine wh_inv (fun (i : Nat) (s : Int32 × MJ) => s.1 = Int32.ofNat i ∧ (∀ a k, a ≠ 42 → s.2 a k = I a k) ∧ (∀ p, p < i → p < 6 → tb.testBit p = true → s.2 42 (6 * c + p) = FT (tn 2) (tn 4) wa pk c p) ∧ (∀ k, k < 6 * c → s.2 42 k = M 42 k)) (fun (b : MJ) => (∀ a k, a ≠ 42 → b a k = I a k) ∧ (∀ p, p < 6 → tb.testBit p = true → b 42 (6 * c + p) = FT (tn 2) (tn 4) wa pk c p) ∧ (∀ k, k < 6 * c → b 42 k = M 42 k)) 6 ?_ ?_ ⟨rfl, hM, fun p hp => absurd hp (Nat.not_lt_zero p), fun k _ => rfl⟩
  · rintro i hi ⟨a, N⟩ ⟨e1, e2, e3, e4⟩
    dsimp only at e1 e2 e3 e4
    subst e1
    have f19 : N 19 3 = Int32.ofNat tb := (e2 19 3 (by decide)).trans g2
    have f7 : N 3 7 = Int32.ofNat (tn 2) := (e2 3 7 (by decide)).trans (s3 2 (by decide))
    have f9 : N 3 9 = Int32.ofNat (tn 4) := (e2 3 9 (by decide)).trans (s3 4 (by decide))
    unfold cmpI
    dsimp only
    rw [if_pos (by rw [i_ltr (by omega) (by decide)]; exact hi), x_isTold f19 g1 hi, ob_some]
    by_cases ht : tb.testBit i = true
    · rw [if_pos ht, if_neg (by decide), show (12 : Int32) * Int32.ofNat i = Int32.ofNat (12 * i) from by simp (disch := omega) only [i_add, i_addr, i_addl, i_mul, i_mulr, i_mull, i_lt, i_ltr, i_ltl, i_eq, i_eqr, i_eql, i_clamp, i_neg1, i_lt0, n_lt, n_nlt, n_eq, n_ne, ob_some, tb_inr, tb_inl, o_ite, nar_0, nar_1, nar_ite, if_true, if_false, Nat.reduceAdd, Nat.reduceMul, Nat.reduceSub], x_fitOf (I := N) (a := 20) (n := 72) (by omega) f7 f9 (by omega) hb (fun w j hw hj => (e2 7 _ (by decide)).trans (s14 w j hw hj)) rfl (by decide) (by decide) (by omega), ob_some]
      rw [show (6 : Int32) * Int32.ofNat c + Int32.ofNat i = Int32.ofNat (6 * c + i) from by simp (disch := omega) only [i_add, i_addr, i_addl, i_mul, i_mulr, i_mull, i_lt, i_ltr, i_ltl, i_eq, i_eqr, i_eql, i_clamp, i_neg1, i_lt0, n_lt, n_nlt, n_eq, n_ne, ob_some, tb_inr, tb_inl, o_ite, nar_0, nar_1, nar_ite, if_true, if_false, Nat.reduceAdd, Nat.reduceMul, Nat.reduceSub], put_42 (by omega), ob_some, ob_some]
      refine ⟨_, rfl, i_addr (n := 1), fun a k hak => ?_, fun p hp hp6 hpt => ?_, fun k hk => ?_⟩
      · exact (up_ne (by omega)).trans (e2 a k hak)
      · dsimp only
        by_cases hpi : p = i
        · subst hpi
          rw [up_eq]
          unfold FT
          exact fitF_congr (fun w hw => (hb w hw).2.2) (fun h hh => (e2 20 _ (by decide)).trans (g6 p h hp6 hh))
        · rw [up_ne (by omega)]
          exact e3 p (by omega) hp6 hpt
      · dsimp only
        rw [up_ne (by omega)]
        exact e4 k hk
    · rw [if_neg ht, if_pos rfl, ob_some]
      refine ⟨_, rfl, i_addr (n := 1), e2, fun p hp hp6 hpt => ?_, e4⟩
      by_cases hpi : p = i
      · subst hpi
        exact absurd hpt ht
      · exact e3 p (by omega) hp6 hpt
  · rintro ⟨a, N⟩ ⟨e1, e2, e3, e4⟩
    dsimp only at e1 e2 e3 e4
    subst e1
    refine ⟨N, ?_, e2, fun p hp hpt => e3 p hp hp hpt, e4⟩
    unfold cmpI
    exact if_neg (show ¬ (Int32.ofNat 6 : Int32) < 6 from by decide)
theorem bindx {β γ : Type} {e : Option β} {k : β → Option γ} {R : γ → Prop} (h : ∃ b, e = some b ∧ ∃ c, k b = some c ∧ R c) : ∃ c, Option.bind e k = some c ∧ R c := by
  obtain ⟨b, h1, c, h2, h3⟩ := h
  exact ⟨c, by rw [h1]; exact h2, h3⟩
theorem x_compare {tn : Nat → Nat} {bl : Nat → Nat → Nat} {st : Nat → Nat} {wa od : Nat → Nat → Nat} {tb : Nat} {pk : Nat → Nat → Nat} {I : MJ} (hS : rShop tn bl st wa od I) (hP : rPat tb pk I) : ∃ b : MJ, f_fit_compare239 I = some b ∧ (∀ a k, a ≠ 42 → b a k = I a k) ∧ (∀ c p, c < tn 1 → p < 6 → tb.testBit p = true → b 42 (6 * c + p) = FT (tn 2) (tn 4) wa pk c p) := by
  have t6 : I 3 6 = Int32.ofNat (tn 1) := hS.2.2.1 1 (by decide)
  have hn : tn 1 ≤ 6 := hS.1.2.1
  unfold f_fit_compare239
  refine bindx ?_
  refine wh_inv (fun (i : Nat) (s : Int32 × MJ) => s.1 = Int32.ofNat i ∧ (∀ a k, a ≠ 42 → s.2 a k = I a k) ∧ (∀ c p, c < i → p < 6 → tb.testBit p = true → s.2 42 (6 * c + p) = FT (tn 2) (tn 4) wa pk c p)) _ (tn 1) ?_ ?_ ⟨rfl, fun _ _ _ => rfl, fun c p hc => absurd hc (Nat.not_lt_zero c)⟩
  · rintro i hi ⟨a, N⟩ ⟨e1, e2, e3⟩
    dsimp only at e1 e2 e3
    subst e1
    obtain ⟨b, h1, h2, h3, h4⟩ := cmpI_ok hS hP e2 hi
    refine ⟨(Int32.ofNat (i + 1), b), ?_, rfl, h2, fun c p hc hp ht => ?_⟩
    · dsimp only
      rw [if_pos (by rw [e2 3 6 (by decide), t6, i_lt (by omega) (by omega)]; exact hi)]
      refine (congrArg (fun z => Option.bind z _) (show _ = some b from h1)).trans ?_
      exact congrArg some (congrArg Sum.inl (Prod.ext (i_addr (n := 1)) rfl))
    · dsimp only
      by_cases hci : c = i
      · subst hci
        exact h3 p hp ht
      · rw [h4 (6 * c + p) (by omega)]
        exact e3 c p (by omega) hp ht
  · rintro ⟨a, N⟩ ⟨e1, e2, e3⟩
    dsimp only at e1 e2 e3
    subst e1
    refine ⟨N, ?_, N, rfl, e2, e3⟩
    dsimp only
    exact if_neg (by rw [e2 3 6 (by decide), t6]; exact Int32.lt_irrefl)
/-- what the one gets, if two show told patterns -/
noncomputable def getF (nc nw se : Nat) (wa pk : Nat → Nat → Nat) (p q : Nat) : Int32 := sm (fun c => if FT nw se wa pk c q < FT nw se wa pk c p then 2 else if FT nw se wa pk c p = FT nw se wa pk c q then 1 else 0) nc
theorem x_share {nc nw se : Nat} {wa pk : Nat → Nat → Nat} {I : MJ} {p q : Nat} (e6 : I 3 6 = Int32.ofNat nc) (hn : nc ≤ 6) (hp : p < 6) (hq : q < 6) (h1 : ∀ c, c < nc → I 42 (6 * c + p) = FT nw se wa pk c p) (h2 : ∀ c, c < nc → I 42 (6 * c + q) = FT nw se wa pk c q) : f_fit_share243 (Int32.ofNat p) (Int32.ofNat q) I = some (getF nc nw se wa pk p q) := by
  unfold f_fit_share243 getF
  rw [wh_sum0 (fun c => if FT nw se wa pk c q < FT nw se wa pk c p then 2 else if FT nw se wa pk c p = FT nw se wa pk c q then 1 else 0) nc ?_ ?_]
  · rfl
  · intro c hc s
    simp (disch := omega) only [i_add, i_addr, i_addl, i_mul, i_mulr, i_mull, i_lt, i_ltr, i_ltl, i_eq, i_eqr, i_eql, i_clamp, i_neg1, i_lt0, n_lt, n_nlt, n_eq, n_ne, ob_some, tb_inr, tb_inl, o_ite, nar_0, nar_1, nar_ite, if_true, if_false, Nat.reduceAdd, Nat.reduceMul, Nat.reduceSub, e6, at_42, h1 c hc, h2 c hc]
  · intro s
    exact if_neg (by rw [e6]; exact Int32.lt_irrefl)
theorem m_getsOf {nc nw se : Nat} {wa pk : Nat → Nat → Nat} {I : MJ} {p q : Nat} (u1 : I 51 1 = Int32.ofNat nc) (u2 : I 51 2 = Int32.ofNat nw) (u4 : I 51 4 = Int32.ofNat se) (hn : nc ≤ 6) (hn2 : nw ≤ 16) (hb : ∀ w, w < nw → wa w 0 < 6 ∧ wa w 1 ≤ wa w 2 ∧ wa w 2 ≤ 11) (hwa : ∀ w j, w < nw → j < 5 → I (94 + w) j = Int32.ofNat (wa w j)) (hk : ∀ p h, p < 6 → h < 12 → I (129 + p) h = Int32.ofNat (pk p h)) (hp : p < 6) (hq : q < 6) : f_m_getsOf373 (Int32.ofNat p) (Int32.ofNat q) I = some (getF nc nw se wa pk p q) := by
  have fit : ∀ r c, r < 6 → c < nc → f_m_fitOf342 (129 + r) 0 (Int32.ofNat c) I = some (FT nw se wa pk c r) := by
    intro r c hr hc
    rw [show f_m_fitOf342 (129 + r) 0 (Int32.ofNat c) I = _ from m_fitOf (a := 129 + r) (n := 12) (f := 0) hn2 u2 u4 (by omega) hb hwa (KS_128 r hr) (by omega) (by decide) (by decide)]
    unfold FT
    exact congrArg some (fitF_congr (fun w hw => (hb w hw).2.2) (fun h hh => by rw [Nat.zero_add]; exact hk r h hr hh))
  unfold f_m_getsOf373 getF
  rw [wh_sum0 (fun c => if FT nw se wa pk c q < FT nw se wa pk c p then 2 else if FT nw se wa pk c p = FT nw se wa pk c q then 1 else 0) nc ?_ ?_]
  · rfl
  · intro c hc s
    simp (disch := omega) only [i_add, i_addr, i_addl, i_mul, i_mulr, i_mull, i_lt, i_ltr, i_ltl, i_eq, i_eqr, i_eql, i_clamp, i_neg1, i_lt0, n_lt, n_nlt, n_eq, n_ne, ob_some, tb_inr, tb_inl, o_ite, nar_0, nar_1, nar_ite, if_true, if_false, Nat.reduceAdd, Nat.reduceMul, Nat.reduceSub, u1, rdp_128, fit p c hp hc, fit q c hq hc]
  · intro s
    exact if_neg (by rw [u1]; exact Int32.lt_irrefl)
set_option maxHeartbeats 1000000 in
theorem op_gets_ok : op_gets rel := by
  intro p q I hr
  have hr0 := hr
  obtain ⟨tn, bl, st, wa, od, tb, pk, ln, ht, nl, bh, bs, nk, ni, wt, u, hS, hD, hP, hL, hB, hK, hT, hC⟩ := hr
  have hS0 := hS
  obtain ⟨s1, s2, s3, s4, s5, s6, s7, s8, s9, s10, s11, s12, s13, s14, s15, s16, s17⟩ := hS
  obtain ⟨d1, d2⟩ := hD
  obtain ⟨day, q1, q2, q3, q4, q5⟩ := d2
  have t5 : I 3 5 = Int32.ofNat (tn 0) := s3 0 (by decide)
  have t6 : I 3 6 = Int32.ofNat (tn 1) := s3 1 (by decide)
  have t7 : I 3 7 = Int32.ofNat (tn 2) := s3 2 (by decide)
  have t8 : I 3 8 = Int32.ofNat (tn 3) := s3 3 (by decide)
  have t9 : I 3 9 = Int32.ofNat (tn 4) := s3 4 (by decide)
  have u0 : I 51 0 = Int32.ofNat (tn 0) := s2 0 (by decide)
  have u1 : I 51 1 = Int32.ofNat (tn 1) := s2 1 (by decide)
  have u2 : I 51 2 = Int32.ofNat (tn 2) := s2 2 (by decide)
  have u3 : I 51 3 = Int32.ofNat (tn 3) := s2 3 (by decide)
  have u4 : I 51 4 = Int32.ofNat (tn 4) := s2 4 (by decide)
  have J13 : ∀ w j, w < tn 2 → j < 5 → (ab_up1 I 47 0 0) (94 + w) j = Int32.ofNat (wa w j) := fun w j hw hj => (up_ne (by omega)).trans (s13 w j hw hj)
  have J16 : ∀ o j, o < tn 3 → j < 5 → (ab_up1 I 47 0 0) (120 + o) j = Int32.ofNat (od o j) := fun w j hw hj => (up_ne (by omega)).trans (s16 w j hw hj)
  have J5 : ∀ k, (ab_up1 I 47 0 0) 576 k = I 576 k := fun k => up_ne (by omega)
  have hP0 := hP
  obtain ⟨g1, g2, g3, g4, g5, g6⟩ := hP
  have hb : ∀ w, w < tn 2 → wa w 0 < 6 ∧ wa w 1 ≤ wa w 2 ∧ wa w 2 ≤ 11 := fun w hw => ⟨by have := s12 w hw; omega, (s12 w hw).2.1, (s12 w hw).2.2.1⟩
  have no : ∀ (M : MJ) (r : Nat), r < 6 → M 135 r = I 135 r → ¬ tb.testBit r = true → rdb M 135 (Int32.ofNat r) = some 0 := fun M r hr e h => by rw [rdb_135 hr, e, g3 r hr, if_neg h]
  have yes : ∀ (M : MJ) (r : Nat), r < 6 → M 135 r = I 135 r → tb.testBit r = true → rdb M 135 (Int32.ofNat r) = some 1 := fun M r hr e h => by rw [rdb_135 hr, e, g3 r hr, if_pos h]
  have JR : ∀ r, (ab_up1 (ab_up1 I 0 (14 + 2) (I 0 (14 + 2) + 1)) 47 0 0) 135 r = I 135 r := fun r => by rw [up_ne (by omega), up_ne (by omega)]
  rcases range_cases p (n := 6) (by decide) with ⟨a, ha, rfl⟩ | hp
  · rcases range_cases q (n := 6) (by decide) with ⟨b, hb6, rfl⟩ | hq
    · by_cases ta : tb.testBit a = true
      · by_cases tq : tb.testBit b = true
        · obtain ⟨J, j1, j2, j3⟩ := x_compare hS0 hP0
          refine qok (v := getF (tn 1) (tn 2) (tn 4) wa pk a b) (I1 := J) (I2 := ab_up1 J 47 0 0) hr0 ?_ ?_ ?_ up_eq
          · unfold f_x_gets246
            rw [nP_ok ha, tb_inr, nP_ok hb6, tb_inr, nT_ok g2 g1 ha ta, tb_inr, nT_ok g2 g1 hb6 tq, tb_inr, j1, ob_some, x_share ((j2 3 6 (by decide)).trans t6) (by omega) ha hb6 (fun c hc => j3 c a hc ha ta) (fun c hc => j3 c b hc hb6 tq)]
            rfl
          · have K : ∀ x k, x ≠ 42 → x ≠ 47 → (ab_up1 J 47 0 0) x k = I x k := fun x k h1 h2 => (up_ne (by omega)).trans (j2 x k h1)
            unfold f_m_gets374
            rw [mP_ok ha, ob_some, if_neg (by decide), mP_ok hb6, ob_some, if_neg (by decide), ob_some, bad_0 up_eq, ob_some, if_pos rfl]
            dsimp only
            rw [yes _ a ha (K 135 a (by decide) (by decide)) ta, ob_some, if_neg (by decide), yes _ b hb6 (K 135 b (by decide) (by decide)) tq, ob_some, if_neg (by decide), ob_some, bad_0 up_eq, ob_some, if_pos rfl, m_getsOf (I := ab_up1 J 47 0 0) ((K _ _ (by decide) (by decide)).trans u1) ((K _ _ (by decide) (by decide)).trans u2) ((K _ _ (by decide) (by decide)).trans u4) (by omega) (by omega) hb (fun w j hw hj => (K _ _ (by omega) (by omega)).trans (s13 w j hw hj)) (fun p h hp hh => (K _ _ (by omega) (by omega)).trans (g5 p h hp hh)) ha hb6]
            rfl
          · refine agr_up (fun x k h => j2 x k ?_) rfl
            rintro rfl
            cases h
        · refine qref (E := 2) (w := 2) (by decide) hr0 ?_ ?_ (Or.inr ⟨rfl, rfl⟩)
          · unfold f_x_gets246
            rw [nP_ok ha, tb_inr, nP_ok hb6, tb_inr, nT_ok g2 g1 ha ta, tb_inr, nT_no g2 g1 hb6 tq]
            rfl
          · unfold f_m_gets374
            rw [mP_ok ha, ob_some, if_neg (by decide), mP_ok hb6, ob_some, if_neg (by decide), ob_some, bad_0 up_eq, ob_some, if_pos rfl]
            dsimp only
            rw [yes _ a ha (JR a) ta, ob_some, if_neg (by decide), no _ b hb6 (JR b) tq, ob_some, if_pos rfl, ob_some, show f_m_bad268 1 2 2 _ = _ from bad_ref (E := 2) (by decide) (by decide)]
            rfl
      · refine qref (E := 2) (w := 2) (by decide) hr0 ?_ ?_ (Or.inr ⟨rfl, rfl⟩)
        · unfold f_x_gets246
          rw [nP_ok ha, tb_inr, nP_ok hb6, tb_inr, nT_no g2 g1 ha ta]
          rfl
        · unfold f_m_gets374
          rw [mP_ok ha, ob_some, if_neg (by decide), mP_ok hb6, ob_some, if_neg (by decide), ob_some, bad_0 up_eq, ob_some, if_pos rfl]
          dsimp only
          rw [no _ a ha (JR a) ta, ob_some, if_pos rfl, ob_some, show f_m_bad268 1 2 2 _ = _ from bad_ref (E := 2) (by decide) (by decide)]
          rfl
    · refine qref (E := 0) (w := 1) (by decide) hr0 ?_ ?_ (Or.inl ⟨rfl, rfl⟩)
      · unfold f_x_gets246
        rw [nP_ok ha, tb_inr, nP_no hq]
        rfl
      · unfold f_m_gets374
        rw [mP_ok ha, ob_some, if_neg (by decide), mP_no hq, ob_some, if_pos rfl, ob_some, show f_m_bad268 1 1 0 _ = _ from bad_ref (E := 0) (by decide) (by decide)]
        rfl
  · refine qref (E := 0) (w := 1) (by decide) hr0 ?_ ?_ (Or.inl ⟨rfl, rfl⟩)
    · unfold f_x_gets246
      rw [nP_no hp]
      rfl
    · unfold f_m_gets374
      rw [mP_no hp, ob_some, if_pos rfl, ob_some, show f_m_bad268 1 1 0 _ = _ from bad_ref (E := 0) (by decide) (by decide)]
      rfl