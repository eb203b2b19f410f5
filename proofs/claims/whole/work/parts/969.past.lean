/-! copies; undo -/
theorem cpy_at {I : MJ} {a b sp dp n k : Nat} : ab_cpy I a b sp dp n b k = if dp ≤ k ∧ k < dp + n then I a (sp + (k - dp)) else I b k := by
  unfold ab_cpy va_cpy
  rw [if_pos rfl]
theorem cpy_ne {I : MJ} {a b sp dp n c k : Nat} (h : c ≠ b) : ab_cpy I a b sp dp n c k = I c k := by
  unfold ab_cpy
  rw [if_neg h]
theorem copy_ok {I : MJ} {a b la lb sp dp n : Nat} (hK : KS a = (100, la)) (hL : KS b = (100, lb)) (ha : a < 699) (hb : b < 699) (h1 : sp + n ≤ la) (h2 : dp + n ≤ lb) (h3 : la < 100000) (h4 : lb < 100000) : f_x_copy22 a (Int32.ofNat sp) b (Int32.ofNat dp) (Int32.ofNat n) I = some (ab_cpy I a b sp dp n) := by
  unfold f_x_copy22
  rw [if_neg (by rw [i_lt0 (by omega)]; exact id), if_neg (by rw [i_lt0 (by omega)]; exact id), if_neg (by rw [i_lt0 (by omega)]; exact id), KS_in hK (by decide), if_pos ha, ob_some, i_sub (by omega), if_neg (by rw [i_lt (by omega) (by omega)]; omega), KS_in hL (by decide), if_pos hb, ob_some, i_sub (by omega), if_neg (by rw [i_lt (by omega) (by omega)]; omega)]
  have e : acp I a (Int32.ofNat sp) b (Int32.ofNat dp) (Int32.ofNat n) = some (ab_cpy I a b sp dp n) := by
    unfold acp
    rw [i_clamp (by omega), i_clamp (by omega), i_clamp (by omega), hK, hL]
    refine if_pos ?_
    simp only [decide_eq_true ha, decide_eq_true hb, decide_eq_true (of_eq_true (i_0le (show n < 2147483648 by omega))), decide_eq_true (of_eq_true (i_0le (show dp < 2147483648 by omega))), decide_eq_true (of_eq_true (i_0le (show sp < 2147483648 by omega))), decide_eq_true h1, decide_eq_true h2]
    rfl
  rw [e]
  rfl
theorem cpy_step {I : MJ} {a b i : Nat} (hab : a ≠ b) : ab_up1 (ab_cpy I a b 0 0 i) b i (I a i) = ab_cpy I a b 0 0 (i + 1) := by
  funext c k
  rw [up_if]
  by_cases hc : c = b
  · subst hc
    rw [cpy_at, cpy_at]
    by_cases hk : k = i
    · subst hk
      rw [if_pos ⟨rfl, rfl⟩, if_pos (by omega)]
      rw [Nat.zero_add, Nat.sub_zero]
    · rw [if_neg (fun e => hk e.2)]
      by_cases h1 : 0 ≤ k ∧ k < 0 + i
      · rw [if_pos h1, if_pos (by omega)]
      · rw [if_neg h1, if_neg (by omega)]
  · rw [if_neg (fun e => hc e.1), cpy_ne hc, cpy_ne hc]
theorem copies_ok {I : MJ} {a b la lb : Nat} (hK : KS a = (100, la)) (hL : KS b = (100, lb)) (ha : a < 699) (hb : b < 699) (h1 : 91 ≤ la ∧ la < 100000) (h2 : 91 ≤ lb ∧ lb < 100000) (hab : a ≠ b) : f_m_copies302 a b I = some (ab_cpy I a b 0 0 91) := by
  unfold f_m_copies302
  have h0 : ((0 : Int32), I) = (Int32.ofNat 0, ab_cpy I a b 0 0 0) := by
    refine Prod.ext rfl ?_
    funext c k
    show I c k = ab_cpy I a b 0 0 0 c k
    by_cases hc : c = b
    · subst hc
      rw [cpy_at, if_neg (by omega)]
    · rw [cpy_ne hc]
  rw [h0, wh_seq (fun i => (Int32.ofNat i, ab_cpy I a b 0 0 i)) 91 (b := ab_cpy I a b 0 0 91) ?_ ?_]
  · rfl
  · intro i hi
    dsimp only
    rw [if_pos (by rw [i_ltr (by omega) (by decide)]; exact hi), rd_ok hK (by omega) ha (by omega), ob_some, wr_ok hL (by omega) hb (by omega), ob_some, cpy_ne hab, cpy_step hab]
    exact congrArg some (congrArg Sum.inl (Prod.ext (i_addr (n := 1)) rfl))
  · rfl
theorem op_undo_ok : op_undo rel := by
  intro I hr
  have hr0 := hr
  obtain ⟨tn, bl, st, wa, od, tb, pk, ln, ht, nl, bh, bs, nk, ni, wt, u, hS, hD, hP, hL, hB, hK, hT, hC⟩ := hr
  obtain ⟨k1, k2, k3, k4, k5, k6, k7, k8⟩ := hK
  cases nk with
  | zero =>
    refine ⟨-1, I, ab_up1 I 47 0 0, ?_, ?_, rel_agr hr0 (agr_up agr_rf rfl)⟩
    · unfold f_x_undo20
      rw [k2]
      rfl
    · unfold f_m_undo321
      rw [k3]
      rfl
  | succ m =>
    have es : Int32.ofNat (m + 1) - 1 = Int32.ofNat m := i_sub (a := m + 1) (b := 1) (by omega)
    have e91 : Int32.ofNat m * 91 = Int32.ofNat (91 * m) := by rw [Nat.mul_comm]; exact i_mulr (n := 91)
    refine ⟨Int32.ofNat m, ab_up1 (ab_cpy (ab_up1 I 31 3 (Int32.ofNat m)) 32 16 (91 * m) 0 91) 0 13 0, ab_up1 (ab_cpy (ab_up1 (ab_up1 (ab_up1 (ab_cpy (ab_up1 I 31 3 (Int32.ofNat m)) 32 16 (91 * m) 0 91) 0 13 0) 47 0 0) 47 40 (Int32.ofNat m)) (579 + m) 576 0 0 91) 47 41 0, ?_, ?_, ?_⟩
    · unfold f_x_undo20 f_pas_takeWork21
      rw [k2, if_neg (by rw [i_eqr (by omega) (by decide)]; exact Nat.succ_ne_zero m), es, e91]
      rw [show f_x_copy22 32 (Int32.ofNat (91 * m)) 16 0 91 (ab_up1 I 31 3 (Int32.ofNat m)) = _ from copy_ok (a := 32) (b := 16) (la := 1456) (lb := 91) (sp := 91 * m) (dp := 0) (n := 91) rfl rfl (by decide) (by decide) (by omega) (by decide) (by decide) (by decide)]
      rw [ob_some, ob_some, cpy_ne (by decide), up_eq]
    · have ek : (ab_up1 (ab_cpy (ab_up1 I 31 3 (Int32.ofNat m)) 32 16 (91 * m) 0 91) 0 13 0) 47 40 = Int32.ofNat (m + 1) := by
        rw [up_ne (by omega), cpy_ne (by decide), up_ne (by omega), k3]
      unfold f_m_undo321
      rw [ek, if_neg (by rw [i_eqr (by omega) (by decide)]; exact Nat.succ_ne_zero m), es, rdp_578 (by omega), ob_some, copies_ok (KS_578 m (by omega)) (show KS 576 = (100, 91) from rfl) (by omega) (by decide) (by decide) (by decide) (by omega), ob_some, cpy_ne (by decide), up_eq]
    · have e : ∀ a k, ¬ (a = 31 ∧ k = 3) → a ≠ 16 → ¬ (a = 0 ∧ k = 13) → ¬ (a = 47 ∧ (k = 0 ∨ k = 40 ∨ k = 41)) → a ≠ 576 → (ab_up1 (ab_cpy (ab_up1 (ab_up1 (ab_up1 (ab_cpy (ab_up1 I 31 3 (Int32.ofNat m)) 32 16 (91 * m) 0 91) 0 13 0) 47 0 0) 47 40 (Int32.ofNat m)) (579 + m) 576 0 0 91) 47 41 0) a k = I a k := by
        intro a k q1 q2 q3 q4 q5
        rw [up_ne (by omega), cpy_ne q5, up_ne (by omega), up_ne (by omega), up_ne q3, cpy_ne q2, up_ne q1]
      have e16 : ∀ k, k < 91 → (ab_up1 (ab_cpy (ab_up1 (ab_up1 (ab_up1 (ab_cpy (ab_up1 I 31 3 (Int32.ofNat m)) 32 16 (91 * m) 0 91) 0 13 0) 47 0 0) 47 40 (Int32.ofNat m)) (579 + m) 576 0 0 91) 47 41 0) 16 k = I 32 (91 * m + k) := by
        intro k hk
        rw [up_ne (by omega), cpy_ne (by decide), up_ne (by omega), up_ne (by omega), up_ne (by omega), cpy_at, if_pos (by omega), up_ne (by omega), Nat.sub_zero]
      have e576 : ∀ k, k < 91 → (ab_up1 (ab_cpy (ab_up1 (ab_up1 (ab_up1 (ab_cpy (ab_up1 I 31 3 (Int32.ofNat m)) 32 16 (91 * m) 0 91) 0 13 0) 47 0 0) 47 40 (Int32.ofNat m)) (579 + m) 576 0 0 91) 47 41 0) 576 k = I (579 + m) k := by
        intro k hk
        rw [up_ne (by omega), cpy_at, if_pos (by omega), up_ne (by omega), up_ne (by omega), up_ne (by omega), cpy_ne (by omega), up_ne (by omega), Nat.sub_zero, Nat.zero_add]
      refine ⟨tn, bl, st, wa, od, tb, pk, ln, ht, nl, bh, bs, m, ni, wt, u, rShop_congr (fun a k h => e a k (by omega) (by omega) (by omega) (by omega) (by omega)) hS, ?_, rPat_congr (fun a k h => e a k (by omega) (by omega) (by omega) (by omega) (by omega)) hP, rLaw_congr (fun a k h => e a k (by omega) (by omega) (by omega) (by omega) (by omega)) hL, rBook_congr (fun a k h => e a k (by omega) (by omega) (by omega) (by omega) (by omega)) hB, ?_, rTape_congr (fun a k h => e a k (by omega) (by omega) (by omega) (by omega) (by omega)) hT, ?_⟩
      · have h := k4 m (by omega)
        exact ⟨stE_congr e16 e576 h.1, stV_congr e576 h.2⟩
      · refine ⟨by omega, ?_, ?_, fun w hw => ?_, k5, by rw [e _ _ (by omega) (by omega) (by omega) (by omega) (by omega)]; exact k6, by rw [e _ _ (by omega) (by omega) (by omega) (by omega) (by omega)]; exact k7, fun i hi => ?_⟩
        · rw [up_ne (by omega), cpy_ne (by decide), up_ne (by omega), up_ne (by omega), up_ne (by omega), cpy_ne (by decide), up_eq]
        · rw [up_ne (by omega), cpy_ne (by decide), up_eq]
        · have h := k4 w (by omega)
          exact ⟨stE_congr (fun k _ => e _ _ (by omega) (by omega) (by omega) (by omega) (by omega)) (fun k _ => e _ _ (by omega) (by omega) (by omega) (by omega) (by omega)) h.1, stV_congr (fun k _ => e _ _ (by omega) (by omega) (by omega) (by omega) (by omega)) h.2⟩
        · obtain ⟨j1, j2, j3, j4, j5⟩ := k8 i hi
          refine ⟨j1, by rw [e _ _ (by omega) (by omega) (by omega) (by omega) (by omega)]; exact j2, by rw [e _ _ (by omega) (by omega) (by omega) (by omega) (by omega)]; exact j3, ⟨stE_congr (fun k _ => e _ _ (by omega) (by omega) (by omega) (by omega) (by omega)) (fun k _ => e _ _ (by omega) (by omega) (by omega) (by omega) (by omega)) j4.1, stV_congr (fun k _ => e _ _ (by omega) (by omega) (by omega) (by omega) (by omega)) j4.2⟩, fun w hw => ?_⟩
          have h := j5 w hw
          exact ⟨stE_congr (fun k _ => e _ _ (by omega) (by omega) (by omega) (by omega) (by omega)) (fun k _ => e _ _ (by omega) (by omega) (by omega) (by omega) (by omega)) h.1, stV_congr (fun k _ => e _ _ (by omega) (by omega) (by omega) (by omega) (by omega)) h.2⟩
      · obtain ⟨c1, c2, c3, c4, c5⟩ := hC
        refine ⟨?_, ?_, ?_, ?_, ?_⟩
        · rw [up_ne (by omega), cpy_ne (by decide), up_ne (by omega), up_ne (by omega), up_eq, up_eq]
        · rw [e _ _ (by omega) (by omega) (by omega) (by omega) (by omega), e _ _ (by omega) (by omega) (by omega) (by omega) (by omega)]; exact c2
        · rw [e _ _ (by omega) (by omega) (by omega) (by omega) (by omega), e _ _ (by omega) (by omega) (by omega) (by omega) (by omega)]; exact c3
        · rw [e _ _ (by omega) (by omega) (by omega) (by omega) (by omega), e _ _ (by omega) (by omega) (by omega) (by omega) (by omega)]; exact c4
        · rw [e _ _ (by omega) (by omega) (by omega) (by omega) (by omega), e _ _ (by omega) (by omega) (by omega) (by omega) (by omega)]; exact c5
