/-! sums over twos: words, clashes -/
theorem wh_sumG {f : Int32 × Int32 → Option ((Int32 × Int32) ⊕ Int32)} (s0 : Int32) (t : Nat → Int32) (i0 n : Nat) (hle : i0 ≤ n) (h : ∀ k, i0 ≤ k → k < n → ∀ s, f (s, Int32.ofNat k) = some (.inl (s + t k, Int32.ofNat (k + 1)))) (he : ∀ s, f (s, Int32.ofNat n) = some (.inr s)) : wh f (s0, Int32.ofNat i0) = some (s0 + sm (fun j => t (i0 + j)) (n - i0)) := by
  have h0 : ((s0, Int32.ofNat i0) : Int32 × Int32) = (s0 + sm (fun j => t (i0 + j)) 0, Int32.ofNat (i0 + 0)) := by
    rw [show sm (fun j => t (i0 + j)) 0 = 0 from rfl, Int32.add_zero]
    rfl
  rw [h0]
  refine wh_seq (fun i => (s0 + sm (fun j => t (i0 + j)) i, Int32.ofNat (i0 + i))) (n - i0) (fun i hi => ?_) ?_
  · rw [h (i0 + i) (by omega) (by omega), Int32.add_assoc]
    rfl
  · rw [show i0 + (n - i0) = n by omega]
    exact he _
theorem sm_add {t u : Nat → Int32} : ∀ {n : Nat}, sm (fun k => t k + u k) n = sm t n + sm u n
  | 0 => rfl
  | n + 1 => by
    show sm (fun k => t k + u k) n + (t n + u n) = (sm t n + t n) + (sm u n + u n)
    rw [sm_add (n := n)]
    grind
/-- sums over twos, told in two ways -/
theorem sm_twos (t : Nat → Nat → Int32) : ∀ n : Nat, sm (fun i => sm (fun j => t i (i + 1 + j)) (n - (i + 1))) n = sm (fun a => sm (fun b => t b a) a) n
  | 0 => rfl
  | n + 1 => by
    show sm (fun i => sm (fun j => t i (i + 1 + j)) (n + 1 - (i + 1))) n + sm (fun j => t n (n + 1 + j)) (n + 1 - (n + 1)) = sm (fun a => sm (fun b => t b a) a) n + sm (fun b => t b n) n
    rw [← sm_twos t n, Nat.sub_self, ← sm_add]
    show sm (fun i => sm (fun j => t i (i + 1 + j)) (n + 1 - (i + 1))) n + 0 = _
    rw [Int32.add_zero]
    refine sm_congr fun i hi => ?_
    have e : n + 1 - (i + 1) = (n - (i + 1)) + 1 := by omega
    rw [e]
    show sm (fun j => t i (i + 1 + j)) (n - (i + 1)) + t i (i + 1 + (n - (i + 1))) = _
    rw [show i + 1 + (n - (i + 1)) = n by omega]
/-- hours in which two wear unlike kinds -/
def unlF (ca cb : Int32) (a b : Nat → Int32) : Int32 := if ca = -1 then 0 else if cb = -1 then 0 else sm (fun h => if a h = b h then 0 else if a h = 6 then 0 else if b h = 6 then 0 else 1) 12
theorem unlF_comm (ca cb : Int32) (a b : Nat → Int32) : unlF ca cb a b = unlF cb ca b a := by
  unfold unlF
  by_cases h1 : ca = -1
  · by_cases h2 : cb = -1 <;> simp [h1, h2]
  · by_cases h2 : cb = -1
    · simp [h1, h2]
    · rw [if_neg h1, if_neg h2, if_neg h2, if_neg h1]
      refine sm_congr fun h _ => ?_
      by_cases h3 : a h = b h
      · rw [if_pos h3, if_pos h3.symm]
      · have h3' : ¬ b h = a h := fun e => h3 e.symm
        by_cases h4 : a h = 6 <;> by_cases h5 : b h = 6 <;> simp [h3, h3', h4, h5]
theorem unlF_congr {ca cb : Int32} {a b a' b' : Nat → Int32} (h1 : ∀ k, k < 12 → a k = a' k) (h2 : ∀ k, k < 12 → b k = b' k) : unlF ca cb a b = unlF ca cb a' b' := by
  unfold unlF
  have : sm (fun h => if a h = b h then 0 else if a h = 6 then 0 else if b h = 6 then 0 else 1) 12 = sm (fun h => if a' h = b' h then 0 else if a' h = 6 then 0 else if b' h = 6 then 0 else 1) 12 := sm_congr (fun k hk => by rw [h1 k hk, h2 k hk])
  rw [this]
theorem x_unlike {I : MJ} {a b : Nat} (ha : a < 6) (hb : b < 6) : f_sta_unlikeHours221 (Int32.ofNat a) (Int32.ofNat b) I = some (unlF (I 16 (3 + a)) (I 16 (3 + b)) (fun h => I 16 (19 + 12 * a + h)) (fun h => I 16 (19 + 12 * b + h))) := by
  unfold f_sta_unlikeHours221 unlF
  rw [x_hasSuit (t := 15) rfl (by decide) ha, ob_some, x_hasSuit (t := 15) rfl (by decide) hb]
  by_cases h1 : I 16 (3 + a) = -1
  · rw [if_pos h1, if_pos h1]; rfl
  · rw [if_neg h1, if_neg h1, if_neg (by decide), ob_some]
    by_cases h2 : I 16 (3 + b) = -1
    · rw [if_pos h2, if_pos h2]; rfl
    · rw [if_neg h2, if_neg h2, if_neg (by decide), wh_sum0 (fun h => if I 16 (19 + 12 * a + h) = I 16 (19 + 12 * b + h) then 0 else if I 16 (19 + 12 * a + h) = 6 then 0 else if I 16 (19 + 12 * b + h) = 6 then 0 else 1) 12 ?_ ?_]
      · rfl
      · intro k hk s
        simp (disch := omega) only [i_add, i_addr, i_addl, i_mul, i_mulr, i_mull, i_lt, i_ltr, i_ltl, i_eq, i_eqr, i_eql, i_clamp, i_neg1, i_lt0, n_lt, n_nlt, n_eq, n_ne, ob_some, tb_inr, tb_inl, o_ite, nar_0, nar_1, nar_ite, if_true, if_false, Nat.reduceAdd, Nat.reduceMul, Nat.reduceSub, f_sta_wornAt116, f_sta_suitAt114, at_16]
      · intro s; rfl
set_option maxHeartbeats 1000000 in
theorem op_words_ok : op_words rel := by
  intro p I hr
  have hr0 := hr
  obtain ⟨tn, bl, st, wa, od, tb, pk, ln, ht, nl, bh, bs, nk, ni, wt, u, hS, hD, hP, hL, hB, hK, hT, hC⟩ := hr
  obtain ⟨s1, s2, s3, s4, s5, s6, s7, s8, s9, s10, s11, s12, s13, s14, s15, s16, s17⟩ := hS
  obtain ⟨d1, d2⟩ := hD
  have t6 : I 3 6 = Int32.ofNat (tn 1) := s3 1 (by decide)
  have u1 : (ab_up1 I 47 0 0) 51 1 = Int32.ofNat (tn 1) := s2 1 (by decide)
  have J5 : ∀ k, (ab_up1 I 47 0 0) 576 k = I 576 k := fun k => up_ne (by omega)
  have J53 : ∀ c, c < tn 1 → (ab_up1 I 47 0 0) 53 c = Int32.ofNat (st c) := fun c hc => (up_ne (by omega)).trans (s10 c hc)
  have cells : ∀ c, c < 6 → ∀ h, h < 12 → I 16 (19 + 12 * c + h) = I 576 (10 + 12 * c + h) := by
    intro c hc h hh
    have := stE_suit d1 (j := 12 * c + h) (by omega)
    rw [show 19 + 12 * c + h = 19 + (12 * c + h) by omega, show 10 + 12 * c + h = 10 + (12 * c + h) by omega]
    exact this
  rcases range_cases p (n := 10) (by decide) with ⟨q, hq, rfl⟩ | hp
  · have key : ∀ t : Nat → Nat → Int32, (∀ a b, a < tn 1 → b < tn 1 → t a b = if st a = q then (if st b = q then unlF (I 16 (3 + a)) (I 16 (3 + b)) (fun h => I 16 (19 + 12 * a + h)) (fun h => I 16 (19 + 12 * b + h)) else 0) else 0) → ∃ r I1 b I2, f_x_words220 (Int32.ofNat q) I = some (r, I1) ∧ f_m_words359 (Int32.ofNat q) I1 = some (b, I2) ∧ rel I2 ∧ okI [1] r b (I2 47 0) := by
      intro t ht
      refine qok0 hr0 (v := sm (fun i => sm (fun j => t i (i + 1 + j)) (tn 1 - (i + 1))) (tn 1)) ?_ ?_
      · unfold f_x_words220
        rw [show f_x_needWithin38 (Int32.ofNat q) 0 9 I = _ from nW_ok (n := 9) hq (by decide), tb_inr]
        rw [wh_sum0 (fun i => sm (fun j => t i (i + 1 + j)) (tn 1 - (i + 1))) (tn 1) ?_ ?_]
        · rfl
        · intro i hi s
          dsimp only
          rw [if_pos (by rw [t6, i_lt (by omega) (by omega)]; exact hi), show Int32.ofNat i + 1 = Int32.ofNat (i + 1) from i_addr (n := 1)]
          rw [wh_sumG s (fun b => t i b) (i + 1) (tn 1) (by omega) ?_ ?_]
          · rfl
          · intro b hb1 hb2 s'
            have e := ht i b hi hb2
            simp (disch := omega) only [i_add, i_addr, i_addl, i_mul, i_mulr, i_mull, i_lt, i_ltr, i_ltl, i_eq, i_eqr, i_eql, i_clamp, i_neg1, i_lt0, n_lt, n_nlt, n_eq, n_ne, ob_some, tb_inr, tb_inl, o_ite, nar_0, nar_1, nar_ite, if_true, if_false, Nat.reduceAdd, Nat.reduceMul, Nat.reduceSub, t6, f_sho_streetOf150, at_6, s11 i hi, s11 b hb2, x_unlike (show i < 6 by omega) (show b < 6 by omega)]
            have hi9 := s9 i hi
            have hb9 := s9 b hb2
            simp (disch := omega) only [i_add, i_addr, i_addl, i_mul, i_mulr, i_mull, i_lt, i_ltr, i_ltl, i_eq, i_eqr, i_eql, i_clamp, i_neg1, i_lt0, n_lt, n_nlt, n_eq, n_ne, ob_some, tb_inr, tb_inl, o_ite, nar_0, nar_1, nar_ite, if_true, if_false, Nat.reduceAdd, Nat.reduceMul, Nat.reduceSub, e]
            by_cases h1 : st i = q <;> by_cases h2 : st b = q <;> simp [h1, h2]
          · intro s'
            exact if_neg (by rw [t6]; exact Int32.lt_irrefl)
        · intro s
          exact if_neg (by rw [t6]; exact Int32.lt_irrefl)
      · rw [sm_twos]
        unfold f_m_words359
        rw [show f_m_in264 (Int32.ofNat q) 0 9 _ = _ from in_ok (n := 9) hq (by decide), ob_some, if_neg (by decide), ob_some, bad_0 up_eq, ob_some, if_pos rfl]
        dsimp only
        rw [wh_sum0 (fun a => sm (fun b => t b a) a) (tn 1) ?_ ?_]
        · rfl
        · intro a ha s
          dsimp only
          rw [if_pos (by rw [u1, i_lt (by omega) (by omega)]; exact ha)]
          rw [wh_sumS s (fun b => t b a) a ?_ ?_]
          · exact congrArg some (congrArg Sum.inl (Prod.ext rfl (i_addr (n := 1))))
          · intro b hb s'
            have hb2 : b < tn 1 := by omega
            have e := ht b a hb2 ha
            have hi9 := s9 a ha
            have hb9 := s9 b hb2
            dsimp only
            rw [if_pos (by rw [i_lt (by omega) (by omega)]; exact hb), rd_53 (by omega), ob_some, J53 a ha]
            refine (congrArg (fun z => Option.bind z _) (show _ = some (s' + t b a) from ?_)).trans ?_
            · rw [e]
              by_cases h1 : st a = q
              · rw [if_pos (by rw [h1]), rd_53 (by omega), ob_some, J53 b hb2]
                by_cases h2 : st b = q
                · rw [if_pos (by rw [h2]), if_pos h2, if_pos h1, unlF_comm, stE_cut d1 (show a < 6 by omega), stE_cut d1 (show b < 6 by omega), unlF_congr (cells a (by omega)) (cells b (by omega))]
                  unfold unlF
                  rw [m_hasSuit (I := ab_up1 I 47 0 0) (a := 576) (n := 91) rfl (by decide) (by decide) (show a < 6 by omega), ob_some, J5]
                  by_cases h3 : I 576 (82 + a) = -1
                  · rw [if_pos h3, if_pos h3, if_pos rfl, Int32.add_zero]
                  · rw [if_neg h3, if_neg h3, if_neg (by decide), m_hasSuit (I := ab_up1 I 47 0 0) (a := 576) (n := 91) rfl (by decide) (by decide) (show b < 6 by omega), ob_some, J5]
                    by_cases h4 : I 576 (82 + b) = -1
                    · rw [if_pos h4, if_pos h4, if_pos rfl, Int32.add_zero]
                    · rw [if_neg h4, if_neg h4, if_neg (by decide)]
                      rw [wh_sumS s' (fun h => if I 576 (10 + 12 * a + h) = I 576 (10 + 12 * b + h) then 0 else if I 576 (10 + 12 * a + h) = 6 then 0 else if I 576 (10 + 12 * b + h) = 6 then 0 else 1) 12 ?_ ?_]
                      · rfl
                      · intro k hk s2
                        simp (disch := omega) only [i_add, i_addr, i_addl, i_mul, i_mulr, i_mull, i_lt, i_ltr, i_ltl, i_eq, i_eqr, i_eql, i_clamp, i_neg1, i_lt0, n_lt, n_nlt, n_eq, n_ne, ob_some, tb_inr, tb_inl, o_ite, nar_0, nar_1, nar_ite, if_true, if_false, Nat.reduceAdd, Nat.reduceMul, Nat.reduceSub, f_m_suitOf310, rd_576, J5]
                      · intro s2; rfl
                · rw [if_neg (by rw [i_eq (by omega) (by omega)]; exact h2), if_neg h2, Int32.add_zero]
              · rw [if_neg (by rw [i_eq (by omega) (by omega)]; exact h1)]
                by_cases h2 : st b = q
                · rw [if_pos h2, if_neg h1, Int32.add_zero]
                · rw [if_neg h2, Int32.add_zero]
            · exact congrArg some (congrArg Sum.inl (Prod.ext rfl (i_addr (n := 1))))
          · intro s'
            exact if_neg Int32.lt_irrefl
        · intro s
          exact if_neg (by rw [u1]; exact Int32.lt_irrefl)
    exact key (fun a b => if st a = q then (if st b = q then unlF (I 16 (3 + a)) (I 16 (3 + b)) (fun h => I 16 (19 + 12 * a + h)) (fun h => I 16 (19 + 12 * b + h)) else 0) else 0) (fun a b _ _ => rfl)
  · refine qref (E := 1) (w := 1) (by decide) hr0 ?_ ?_ (Or.inl ⟨rfl, rfl⟩)
    · unfold f_x_words220
      rw [show f_x_needWithin38 p 0 9 I = _ from nW_no (n := 9) (by decide) hp]
      rfl
    · unfold f_m_words359
      rw [show f_m_in264 p 0 9 _ = _ from in_no (n := 9) (by decide) hp, ob_some, if_pos rfl, ob_some, show f_m_bad268 1 1 1 _ = _ from bad_ref (E := 1) (by decide) (by decide)]
      rfl
