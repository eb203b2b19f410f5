/-! image -/
set_option maxHeartbeats 1000000 in
theorem op_image_ok : op_image rel := by
  intro I hr
  have hr0 := hr
  obtain ⟨tn, bl, st, wa, od, tb, pk, ln, ht, nl, bh, bs, nk, ni, wt, u, hS, hD, hP, hL, hB, hK, hT, hC⟩ := hr
  obtain ⟨k1, k2, k3, k4, k5, k6, k7, k8⟩ := hK
  by_cases h3 : ni = 3
  · subst h3
    refine ⟨-1, I, ab_up1 I 47 0 0, ?_, ?_, rel_agr hr0 (agr_up agr_rf rfl)⟩
    · unfold f_x_image29 f_pas_keepImage30
      rw [k6]
      rfl
    · unfold f_m_image380
      rw [k7]
      rfl
  · have hn : ni < 3 := by omega
    have e1547 : Int32.ofNat ni * 1547 = Int32.ofNat (1547 * ni) := by rw [Nat.mul_comm]; exact i_mulr (n := 1547)
    have e91 : Int32.ofNat nk * 91 = Int32.ofNat (91 * nk) := by rw [Nat.mul_comm]; exact i_mulr (n := 91)
    have eadd : Int32.ofNat (1547 * ni) + 91 = Int32.ofNat (1547 * ni + 91) := i_addr (n := 91)
    have einc : Int32.ofNat ni + 1 = Int32.ofNat (ni + 1) := i_addr (n := 1)
    have hx : f_x_image29 I = some (Int32.ofNat (ni + 1), ab_up1 (ab_up1 (ab_cpy (ab_cpy I 16 33 0 (1547 * ni) 91) 32 33 0 (1547 * ni + 91) (91 * nk)) 34 ni (Int32.ofNat nk)) 31 4 (Int32.ofNat (ni + 1))) := by
      unfold f_x_image29 f_pas_keepImage30
      rw [k6, if_pos (by rw [i_ltr (by omega) (by decide)]; exact hn), e1547, show f_x_copy22 16 0 33 (Int32.ofNat (1547 * ni)) 91 I = _ from copy_ok (a := 16) (b := 33) (la := 91) (lb := 4641) (sp := 0) (dp := 1547 * ni) (n := 91) rfl rfl (by decide) (by decide) (by decide) (by omega) (by decide) (by decide), ob_some, cpy_ne (by decide), k2, e91, eadd, show f_x_copy22 32 0 33 (Int32.ofNat (1547 * ni + 91)) (Int32.ofNat (91 * nk)) _ = _ from copy_ok (a := 32) (b := 33) (la := 1456) (lb := 4641) (sp := 0) (dp := 1547 * ni + 91) (n := 91 * nk) rfl rfl (by decide) (by decide) (by omega) (by omega) (by decide) (by decide), ob_some, cpy_ne (by decide), cpy_ne (by decide), k6, cpy_ne (by decide), cpy_ne (by decide), k2, put_34 hn, ob_some, up_ne (by omega), cpy_ne (by decide), cpy_ne (by decide), k6, einc]
      try dsimp only
      rw [ob_some]
      try dsimp only
      rw [if_neg (by decide), ob_some, up_eq]
    obtain ⟨b, m1, m2, m3⟩ := putsAll_w (T := 596 + ni) (KS_595 ni hn) (by omega) (ab_up1 (ab_up1 (ab_up1 (ab_cpy (ab_cpy I 16 33 0 (1547 * ni) 91) 32 33 0 (1547 * ni + 91) (91 * nk)) 34 ni (Int32.ofNat nk)) 31 4 (Int32.ofNat (ni + 1))) 47 0 0)
    -- cells that no one writes
    have z : ∀ a k, a ≠ 33 → ¬ (a = 34 ∧ k = ni) → ¬ (a = 31 ∧ k = 4) → ¬ (a = 47 ∧ (k = 0 ∨ k = 43)) → a ≠ 596 + ni → b a k = I a k := by
      intro a k q1 q2 q3 q4 q5
      rw [m2 a k q5 (by omega), up_ne (by omega), up_ne q3, up_ne q2, cpy_ne q1, cpy_ne q1]
    have eb42 : b 47 42 = Int32.ofNat ni := (z 47 42 (by omega) (by omega) (by omega) (by omega) (by omega)).trans k7
    refine ⟨Int32.ofNat (ni + 1), _, ab_up1 b 47 42 (Int32.ofNat (ni + 1)), hx, ?_, ?_⟩
    · have ek : (ab_up1 (ab_up1 (ab_cpy (ab_cpy I 16 33 0 (1547 * ni) 91) 32 33 0 (1547 * ni + 91) (91 * nk)) 34 ni (Int32.ofNat nk)) 31 4 (Int32.ofNat (ni + 1))) 47 42 = Int32.ofNat ni := by
        rw [up_ne (by omega), up_ne (by omega), cpy_ne (by decide), cpy_ne (by decide), k7]
      unfold f_m_image380
      rw [ek, if_neg (by rw [i_eqr (by omega) (by decide)]; exact h3), rdp_595 hn, ob_some, m1, ob_some, eb42, einc]
    · have z2 : ∀ a k, a ≠ 33 → ¬ (a = 34 ∧ k = ni) → ¬ (a = 31 ∧ k = 4) → ¬ (a = 47 ∧ (k = 0 ∨ k = 43 ∨ k = 42)) → a ≠ 596 + ni → (ab_up1 b 47 42 (Int32.ofNat (ni + 1))) a k = I a k := by
        intro a k q1 q2 q3 q4 q5
        rw [up_ne (by omega), z a k q1 q2 q3 (by omega) q5]
      have z33 : ∀ k, (ab_up1 b 47 42 (Int32.ofNat (ni + 1))) 33 k = (ab_cpy (ab_cpy I 16 33 0 (1547 * ni) 91) 32 33 0 (1547 * ni + 91) (91 * nk)) 33 k := by
        intro k
        rw [up_ne (by omega), m2 33 k (by omega) (by omega), up_ne (by omega), up_ne (by omega), up_ne (by omega)]
      have zlow : ∀ k, k < 1547 * ni → (ab_up1 b 47 42 (Int32.ofNat (ni + 1))) 33 k = I 33 k := by
        intro k hk
        rw [z33, cpy_at, if_neg (by omega), cpy_at, if_neg (by omega)]
      have znow : ∀ k, k < 91 → (ab_up1 b 47 42 (Int32.ofNat (ni + 1))) 33 (1547 * ni + k) = I 16 k := by
        intro k hk
        rw [z33, cpy_at, if_neg (by omega), cpy_at, if_pos (by omega), show 0 + (1547 * ni + k - 1547 * ni) = k by omega]
      have zw : ∀ w k, w < nk → k < 91 → (ab_up1 b 47 42 (Int32.ofNat (ni + 1))) 33 (1547 * ni + 91 + 91 * w + k) = I 32 (91 * w + k) := by
        intro w k hw hk
        rw [z33, cpy_at, if_pos (by omega), cpy_ne (by decide), show 0 + (1547 * ni + 91 + 91 * w + k - (1547 * ni + 91)) = 91 * w + k by omega]
      have base : ∀ a k, a ≠ 33 → a ≠ 34 → a ≠ 31 → ¬ (a = 47 ∧ k = 0) → (ab_up1 (ab_up1 (ab_up1 (ab_cpy (ab_cpy I 16 33 0 (1547 * ni) 91) 32 33 0 (1547 * ni + 91) (91 * nk)) 34 ni (Int32.ofNat nk)) 31 4 (Int32.ofNat (ni + 1))) 47 0 0) a k = I a k := by
        intro a k q1 q2 q3 q4
        rw [up_ne q4, up_ne (by omega), up_ne (by omega), cpy_ne q1, cpy_ne q1]
      have t0 : (ab_up1 b 47 42 (Int32.ofNat (ni + 1))) (596 + ni) 0 = Int32.ofNat nk := by
        rw [up_ne (by omega), m3 0 (by decide)]
        exact (base 47 40 (by decide) (by decide) (by decide) (by decide)).trans k3
      have t1 : ∀ k, k < 91 → (ab_up1 b 47 42 (Int32.ofNat (ni + 1))) (596 + ni) (1 + k) = I 576 k := by
        intro k hk
        rw [up_ne (by omega), m3 (1 + k) (by omega), (dA1 hk).1, (dA1 hk).2]
        exact base 576 k (by decide) (by decide) (by decide) (by omega)
      have t2 : ∀ w k, w < 16 → k < 91 → (ab_up1 b 47 42 (Int32.ofNat (ni + 1))) (596 + ni) (92 + 91 * w + k) = I (579 + w) k := by
        intro w k hw hk
        rw [up_ne (by omega), m3 (92 + 91 * w + k) (by omega), (dA2 hk).1, (dA2 hk).2]
        exact base (579 + w) k (by omega) (by omega) (by omega) (by omega)
      refine ⟨tn, bl, st, wa, od, tb, pk, ln, ht, nl, bh, bs, nk, ni + 1, fun i => if i = ni then nk else wt i, u, rShop_congr (fun a k h => z2 a k (by omega) (by omega) (by omega) (by omega) (by omega)) hS, rStand_congr (fun a k h => z2 a k (by omega) (by omega) (by omega) (by omega) (by omega)) hD, rPat_congr (fun a k h => z2 a k (by omega) (by omega) (by omega) (by omega) (by omega)) hP, rLaw_congr (fun a k h => z2 a k (by omega) (by omega) (by omega) (by omega) (by omega)) hL, rBook_congr (fun a k h => z2 a k (by omega) (by omega) (by omega) (by omega) (by omega)) hB, ?_, rTape_congr (fun a k h => z2 a k (by omega) (by omega) (by omega) (by omega) (by omega)) hT, ?_⟩
      · refine ⟨k1, by rw [z2 _ _ (by omega) (by omega) (by omega) (by omega) (by omega)]; exact k2, by rw [z2 _ _ (by omega) (by omega) (by omega) (by omega) (by omega)]; exact k3, fun w hw => ?_, by omega, ?_, up_eq, fun i hi => ?_⟩
        · have h := k4 w hw
          exact ⟨stE_congr (fun k _ => z2 _ _ (by omega) (by omega) (by omega) (by omega) (by omega)) (fun k _ => z2 _ _ (by omega) (by omega) (by omega) (by omega) (by omega)) h.1, stV_congr (fun k _ => z2 _ _ (by omega) (by omega) (by omega) (by omega) (by omega)) h.2⟩
        · rw [up_ne (by omega), m2 31 4 (by omega) (by omega), up_ne (by omega), up_eq]
        · by_cases hin : i = ni
          · subst hin
            dsimp only
            rw [if_pos rfl]
            refine ⟨k1, ?_, t0, ⟨stE_congr znow t1 hD.1, stV_congr t1 hD.2⟩, fun w hw => ?_⟩
            · rw [up_ne (by omega), m2 34 i (by omega) (by omega), up_ne (by omega), up_ne (by omega), up_eq]
            · have h := k4 w hw
              exact ⟨stE_congr (fun k hk => zw w k hw hk) (fun k hk => t2 w k (by omega) hk) h.1, stV_congr (fun k hk => t2 w k (by omega) hk) h.2⟩
          · dsimp only
            rw [if_neg hin]
            obtain ⟨j1, j2, j3, j4, j5⟩ := k8 i (by omega)
            refine ⟨j1, by rw [z2 _ _ (by omega) (by omega) (by omega) (by omega) (by omega)]; exact j2, by rw [z2 _ _ (by omega) (by omega) (by omega) (by omega) (by omega)]; exact j3, ⟨stE_congr (fun k _ => zlow _ (by omega)) (fun k _ => z2 _ _ (by omega) (by omega) (by omega) (by omega) (by omega)) j4.1, stV_congr (fun k _ => z2 _ _ (by omega) (by omega) (by omega) (by omega) (by omega)) j4.2⟩, fun w hw => ?_⟩
            have h := j5 w hw
            exact ⟨stE_congr (fun k _ => zlow _ (by omega)) (fun k _ => z2 _ _ (by omega) (by omega) (by omega) (by omega) (by omega)) h.1, stV_congr (fun k _ => z2 _ _ (by omega) (by omega) (by omega) (by omega) (by omega)) h.2⟩
      · obtain ⟨c1, c2, c3, c4, c5⟩ := hC
        refine ⟨?_, ?_, ?_, ?_, ?_⟩
        all_goals rw [z2 _ _ (by omega) (by omega) (by omega) (by omega) (by omega), z2 _ _ (by omega) (by omega) (by omega) (by omega) (by omega)]
        · exact c1
        · exact c2
        · exact c3
        · exact c4
        · exact c5
set_option maxHeartbeats 1000000 in
theorem op_restore_ok : op_restore rel := by
  intro I hr
  have hr0 := hr
  obtain ⟨tn, bl, st, wa, od, tb, pk, ln, ht, nl, bh, bs, nk, ni, wt, u, hS, hD, hP, hL, hB, hK, hT, hC⟩ := hr
  obtain ⟨k1, k2, k3, k4, k5, k6, k7, k8⟩ := hK
  cases ni with
  | zero =>
    refine ⟨-1, I, ab_up1 I 47 0 0, ?_, ?_, rel_agr hr0 (agr_up agr_rf rfl)⟩
    · unfold f_x_restore31
      rw [k6]
      rfl
    · unfold f_m_restore383
      rw [k7]
      rfl
  | succ m =>
    obtain ⟨j1, j2, j3, j4, j5⟩ := k8 m (by omega)
    have es : Int32.ofNat (m + 1) - 1 = Int32.ofNat m := i_sub (a := m + 1) (b := 1) (by omega)
    have e1547 : Int32.ofNat m * 1547 = Int32.ofNat (1547 * m) := by rw [Nat.mul_comm]; exact i_mulr (n := 1547)
    have e91 : Int32.ofNat (wt m) * 91 = Int32.ofNat (91 * wt m) := by rw [Nat.mul_comm]; exact i_mulr (n := 91)
    have eadd : Int32.ofNat (1547 * m) + 91 = Int32.ofNat (1547 * m + 91) := i_addr (n := 91)
    have hx : f_x_restore31 I = some (Int32.ofNat m, ab_up1 (ab_cpy (ab_cpy (ab_up1 (ab_up1 I 31 4 (Int32.ofNat m)) 31 3 (Int32.ofNat (wt m))) 33 16 (1547 * m) 0 91) 33 32 (1547 * m + 91) 0 (91 * wt m)) 0 13 0) := by
      unfold f_x_restore31 f_pas_takeImage32
      rw [k6, if_neg (by rw [i_eqr (by omega) (by decide)]; exact Nat.succ_ne_zero m), es, at_34 (by omega), ob_some, up_ne (by omega), j2, e1547, show f_x_copy22 33 (Int32.ofNat (1547 * m)) 16 0 91 _ = _ from copy_ok (a := 33) (b := 16) (la := 4641) (lb := 91) (sp := 1547 * m) (dp := 0) (n := 91) rfl rfl (by decide) (by decide) (by omega) (by decide) (by decide) (by decide), ob_some, cpy_ne (by decide), up_eq, e91, eadd, show f_x_copy22 33 (Int32.ofNat (1547 * m + 91)) 32 0 (Int32.ofNat (91 * wt m)) _ = _ from copy_ok (a := 33) (b := 32) (la := 4641) (lb := 1456) (sp := 1547 * m + 91) (dp := 0) (n := 91 * wt m) rfl rfl (by decide) (by decide) (by omega) (by omega) (by decide) (by decide), ob_some, ob_some, cpy_ne (by decide), cpy_ne (by decide), up_ne (by omega), up_eq]
    obtain ⟨b, m1, m2, m3⟩ := putsAll_r (T := 596 + m) (KS_595 m (by omega)) (by omega) (ab_up1 (ab_up1 (ab_up1 (ab_cpy (ab_cpy (ab_up1 (ab_up1 I 31 4 (Int32.ofNat m)) 31 3 (Int32.ofNat (wt m))) 33 16 (1547 * m) 0 91) 33 32 (1547 * m + 91) 0 (91 * wt m)) 0 13 0) 47 0 0) 47 42 (Int32.ofNat m))
    have dn : ∀ a k, ¬ (a = 47 ∧ k = 40) → a ≠ 576 → ¬ (579 ≤ a ∧ a < 595) → ∀ j, j < 1548 → ¬ (a = dA j ∧ k = dK j) := by
      intro a k q1 q2 q3 j hj
      rcases d_cases j hj with ⟨a1, a2, a3⟩ | ⟨a0, a1, a2, a3⟩ | ⟨a1, a2, a3⟩ <;> rw [a2, a3] <;> omega
    have z : ∀ a k, ¬ (a = 31 ∧ (k = 3 ∨ k = 4)) → a ≠ 16 → a ≠ 32 → ¬ (a = 0 ∧ k = 13) → ¬ (a = 47 ∧ (k = 0 ∨ k = 42 ∨ k = 43 ∨ k = 40 ∨ k = 41)) → a ≠ 576 → ¬ (579 ≤ a ∧ a < 595) → (ab_up1 b 47 41 0) a k = I a k := by
      intro a k q1 q2 q3 q4 q5 q6 q7
      rw [up_ne (by omega), m3 a k (by omega) (dn a k (by omega) q6 q7), up_ne (by omega), up_ne (by omega), up_ne q4, cpy_ne q3, cpy_ne q2, up_ne (by omega), up_ne (by omega)]
    have y : ∀ a k, a ≠ 47 → a < 50 → (ab_up1 b 47 41 0) a k = (ab_up1 (ab_cpy (ab_cpy (ab_up1 (ab_up1 I 31 4 (Int32.ofNat m)) 31 3 (Int32.ofNat (wt m))) 33 16 (1547 * m) 0 91) 33 32 (1547 * m + 91) 0 (91 * wt m)) 0 13 0) a k := by
      intro a k q1 q2
      rw [up_ne (by omega), m3 a k (by omega) (dn a k (by omega) (by omega) (by omega)), up_ne (by omega), up_ne (by omega)]
    have t : ∀ j, j < 1548 → ¬ (dA j = 47 ∧ dK j = 41) → (ab_up1 b 47 41 0) (dA j) (dK j) = I (596 + m) j := by
      intro j hj hne
      rw [up_ne hne, m2 j hj, up_ne (by omega), up_ne (by omega), up_ne (by omega), cpy_ne (by omega), cpy_ne (by omega), up_ne (by omega), up_ne (by omega)]
    have t0 : (ab_up1 b 47 41 0) 47 40 = Int32.ofNat (wt m) := (t 0 (by decide) (by decide)).trans j3
    have t1 : ∀ k, k < 91 → (ab_up1 b 47 41 0) 576 k = I (596 + m) (1 + k) := by
      intro k hk
      have h := t (1 + k) (by omega) (by rw [(dA1 hk).1]; omega)
      rw [(dA1 hk).1, (dA1 hk).2] at h
      exact h
    have t2 : ∀ w k, w < 16 → k < 91 → (ab_up1 b 47 41 0) (579 + w) k = I (596 + m) (92 + 91 * w + k) := by
      intro w k hw hk
      have h := t (92 + 91 * w + k) (by omega) (by rw [(dA2 hk).1]; omega)
      rw [(dA2 hk).1, (dA2 hk).2] at h
      exact h
    have x16 : ∀ k, k < 91 → (ab_up1 b 47 41 0) 16 k = I 33 (1547 * m + k) := by
      intro k hk
      rw [y 16 k (by decide) (by decide), up_ne (by omega), cpy_ne (by decide), cpy_at, if_pos (by omega), up_ne (by omega), up_ne (by omega), Nat.sub_zero]
    have x32 : ∀ w k, w < wt m → k < 91 → (ab_up1 b 47 41 0) 32 (91 * w + k) = I 33 (1547 * m + 91 + 91 * w + k) := by
      intro w k hw hk
      rw [y 32 _ (by decide) (by decide), up_ne (by omega), cpy_at, if_pos (by omega), cpy_ne (by decide), up_ne (by omega), up_ne (by omega), show 1547 * m + 91 + (91 * w + k - 0) = 1547 * m + 91 + 91 * w + k by omega]
    have e42 : (ab_up1 b 47 41 0) 47 42 = Int32.ofNat m := by
      rw [up_ne (by omega), m3 47 42 (by omega) (dn 47 42 (by omega) (by omega) (by omega)), up_eq]
    refine ⟨Int32.ofNat m, _, ab_up1 b 47 41 0, hx, ?_, ?_⟩
    · have ek : (ab_up1 (ab_cpy (ab_cpy (ab_up1 (ab_up1 I 31 4 (Int32.ofNat m)) 31 3 (Int32.ofNat (wt m))) 33 16 (1547 * m) 0 91) 33 32 (1547 * m + 91) 0 (91 * wt m)) 0 13 0) 47 42 = Int32.ofNat (m + 1) := by
        rw [up_ne (by omega), cpy_ne (by decide), cpy_ne (by decide), up_ne (by omega), up_ne (by omega), k7]
      have eb : b 47 42 = Int32.ofNat m := by
        rw [← e42, up_ne (by omega)]
      unfold f_m_restore383
      rw [ek, if_neg (by rw [i_eqr (by omega) (by decide)]; exact Nat.succ_ne_zero m), es, rdp_595 (by omega), ob_some, m1, ob_some, eb]
    · refine ⟨tn, bl, st, wa, od, tb, pk, ln, ht, nl, bh, bs, wt m, m, wt, u, rShop_congr (fun a k h => z a k (by omega) (by omega) (by omega) (by omega) (by omega) (by omega) (by omega)) hS, ?_, rPat_congr (fun a k h => z a k (by omega) (by omega) (by omega) (by omega) (by omega) (by omega) (by omega)) hP, rLaw_congr (fun a k h => z a k (by omega) (by omega) (by omega) (by omega) (by omega) (by omega) (by omega)) hL, rBook_congr (fun a k h => z a k (by omega) (by omega) (by omega) (by omega) (by omega) (by omega) (by omega)) hB, ?_, rTape_congr (fun a k h => z a k (by omega) (by omega) (by omega) (by omega) (by omega) (by omega) (by omega)) hT, ?_⟩
      · exact ⟨stE_congr x16 t1 j4.1, stV_congr t1 j4.2⟩
      · refine ⟨j1, ?_, t0, fun w hw => ?_, by omega, ?_, e42, fun i hi => ?_⟩
        · rw [y 31 3 (by decide) (by decide), up_ne (by omega), cpy_ne (by decide), cpy_ne (by decide), up_eq]
        · have h := j5 w hw
          exact ⟨stE_congr (fun k hk => x32 w k hw hk) (fun k hk => t2 w k (by omega) hk) h.1, stV_congr (fun k hk => t2 w k (by omega) hk) h.2⟩
        · rw [y 31 4 (by decide) (by decide), up_ne (by omega), cpy_ne (by decide), cpy_ne (by decide), up_ne (by omega), up_eq]
        · obtain ⟨i1, i2, i3, i4, i5⟩ := k8 i (by omega)
          refine ⟨i1, by rw [z _ _ (by omega) (by omega) (by omega) (by omega) (by omega) (by omega) (by omega)]; exact i2, by rw [z _ _ (by omega) (by omega) (by omega) (by omega) (by omega) (by omega) (by omega)]; exact i3, ⟨stE_congr (fun k _ => z _ _ (by omega) (by omega) (by omega) (by omega) (by omega) (by omega) (by omega)) (fun k _ => z _ _ (by omega) (by omega) (by omega) (by omega) (by omega) (by omega) (by omega)) i4.1, stV_congr (fun k _ => z _ _ (by omega) (by omega) (by omega) (by omega) (by omega) (by omega) (by omega)) i4.2⟩, fun w hw => ?_⟩
          have h := i5 w hw
          exact ⟨stE_congr (fun k _ => z _ _ (by omega) (by omega) (by omega) (by omega) (by omega) (by omega) (by omega)) (fun k _ => z _ _ (by omega) (by omega) (by omega) (by omega) (by omega) (by omega) (by omega)) h.1, stV_congr (fun k _ => z _ _ (by omega) (by omega) (by omega) (by omega) (by omega) (by omega) (by omega)) h.2⟩
      · obtain ⟨c1, c2, c3, c4, c5⟩ := hC
        refine ⟨?_, ?_, ?_, ?_, ?_⟩
        · rw [y 0 13 (by decide) (by decide), up_eq, up_eq]
        all_goals rw [z _ _ (by omega) (by omega) (by omega) (by omega) (by omega) (by omega) (by omega), z _ _ (by omega) (by omega) (by omega) (by omega) (by omega) (by omega) (by omega)]
        · exact c2
        · exact c3
        · exact c4
        · exact c5
