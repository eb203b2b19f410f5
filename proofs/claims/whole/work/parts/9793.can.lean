theorem st_copy {I : MJ} : f_sta_copyFrom107 17 15 I = some (ab_cpy I 16 18 0 0 91) := by
  unfold f_sta_copyFrom107
  rw [show f_x_copy22 (15 + 1) 0 (17 + 1) 0 91 I = _ from copy_ok (a := 16) (b := 18) (la := 91) (lb := 91) (sp := 0) (dp := 0) (n := 91) rfl rfl (by decide) (by decide) (by decide) (by decide) (by decide) (by decide)]
  rfl
theorem qs_18 {g k : Nat} (h : qs g k = false) : g ≠ 18 := by
  rintro rfl
  exact Bool.noConfusion (show true = false from h)
theorem qs_599 {g k : Nat} (h : qs g k = false) : g ≠ 599 := by
  rintro rfl
  exact Bool.noConfusion (show true = false from h)
set_option maxHeartbeats 1000000 in
theorem op_can_ok : op_can rel := by
  intro p q I hr
  have hr0 := hr
  obtain ⟨tn, bl, st, wa, od, tb, pk, ln, ht, nl, bh, bs, nk, ni, wt, u, hS, hD, hP, hL, hB, hK, hT, hC⟩ := hr
  obtain ⟨s1, s2, s3, s4, s5, s6, s7, s8, s9, s10, s11, s12, s13, s14, s15, s16, s17⟩ := hS
  obtain ⟨d1, d2⟩ := hD
  obtain ⟨g1, g2, g3, g4, g5, g6⟩ := hP
  have t5 : I 3 5 = Int32.ofNat (tn 0) := s3 0 (by decide)
  have t6 : I 3 6 = Int32.ofNat (tn 1) := s3 1 (by decide)
  have u0 : I 51 0 = Int32.ofNat (tn 0) := s2 0 (by decide)
  have u1 : I 51 1 = Int32.ofNat (tn 1) := s2 1 (by decide)
  rcases range_cases p (n := tn 1) (by omega) with ⟨kp, hp, rfl⟩ | hp
  · rcases range_cases q (n := 6) (by omega) with ⟨kq, hq, rfl⟩ | hq
    · have hc6 : kp < 6 := by omega
      have hsx : f_sta_hasSuit108 15 (Int32.ofNat kp) (ab_cpy I 16 18 0 0 91) = some (if I 576 (82 + kp) = -1 then 0 else 1) := by
        rw [x_hasSuit (t := 15) rfl (by decide) hc6, cpy_ne (by decide), stE_cut d1 hc6]
      by_cases h0 : I 576 (82 + kp) = -1
      · obtain ⟨J1, x1, x2, x3, x4⟩ := x_pattern (I := ab_cpy I 16 18 0 0 91) (nb := tn 0) (tb := tb) (p := kq) (bk := fun b => bl b 0) (pk := pk) (fun b => I 576 b) hq (by omega) (by rw [cpy_ne (by decide)]; exact t5) (fun b hb => by rw [cpy_ne (by decide)]; exact s7 b hb) g1 (by rw [cpy_ne (by decide)]; exact g2) (fun p h hp hh => by rw [cpy_ne (by decide)]; exact g6 p h hp hh) (fun b hb => by
          rw [cpy_at, if_pos ⟨Nat.zero_le _, by omega⟩, show 0 + (9 + b - 0) = 9 + b by omega]
          exact stE_left d1 (by omega))
        have hJ : ∀ g k, g ≠ 18 → J1 g k = I g k := fun g k hg => by rw [x2 g k hg, cpy_ne hg]
        have hK : ∀ g k, g ≠ 18 → g ≠ 47 → ab_up1 J1 47 0 0 g k = I g k := fun g k hg h4 => by rw [up_ne (fun h => h4 h.1), hJ g k hg]
        obtain ⟨J2, m1, m2, m3, m4⟩ := m_pattern (I := ab_up1 J1 47 0 0) (a := 576) (nb := tn 0) (tb := tb) (p := kq) (bk := fun b => bl b 0) (pk := pk) (fun b => I 576 b) rfl (by decide) (by decide) hq (by omega) (by rw [hK 51 0 (by decide) (by decide)]; exact u0) (fun b hb => by rw [hK _ _ (by omega) (by omega)]; exact s5 b hb) (fun p hp => by rw [hK _ _ (by decide) (by decide)]; exact g3 p hp) (fun p h hp hh => by rw [hK _ _ (by omega) (by omega)]; exact g5 p h hp hh) (fun b hb => hK _ _ (by decide) (by decide))
        have hsm : f_m_hasSuit305 576 (Int32.ofNat kp) (ab_up1 J1 47 0 0) = some 0 := by
          rw [m_hasSuit (n := 91) rfl (by decide) (by decide) hc6, hK _ _ (by decide) (by decide), if_pos h0]
        rw [if_pos h0] at hsx
        generalize hC : (if tb.testBit kq = true ∧ (cutF (fun b => bl b 0) (tn 0) (fun h => Int32.ofNat (pk kq h)) 12 1 (fun b => I 576 b)).1 = true then (1 : Int32) else 0) = C at x1 m1
        have hC01 : C = 0 ∨ C = 1 := by
          rw [← hC]
          split
          · exact Or.inr rfl
          · exact Or.inl rfl
        refine qokB (v := C) (w := C) (I1 := J1) (I2 := J2) hr0 ?_ ?_ Iff.rfl (fun g k h => by
          rw [m2 g k (qs_599 h)]
          exact (agr_up (s := qs) (agr_rf (I := J1)) (a := 47) (k := 0) (x := 0) rfl g k h).trans (hJ g k (qs_18 h))) (by rw [m2 47 0 (by decide)]; exact up_eq)
        · unfold f_x_can171
          rw [t6, nE_ok hp (by omega), tb_inr, nP_ok hq, tb_inr]
          unfold f_tra_allowsCut106
          rw [st_copy, ob_some, hsx, ob_some, if_pos rfl, x1, ob_some]
          rcases hC01 with rfl | rfl
          · dsimp only
            rw [if_pos rfl, ob_some, ob_some]
            simp only [nar_0, nar_1]
          · dsimp only
            rw [if_neg (by decide), ob_some, ob_some]
            simp only [nar_0, nar_1]
        · unfold f_m_can339
          rw [mC_ok (I := ab_up1 J1 47 0 0) (by rw [hK _ _ (by decide) (by decide)]; exact u1) hp (by omega), ob_some, if_neg (by decide), mP_ok hq, ob_some, if_neg (by decide), ob_some, bad_0 up_eq, ob_some, if_pos rfl]
          dsimp only
          unfold f_m_canCut306
          rw [hsm, ob_some, if_pos rfl, m1, ob_some]
          rcases hC01 with rfl | rfl
          · dsimp only
            rw [if_pos rfl, ob_some, ob_some]
            simp only [nar_0, nar_1]
          · dsimp only
            rw [if_neg (by decide), ob_some, ob_some]
            simp only [nar_0, nar_1]
      · rw [if_neg h0] at hsx
        have hK : ∀ g k, g ≠ 18 → g ≠ 47 → ab_up1 (ab_cpy I 16 18 0 0 91) 47 0 0 g k = I g k := fun g k hg h4 => by rw [up_ne (fun h => h4 h.1), cpy_ne hg]
        have hsm : f_m_hasSuit305 576 (Int32.ofNat kp) (ab_up1 (ab_cpy I 16 18 0 0 91) 47 0 0) = some 1 := by
          rw [m_hasSuit (n := 91) rfl (by decide) (by decide) hc6, hK _ _ (by decide) (by decide), if_neg h0]
        refine qokB (v := 0) (w := 0) (I1 := ab_cpy I 16 18 0 0 91) (I2 := ab_up1 (ab_cpy I 16 18 0 0 91) 47 0 0) hr0 ?_ ?_ Iff.rfl (fun g k h => (agr_up (s := qs) (agr_rf (I := ab_cpy I 16 18 0 0 91)) (a := 47) (k := 0) (x := 0) rfl g k h).trans (cpy_ne (qs_18 h))) up_eq
        · unfold f_x_can171
          rw [t6, nE_ok hp (by omega), tb_inr, nP_ok hq, tb_inr]
          unfold f_tra_allowsCut106
          rw [st_copy, ob_some, hsx, ob_some, if_neg (by decide), ob_some]
          simp only [ob_some, nar_0, nar_1]
        · unfold f_m_can339
          rw [mC_ok (I := ab_up1 (ab_cpy I 16 18 0 0 91) 47 0 0) (by rw [hK _ _ (by decide) (by decide)]; exact u1) hp (by omega), ob_some, if_neg (by decide), mP_ok hq, ob_some, if_neg (by decide), ob_some, bad_0 up_eq, ob_some, if_pos rfl]
          dsimp only
          unfold f_m_canCut306
          rw [hsm, ob_some, if_neg (by decide), ob_some]
          simp only [ob_some, nar_0, nar_1]
    · refine qrefB (E := 0) (w := 1) (by decide) hr0 ?_ ?_ (Or.inl ⟨rfl, rfl⟩)
      · unfold f_x_can171
        rw [t6, nE_ok hp (by omega), tb_inr, nP_no hq]
        rfl
      · unfold f_m_can339
        rw [mC_ok (I := ab_up1 (ab_up1 I 0 (14 + 0) (I 0 (14 + 0) + 1)) 47 0 0) u1 hp (by omega), ob_some, if_neg (by decide), mP_no hq, ob_some, if_pos rfl, ob_some, show f_m_bad268 1 1 0 _ = _ from bad_ref (E := 0) (by decide) (by decide)]
        rfl
  · refine qrefB (E := 0) (w := 1) (by decide) hr0 ?_ ?_ (Or.inl ⟨rfl, rfl⟩)
    · unfold f_x_can171
      rw [t6, nE_no hp]
      rfl
    · unfold f_m_can339
      rw [mC_no (I := ab_up1 (ab_up1 I 0 (14 + 0) (I 0 (14 + 0) + 1)) 47 0 0) u1 (by omega) hp, ob_some, if_pos rfl, ob_some, show f_m_bad268 1 1 0 _ = _ from bad_ref (E := 0) (by decide) (by decide)]
      rfl
