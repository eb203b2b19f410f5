/-! work: days; any step but an again -/
def cxC (nb nc no tb ln : Nat) (bk : Nat → Nat) (od pk : Nat → Nat → Nat) (cd : Nat → Int32) (J : MJ) : Prop := J 3 5 = Int32.ofNat nb ∧ J 3 6 = Int32.ofNat nc ∧ (∀ b, b < nb → J 4 b = Int32.ofNat (bk b)) ∧ (∀ o j, o < no → j < 5 → J 8 (5 * o + j) = Int32.ofNat (od o j)) ∧ J 19 3 = Int32.ofNat tb ∧ (∀ p h, p < 6 → h < 12 → J 20 (12 * p + h) = Int32.ofNat (pk p h)) ∧ lawX ln cd J
def cxM (nb nc no tb ln : Nat) (bk : Nat → Nat) (od pk : Nat → Nat → Nat) (hw vv : Nat → Int32) (J : MJ) : Prop := J 51 0 = Int32.ofNat nb ∧ J 51 1 = Int32.ofNat nc ∧ (∀ b, b < nb → J (66 + b) 0 = Int32.ofNat (bk b)) ∧ (∀ o j, o < no → j < 5 → J (120 + o) j = Int32.ofNat (od o j)) ∧ (∀ p, p < 6 → J 135 p = if tb.testBit p then 1 else 0) ∧ (∀ p h, p < 6 → h < 12 → J (129 + p) h = Int32.ofNat (pk p h)) ∧ lawM ln hw vv J
def cxB (nb nc no tb ln : Nat) (od pk : Nat → Nat → Nat) (ht : Nat → Nat) (cd hw vv : Nat → Int32) : Prop := nb ≤ 10 ∧ nc ≤ 6 ∧ no ≤ 8 ∧ tb < 64 ∧ (∀ o, o < no → od o 0 < nc ∧ od o 1 < 6) ∧ (∀ p h, p < 6 → h < 12 → pk p h < 6) ∧ lawP ln ht cd hw vv
section CX
variable {nb nc no tb ln : Nat} {bk : Nat → Nat} {od pk : Nat → Nat → Nat} {ht : Nat → Nat} {cd hw vv : Nat → Int32} {I J : MJ}
theorem cxC_c (h : cxC nb nc no tb ln bk od pk cd I) (e : ∀ a k, (a = 3 ∨ a = 4 ∨ a = 8 ∨ a = 19 ∨ a = 20 ∨ a = 23 ∨ a = 24) → J a k = I a k) : cxC nb nc no tb ln bk od pk cd J := by
  obtain ⟨h1, h2, h3, h4, h5, h6, h7⟩ := h
  exact ⟨(e _ _ (by omega)).trans h1, (e _ _ (by omega)).trans h2, fun b hb => (e _ _ (by omega)).trans (h3 b hb), fun o j ho hj => (e _ _ (by omega)).trans (h4 o j ho hj), (e _ _ (by omega)).trans h5, fun p h hp hh => (e _ _ (by omega)).trans (h6 p h hp hh), lawX_c h7 (fun k => e _ _ (by omega)) (fun k => e _ _ (by omega))⟩
theorem cxM_c (hb : cxB nb nc no tb ln od pk ht cd hw vv) (h : cxM nb nc no tb ln bk od pk hw vv I) (e : ∀ a k, (a = 51 ∨ (66 ≤ a ∧ a < 76) ∨ (120 ≤ a ∧ a < 128) ∨ (129 ≤ a ∧ a < 136) ∨ (a = 47 ∧ k = 25) ∨ (146 ≤ a ∧ a < 296)) → J a k = I a k) : cxM nb nc no tb ln bk od pk hw vv J := by
  obtain ⟨b1, b2, b3, b4, b5, b6, b7⟩ := hb
  obtain ⟨h1, h2, h3, h4, h5, h6, h7⟩ := h
  exact ⟨(e _ _ (by omega)).trans h1, (e _ _ (by omega)).trans h2, fun b hb => (e _ _ (by omega)).trans (h3 b hb), fun o j ho hj => (e _ _ (by omega)).trans (h4 o j ho hj), fun p hp => (e _ _ (by omega)).trans (h5 p hp), fun p h hp hh => (e _ _ (by omega)).trans (h6 p h hp hh), lawM_c b7.1 h7 (e _ _ (by omega)) (fun a k h1 h2 => e _ _ (by omega))⟩
end CX
section DOSTEP4
variable {nb nc no tb ln k v : Nat} {bk : Nat → Nat} {od pk : Nat → Nat → Nat} {ht : Nat → Nat} {cd hw vv : Nat → Int32} {Jc Jm : MJ} {r : Nat → Int32}
theorem do_day {z1 z2 z3 : Int32} (hk : k < 80) (hn : nc ≤ 6) (hp : lawP ln ht cd hw vv) (hl : lawX ln cd Jc) (hm : lawM ln hw vv Jm) (e6 : Jc 3 6 = Int32.ofNat nc) (e51 : Jm 51 1 = Int32.ofNat nc) (e0 : Jm (496 + k) 0 = 5) (hE : stE (Jc 16) r) (hM : ∀ k, k < 91 → Jm 576 k = r k) (hV : stV nb nc r) : DOES (f_tra_step104 5 z1 z2 z3 Jc) (f_m_does304 576 (496 + k) Jm) nb nc Jc Jm := by
  have hx : f_tra_step104 5 z1 z2 z3 Jc = Option.bind (f_tra_passDay129 15 Jc) fun w4 => some ((vp_nar .boolean w4.1), w4.2) := by
    unfold f_tra_step104
    rw [if_neg (show ¬ (5 : Int32) = 0 by decide), if_neg (show ¬ (5 : Int32) = 1 by decide), if_neg (show ¬ (5 : Int32) = 2 by decide), if_neg (show ¬ (5 : Int32) = 3 by decide), if_neg (show ¬ (5 : Int32) = 4 by decide)]
  have hy : f_m_does304 576 (496 + k) Jm = Option.bind (f_m_dayEnds314 576 Jm) fun w4 => some ((vp_nar .boolean w4.1), w4.2) := by
    unfold f_m_does304
    rw [show rd Jm (496 + k) (1 : Int32) = some (Jm (496 + k) 1) from rdr_495 (k := 1) hk (by decide), ob_some, show rd Jm (496 + k) (0 : Int32) = some (Jm (496 + k) 0) from rdr_495 (k := 0) hk (by decide), ob_some, e0, if_pos (show (0 : Int32) < 5 by decide), ob_some, if_neg (show ¬ (5 : Int32) < 4 by decide), ob_some, if_neg (show ¬ (5 : Int32) = 0 by decide), if_neg (show ¬ (5 : Int32) = 1 by decide), if_neg (show ¬ (5 : Int32) = 2 by decide), if_neg (show ¬ (5 : Int32) = 3 by decide), if_neg (show ¬ (5 : Int32) = 4 by decide)]
  obtain ⟨day, h1, h2, -, -, -⟩ := id hV
  by_cases h60 : day < 60
  · obtain ⟨⟨x, K⟩, k1, k2, k3, k4⟩ := x_passDay (I := Jc) (t := 15) (r := r) (nc := nc) hp rfl (Or.inl rfl) hl e6 hn hE h2 h60
    obtain ⟨⟨y, M⟩, m1, m2, m3, m4⟩ := m_dayEnds (I := Jm) (a := 576) (r := r) (nc := nc) hp rfl (Or.inl rfl) hm e51 hn hM h2 h60
    dsimp only at k2 k3 k4 m2 m3 m4
    subst k2
    subst m2
    refine ⟨1, K, M, dyS (lvV ln ht hw vv) r nc, ?_, ?_, Or.inr rfl, fun a k q1 q2 q3 q4 => k3 a k q3 q4 q1, fun a k q1 q2 q3 q4 q5 => m3 a k q3 q4 q5 q1, k4, m4, stV_dy h60 h2 hV hn⟩
    · rw [hx, k1, ob_some]
      exact congrArg some (Prod.ext nar_1 rfl)
    · rw [hy, m1, ob_some]
      exact congrArg some (Prod.ext nar_1 rfl)
  · have e60 : day = 60 := by omega
    subst e60
    refine ⟨0, Jc, Jm, r, ?_, ?_, Or.inl rfl, fcD_rf, fmD_rf, hE, hM, hV⟩
    · rw [hx, x_passDay_no (t := 15) rfl (Or.inl rfl) ((stE_day hE).trans h2), ob_some]
      exact congrArg some (Prod.ext nar_0 rfl)
    · rw [hy, m_dayEnds_no (a := 576) rfl (by decide) ((hM 89 (by decide)).trans h2), ob_some]
      exact congrArg some (Prod.ext nar_0 rfl)
/-- any step but an again -/
theorem does_it {c : Nat} (hc : c ≤ 64) (hkc : k < c) (hR : rowR nc no k c Jc Jm) (h6 : Jm (496 + k) 0 ≠ 6) (hB : cxB nb nc no tb ln od pk ht cd hw vv) (hC : cxC nb nc no tb ln bk od pk cd Jc) (hD : cxM nb nc no tb ln bk od pk hw vv Jm) (hE : stE (Jc 16) r) (hM : ∀ k, k < 91 → Jm 576 k = r k) (hV : stV nb nc r) : DOES (f_tra_step104 (Jc 30 (4 * k)) (Jc 30 (4 * k + 1)) (Jc 30 (4 * k + 2)) (Jc 30 (4 * k + 3)) Jc) (f_m_does304 576 (496 + k) Jm) nb nc Jc Jm := by
  obtain ⟨b1, b2, b3, b4, b5, b6, b7⟩ := hB
  obtain ⟨c1, c2, c3, c4, c5, c6, c7⟩ := hC
  obtain ⟨d1, d2, d3, d4, d5, d6, d7⟩ := hD
  obtain ⟨kd, a1, a2, a3, a4, a5, a6, a7, a8, -⟩ := hR
  have hk : k < 80 := by omega
  have hk6 : kd ≠ 6 := fun z => h6 (by rw [a3, z]; rfl)
  rw [a2]
  have hcs : kd = 0 ∨ kd = 1 ∨ kd = 2 ∨ kd = 3 ∨ kd = 4 ∨ kd = 5 := by omega
  rcases hcs with rfl | rfl | rfl | rfl | rfl | rfl
  · obtain ⟨v, v1, v2, v3⟩ := a4 (by decide)
    obtain ⟨p, p1, p2, p3⟩ := a5 rfl
    rw [v2, p2]
    exact do_cut hk v1 b2 p1 b1 c1 c3 b4 c5 b6 c6 d1 d3 d5 d6 a3 v3 p3 hE hM hV
  · obtain ⟨v, v1, v2, v3⟩ := a4 (by decide)
    obtain ⟨h, x, p1, p2, p3, p4, p5, p6⟩ := a6 rfl
    rw [v2, p3, p5]
    exact do_alter hk b1 c1 c3 d1 d3 a3 v3 p4 p6 (by omega) p1 p2 hE hM hV
  · obtain ⟨v, v1, v2, v3⟩ := a4 (by decide)
    rw [v2]
    exact do_turn hk a3 v3 (by omega) hE hM hV
  · obtain ⟨v, v1, v2, v3⟩ := a4 (by decide)
    rw [v2]
    exact do_strip hk a3 v3 (by omega) hE hM hV
  · obtain ⟨o, o1, o2, o3⟩ := a7 rfl
    rw [o2]
    have := b5 o o1
    exact do_sell hk o1 b3 ⟨by omega, this.2⟩ c4 d4 c5 b4 d5 d6 c6 a3 o3 hE hM hV
  · exact do_day hk b2 b7 c7 d7 c2 d2 a3 hE hM hV
end DOSTEP4
