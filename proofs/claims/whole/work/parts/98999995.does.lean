/-! work: rows of a stand, cell by cell; what a step does -/
def rU (r : Nat → Int32) (i : Nat) (x : Int32) : Nat → Int32 := fun k => if k = i then x else r k
theorem rU_eq {r : Nat → Int32} {i : Nat} {x : Int32} : rU r i x i = x := if_pos rfl
theorem rU_ne {r : Nat → Int32} {i k : Nat} {x : Int32} (h : k ≠ i) : rU r i x k = r k := if_neg h
theorem pi_inj {k j : Nat} (hk : k < 91) (hj : j < 91) (h : pi91 k = pi91 j) : k = j := by
  unfold pi91 at h
  repeat' split at h
  all_goals omega
theorem pi_lt {k : Nat} (hk : k < 91) : pi91 k < 91 := by
  unfold pi91
  repeat' split
  all_goals omega
theorem pi_left {b : Nat} : pi91 (9 + b) = b := by
  unfold pi91
  repeat' split
  all_goals omega
theorem pi_cut {c : Nat} (hc : c < 6) : pi91 (3 + c) = 82 + c := by
  unfold pi91
  repeat' split
  all_goals omega
theorem pi_worn {c j : Nat} : pi91 (19 + 12 * c + j) = 10 + 12 * c + j := by
  unfold pi91
  repeat' split
  all_goals omega
theorem stE_up {J : MJ} {a j i : Nat} {x : Int32} {r : Nat → Int32} (h : stE (J a) r) (hj : j < 91) (e : pi91 j = i) : stE ((ab_up1 J a j x) a) (rU r i x) := fun k hk => by
  by_cases e1 : k = j
  · subst e1
    rw [up_eq, e, rU_eq]
  · rw [up_ne (fun z => e1 z.2), h k hk, rU_ne]
    intro z
    exact e1 (pi_inj hk hj (z.trans e.symm))
theorem mr_up {J : MJ} {i : Nat} {x : Int32} {r : Nat → Int32} (h : ∀ k, k < 91 → J 576 k = r k) : ∀ k, k < 91 → (ab_up1 J 576 i x) 576 k = rU r i x k := fun k hk => by
  by_cases e : k = i
  · subst e
    rw [up_eq, rU_eq]
  · rw [up_ne (fun z => e z.2), rU_ne e, h k hk]
def fcD (I J : MJ) : Prop := ∀ a k, a ≠ 16 → a ≠ 18 → a ≠ 26 → a ≠ 27 → J a k = I a k
def fmD (I J : MJ) : Prop := ∀ a k, a ≠ 576 → a ≠ 599 → a ≠ 493 → a ≠ 494 → a ≠ 600 → J a k = I a k
theorem fcD_rf {I : MJ} : fcD I I := fun _ _ _ _ _ _ => rfl
theorem fmD_rf {I : MJ} : fmD I I := fun _ _ _ _ _ _ _ => rfl
theorem fcD_up {I J : MJ} {j : Nat} {x : Int32} (h : fcD I J) : fcD I (ab_up1 J 16 j x) := fun a k h1 h2 h3 h4 => by rw [up_ne (fun z => h1 z.1)]; exact h a k h1 h2 h3 h4
theorem fmD_up {I J : MJ} {j : Nat} {x : Int32} (h : fmD I J) : fmD I (ab_up1 J 576 j x) := fun a k h1 h2 h3 h4 h5 => by rw [up_ne (fun z => h1 z.1)]; exact h a k h1 h2 h3 h4 h5
/-- a step of both: the same answer, the same stand -/
def DOES (X M : Option (Int32 × MJ)) (nb nc : Nat) (Jc Jm : MJ) : Prop := ∃ v Kc Km r, X = some (v, Kc) ∧ M = some (v, Km) ∧ (v = 0 ∨ v = 1) ∧ fcD Jc Kc ∧ fmD Jm Km ∧ stE (Kc 16) r ∧ (∀ k, k < 91 → Km 576 k = r k) ∧ stV nb nc r
section STVU
variable {nb nc i : Nat} {x : Int32} {r : Nat → Int32}
theorem stV_U1 (h : stV nb nc r) (hi : 10 ≤ i ∧ i < 82) (hx : ∃ m, m ≤ 6 ∧ x = Int32.ofNat m) : stV nb nc (rU r i x) := by
  obtain ⟨day, h1, h2, h3, h4, h5⟩ := h
  refine ⟨day, h1, by rw [rU_ne (by omega)]; exact h2, fun b hb => by rw [rU_ne (by omega)]; exact h3 b hb, fun c hc => by rw [rU_ne (by omega)]; exact h4 c hc, fun j hj => ?_⟩
  by_cases e : 10 + j = i
  · subst e
    rw [rU_eq]; exact hx
  · rw [rU_ne e]; exact h5 j hj
theorem stV_U2 (h : stV nb nc r) (hi : i < 10) (hx : ∃ m, m ≤ 60 ∧ x = Int32.ofNat m ∧ (nb ≤ i → m = 0)) : stV nb nc (rU r i x) := by
  obtain ⟨day, h1, h2, h3, h4, h5⟩ := h
  refine ⟨day, h1, by rw [rU_ne (by omega)]; exact h2, fun b hb => ?_, fun c hc => by rw [rU_ne (by omega)]; exact h4 c hc, fun j hj => by rw [rU_ne (by omega)]; exact h5 j hj⟩
  by_cases e : b = i
  · subst e
    rw [rU_eq]; exact hx
  · rw [rU_ne e]; exact h3 b hb
theorem stV_U3 (h : stV nb nc r) (hi : i = 88 ∨ i = 90) : stV nb nc (rU r i x) := by
  obtain ⟨day, h1, h2, h3, h4, h5⟩ := h
  exact ⟨day, h1, by rw [rU_ne (by omega)]; exact h2, fun b hb => by rw [rU_ne (by omega)]; exact h3 b hb, fun c hc => by rw [rU_ne (by omega)]; exact h4 c hc, fun j hj => by rw [rU_ne (by omega)]; exact h5 j hj⟩
theorem stV_U4 {c : Nat} (h : stV nb nc r) (hc : c < 6) : stV nb nc (rU r (82 + c) (-1)) := by
  obtain ⟨day, h1, h2, h3, h4, h5⟩ := h
  refine ⟨day, h1, by rw [rU_ne (by omega)]; exact h2, fun b hb => by rw [rU_ne (by omega)]; exact h3 b hb, fun d hd => ?_, fun j hj => by rw [rU_ne (by omega)]; exact h5 j hj⟩
  by_cases e : 82 + d = 82 + c
  · rw [e, rU_eq]; exact Or.inl rfl
  · rw [rU_ne e]; exact h4 d hd
end STVU
section DOSTEP
variable {nb nc k v : Nat} {Jc Jm : MJ} {r : Nat → Int32}
theorem does_no {x : Int32} (hk : k < 80) (e0 : Jm (496 + k) 0 = x) (h0 : 0 < x) (h4 : x < 4) (e1 : Jm (496 + k) 1 = Int32.ofNat v) (h6 : v < 6) (hs : f_m_hasSuit305 576 (Int32.ofNat v) Jm = some 0) : f_m_does304 576 (496 + k) Jm = some (0, Jm) := by
  unfold f_m_does304
  rw [show rd Jm (496 + k) (1 : Int32) = some (Jm (496 + k) 1) from rdr_495 (k := 1) hk (by decide), ob_some, show rd Jm (496 + k) (0 : Int32) = some (Jm (496 + k) 0) from rdr_495 (k := 0) hk (by decide), ob_some, e0, e1, if_pos h0, ob_some, if_pos h4, hs, ob_some, if_pos rfl]
theorem do_strip {z2 z3 : Int32} (hk : k < 80) (e0 : Jm (496 + k) 0 = 3) (e1 : Jm (496 + k) 1 = Int32.ofNat v) (h6 : v < 6) (hE : stE (Jc 16) r) (hM : ∀ k, k < 91 → Jm 576 k = r k) (hV : stV nb nc r) : DOES (f_tra_step104 3 (Int32.ofNat v) z2 z3 Jc) (f_m_does304 576 (496 + k) Jm) nb nc Jc Jm := by
  have hs := m_hasSuit (I := Jm) (a := 576) (n := 91) (c := v) rfl (by decide) (by decide) h6
  have hx : f_tra_step104 3 (Int32.ofNat v) z2 z3 Jc = Option.bind (f_tra_stripSuit120 (Int32.ofNat v) Jc) fun w4 => some ((vp_nar .boolean w4.1), w4.2) := by
    unfold f_tra_step104
    rw [if_neg (show ¬ (3 : Int32) = 0 by decide), if_neg (show ¬ (3 : Int32) = 1 by decide), if_neg (show ¬ (3 : Int32) = 2 by decide), if_pos (show (3 : Int32) = 3 from rfl)]
  rw [hM _ (by omega)] at hs
  by_cases h : r (82 + v) = -1
  · rw [if_pos h] at hs
    refine ⟨0, Jc, Jm, r, ?_, does_no hk e0 (by decide) (by decide) e1 h6 hs, Or.inl rfl, fcD_rf, fmD_rf, hE, hM, hV⟩
    rw [hx, x_stripSuit h6, stE_cut hE h6, if_pos h, ob_some]
    exact congrArg some (Prod.ext nar_0 rfl)
  · rw [if_neg h] at hs
    refine ⟨1, ab_up1 Jc 16 (3 + v) (-1), ab_up1 Jm 576 (82 + v) (-1), rU r (82 + v) (-1), ?_, ?_, Or.inr rfl, fcD_up fcD_rf, fmD_up fmD_rf, stE_up hE (by omega) (pi_cut h6), mr_up hM, stV_U4 hV h6⟩
    · rw [hx, x_stripSuit h6, stE_cut hE h6, if_neg h, ob_some]
      exact congrArg some (Prod.ext nar_1 rfl)
    · unfold f_m_does304
      rw [show rd Jm (496 + k) (1 : Int32) = some (Jm (496 + k) 1) from rdr_495 (k := 1) hk (by decide), ob_some, show rd Jm (496 + k) (0 : Int32) = some (Jm (496 + k) 0) from rdr_495 (k := 0) hk (by decide), ob_some, e0, e1, if_pos (show (0 : Int32) < 3 by decide), ob_some, if_pos (show (3 : Int32) < 4 by decide), hs, ob_some, if_neg (show ¬ (1 : Int32) = 0 by decide), ob_some, if_neg (show ¬ (3 : Int32) = 0 by decide), if_neg (show ¬ (3 : Int32) = 1 by decide), if_neg (show ¬ (3 : Int32) = 2 by decide), if_pos (show (3 : Int32) = 3 from rfl), show (82 : Int32) + Int32.ofNat v = Int32.ofNat (82 + v) from i_addl (n := 82), wr_ok (I := Jm) (a := 576) (n := 91) (k := 82 + v) rfl (by omega) (by decide) (by decide), ob_some]
/-- a suit turned, two cells at a time -/
def tnF (r : Nat → Int32) (c : Nat) : Nat → Nat → Int32
  | 0 => r
  | h + 1 => rU (rU (tnF r c h) (10 + 12 * c + h) (tnF r c h (10 + 12 * c + (11 - h)))) (10 + 12 * c + (11 - h)) (tnF r c h (10 + 12 * c + h))
theorem tnF_s {r : Nat → Int32} {c h : Nat} : tnF r c (h + 1) = rU (rU (tnF r c h) (10 + 12 * c + h) (tnF r c h (10 + 12 * c + (11 - h)))) (10 + 12 * c + (11 - h)) (tnF r c h (10 + 12 * c + h)) := rfl
theorem stV_tn (hV : stV nb nc r) (h6 : v < 6) : ∀ h, h ≤ 6 → stV nb nc (tnF r v h)
  | 0, _ => hV
  | h + 1, hh => by
    have ih := stV_tn hV h6 h (by omega)
    have hw : ∀ j, j < 12 → ∃ m, m ≤ 6 ∧ tnF r v h (10 + 12 * v + j) = Int32.ofNat m := fun j hj => by
      obtain ⟨-, -, -, -, -, h5⟩ := ih
      have := h5 (12 * v + j) (by omega)
      rw [← Nat.add_assoc] at this
      exact this
    rw [tnF_s]
    exact stV_U1 (stV_U1 ih (by omega) (hw _ (by omega))) (by omega) (hw _ (by omega))
theorem x_turn (h6 : v < 6) (hE : stE (Jc 16) r) : ∃ K, f_sta_turn119 (Int32.ofNat v) Jc = some K ∧ fcD Jc K ∧ stE (K 16) (tnF r v 6) := by
  have xw : ∀ (J : MJ) j, j < 12 → f_sta_wornAt116 15 (Int32.ofNat v) (Int32.ofNat j) J = some (J 16 (19 + 12 * v + j)) := fun J j hj => x_worn (t := 15) rfl (by decide) h6 hj
  have xa : ∀ (J : MJ) j x, j < 12 → f_sta_alter117 15 (Int32.ofNat v) (Int32.ofNat j) x J = some (ab_up1 J 16 (19 + 12 * v + j) x) := fun J j x hj => x_alter (t := 15) rfl (by decide) h6 hj
  unfold f_sta_turn119
  refine bindx (wh_inv (fun h s => ∃ J : MJ, s = (Int32.ofNat h, J) ∧ fcD Jc J ∧ stE (J 16) (tnF r v h)) _ 6 ?_ ?_ ⟨Jc, rfl, fcD_rf, hE⟩)
  · intro h hh s hs
    obtain ⟨J, rfl, j1, j2⟩ := hs
    try dsimp only
    have e : ∀ j, j < 12 → J 16 (19 + 12 * v + j) = tnF r v h (10 + 12 * v + j) := fun j hj => by
      rw [Nat.add_assoc, stE_suit j2 (by omega), ← Nat.add_assoc]
    rw [if_pos (show Int32.ofNat h < (6 : Int32) from lt_l (a := h) (b := 6) hh (by omega)), xw _ _ (by omega), ob_some, show (11 : Int32) - Int32.ofNat h = Int32.ofNat (11 - h) from i_subl (n := 11) (by show h ≤ 11; omega), xw _ _ (by omega), ob_some, xa _ _ _ (by omega), ob_some, xa _ _ _ (by omega), ob_some, e _ (by omega), e _ (by omega)]
    refine ⟨_, rfl, _, Prod.ext i_addr rfl, fcD_up (fcD_up j1), ?_⟩
    rw [tnF_s]
    exact stE_up (j := 19 + 12 * v + (11 - h)) (stE_up (j := 19 + 12 * v + h) j2 (by omega) pi_worn) (by omega) pi_worn
  · intro s hs
    obtain ⟨J, rfl, j1, j2⟩ := hs
    try dsimp only
    rw [if_neg (by decide)]
    exact ⟨_, rfl, _, rfl, j1, j2⟩
theorem m_turn (hk : k < 80) (e0 : Jm (496 + k) 0 = 2) (e1 : Jm (496 + k) 1 = Int32.ofNat v) (h6 : v < 6) (hs : f_m_hasSuit305 576 (Int32.ofNat v) Jm = some 1) (hM : ∀ k, k < 91 → Jm 576 k = r k) : ∃ c : Int32 × MJ, f_m_does304 576 (496 + k) Jm = some c ∧ c.1 = 1 ∧ fmD Jm c.2 ∧ ∀ k, k < 91 → c.2 576 k = tnF r v 6 k := by
  have rr : ∀ (J : MJ) j, j < 91 → rd J 576 (Int32.ofNat j) = some (J 576 j) := fun J j hj => rd_ok (n := 91) rfl hj (by decide) (by decide)
  have ww : ∀ (J : MJ) j x, j < 91 → wr J 576 (Int32.ofNat j) x = some (ab_up1 J 576 j x) := fun J j x hj => wr_ok (n := 91) rfl hj (by decide) (by decide)
  have mi : ∀ h, h < 6 → ((Int32.ofNat (10 + 12 * v) + (12 : Int32)) - (1 : Int32)) - Int32.ofNat h = Int32.ofNat (10 + 12 * v + (11 - h)) := fun h hh => by
    rw [i_addr, show Int32.ofNat (10 + 12 * v + 12) - (1 : Int32) = Int32.ofNat (10 + 12 * v + 11) from i_subr (n := 1) (by show 1 ≤ _; omega), i_sub (by omega), show 10 + 12 * v + 11 - h = 10 + 12 * v + (11 - h) by omega]
  unfold f_m_does304
  rw [show rd Jm (496 + k) (1 : Int32) = some (Jm (496 + k) 1) from rdr_495 (k := 1) hk (by decide), ob_some, show rd Jm (496 + k) (0 : Int32) = some (Jm (496 + k) 0) from rdr_495 (k := 0) hk (by decide), ob_some, e0, e1, if_pos (show (0 : Int32) < 2 by decide), ob_some, if_pos (show (2 : Int32) < 4 by decide), hs, ob_some, if_neg (show ¬ (1 : Int32) = 0 by decide), ob_some, if_neg (show ¬ (2 : Int32) = 0 by decide), if_neg (show ¬ (2 : Int32) = 1 by decide), if_pos (show (2 : Int32) = 2 from rfl)]
  refine bindx (wh_inv (fun h s => ∃ J : MJ, s = (Int32.ofNat h, J) ∧ fmD Jm J ∧ ∀ k, k < 91 → J 576 k = tnF r v h k) _ 6 ?_ ?_ ⟨Jm, rfl, fmD_rf, hM⟩)
  · intro h hh s hs
    obtain ⟨J, rfl, j1, j2⟩ := hs
    try dsimp only
    rw [if_pos (show Int32.ofNat h < (6 : Int32) from lt_l (a := h) (b := 6) hh (by omega)), m_suitOf, ob_some, i_add, rr _ _ (by omega), ob_some, ob_some, ob_some, mi h hh, rr _ _ (by omega), ob_some, i_add, ww _ _ _ (by omega), ob_some, m_suitOf, ob_some, mi h hh, ww _ _ _ (by omega), ob_some, j2 _ (by omega), j2 _ (by omega)]
    refine ⟨_, rfl, _, Prod.ext i_addr rfl, fmD_up (fmD_up j1), ?_⟩
    rw [tnF_s]
    exact mr_up (mr_up j2)
  · intro s hs
    obtain ⟨J, rfl, j1, j2⟩ := hs
    try dsimp only
    rw [if_neg (by decide)]
    exact ⟨_, rfl, _, rfl, rfl, j1, j2⟩
theorem do_turn {z2 z3 : Int32} (hk : k < 80) (e0 : Jm (496 + k) 0 = 2) (e1 : Jm (496 + k) 1 = Int32.ofNat v) (h6 : v < 6) (hE : stE (Jc 16) r) (hM : ∀ k, k < 91 → Jm 576 k = r k) (hV : stV nb nc r) : DOES (f_tra_step104 2 (Int32.ofNat v) z2 z3 Jc) (f_m_does304 576 (496 + k) Jm) nb nc Jc Jm := by
  have hs := m_hasSuit (I := Jm) (a := 576) (n := 91) (c := v) rfl (by decide) (by decide) h6
  have hx : f_tra_step104 2 (Int32.ofNat v) z2 z3 Jc = Option.bind (f_tra_turnSuit118 (Int32.ofNat v) Jc) fun w4 => some ((vp_nar .boolean w4.1), w4.2) := by
    unfold f_tra_step104
    rw [if_neg (show ¬ (2 : Int32) = 0 by decide), if_neg (show ¬ (2 : Int32) = 1 by decide), if_pos (show (2 : Int32) = 2 from rfl)]
  rw [hM _ (by omega)] at hs
  by_cases h : r (82 + v) = -1
  · rw [if_pos h] at hs
    refine ⟨0, Jc, Jm, r, ?_, does_no hk e0 (by decide) (by decide) e1 h6 hs, Or.inl rfl, fcD_rf, fmD_rf, hE, hM, hV⟩
    unfold f_tra_turnSuit118 at hx
    rw [hx, x_hasSuit (t := 15) rfl (by decide) h6, stE_cut hE h6, if_pos h, ob_some, if_pos rfl, ob_some]
    exact congrArg some (Prod.ext nar_0 rfl)
  · rw [if_neg h] at hs
    obtain ⟨K, k1, k2, k3⟩ := x_turn h6 hE
    obtain ⟨⟨w, M⟩, m1, m2, m3, m4⟩ := m_turn hk e0 e1 h6 hs hM
    dsimp only at m2 m3 m4
    subst m2
    refine ⟨1, K, M, tnF r v 6, ?_, m1, Or.inr rfl, k2, m3, k3, m4, stV_tn hV h6 6 (Nat.le_refl 6)⟩
    unfold f_tra_turnSuit118 at hx
    rw [hx, x_hasSuit (t := 15) rfl (by decide) h6, stE_cut hE h6, if_neg h, ob_some, if_neg (by decide), k1, ob_some, ob_some]
    exact congrArg some (Prod.ext nar_1 rfl)
end DOSTEP
