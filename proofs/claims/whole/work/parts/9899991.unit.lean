/-! law: a unit -/
theorem wIx_get : ∀ (ls : List (List Nat)) (w : List Nat) (k : Nat), wIx ls w = some k → ls.getD k [] = w
  | [], w, k, h => by cases h
  | l :: ls, w, k, h => by
    by_cases e : l = w
    · rw [wIx_yes e] at h
      cases h
      exact e
    · rw [wIx_no e] at h
      cases hz : wIx ls w with
      | none => rw [hz] at h; cases h
      | some j =>
        rw [hz] at h
        cases h
        exact wIx_get ls w j hz
theorem wIx_mem : ∀ (ls : List (List Nat)) (w l : List Nat), l ∈ ls → wIx ls w = none → l ≠ w
  | [], w, l, h, _ => by cases h
  | a :: ls, w, l, h, h2 => by
    by_cases e : a = w
    · rw [wIx_yes e] at h2; cases h2
    · rw [wIx_no e] at h2
      cases hz : wIx ls w with
      | some j => rw [hz] at h2; cases h2
      | none =>
        rcases List.mem_cons.mp h with h | h
        · rw [h]; exact e
        · exact wIx_mem ls w l h hz
theorem wIx_non : ∀ (ls : List (List Nat)) (w : List Nat), (∀ l, l ∈ ls → l ≠ w) → wIx ls w = none
  | [], w, _ => rfl
  | a :: ls, w, h => by
    rw [wIx_no (h a (List.mem_cons_self ..)), wIx_non ls w (fun l hl => h l (List.mem_cons_of_mem _ hl))]
    rfl
theorem lvw_facts : ∀ k : Nat, k < 8 → (k < 6 → wIx wLH (wLV.getD k []) = some k ∧ ¬ w_least = wLV.getD k [] ∧ ¬ w_most = wLV.getD k []) ∧ (k = 6 → w_least = wLV.getD k []) ∧ (k = 7 → w_most = wLV.getD k [] ∧ ¬ w_least = wLV.getD k []) := by decide +kernel
theorem lvw_sub : ∀ l, l ∈ wLH → l ∈ wLV := by decide +kernel
theorem lvw_two : w_least ∈ wLV ∧ w_most ∈ wLV := by decide +kernel
theorem nmw_facts : ∀ k : Nat, k < 6 → ¬ (-1 : Int32) - Int32.ofNat k = -7 ∧ ¬ (-1 : Int32) - Int32.ofNat k = -8 := by decide +kernel
section UNIT
variable {B : Nat → Nat} {n : Nat}
theorem no_word {q : Nat} (h : ¬ (q < n ∧ ltP B q = true)) : wdW B n q = [] := by
  have e : wdE B n q = q := scn_no h
  unfold wdW
  rw [e, Nat.sub_self]
  rfl
theorem tt_inside {d c h : Nat} {rc : Int32 → MJ → Option MJ} {rm : MJ → Option MJ} {st : Option Nat} {Jc Jm : MJ} (hd : d < 6) (HC : HCl B n rc rm d) (t : TT B n st Jc Jm) (H : ∀ q, st = some q → Jm 47 8 = Int32.ofNat (d + 1) ∧ LL c h Jc Jm ∧ c ≤ q ∧ h ≤ 3 * (d + 1)) : ∃ st' Kc Km, F_mot_readInside88 rc (Int32.ofNat d) Jc = some Kc ∧ rm Jm = some Km ∧ TT B n st' Kc Km ∧ fcL Jc Kc ∧ fmL Jm Km ∧ ∀ q', st' = some q' → ∃ q, st = some q ∧ q < q' ∧ Km 47 8 = Int32.ofNat (d + 1) ∧ ∃ c', LL c' (h + 1) Kc Km ∧ c' + q ≤ q' + c := by
  cases st with
  | some q =>
    obtain ⟨h1, h2, h3, h4⟩ := H q rfl
    obtain ⟨st', Kc, Km, a1, a2, a3, a4, a5, a6⟩ := HC.2 q c h Jc Jm t h1 h2 h3 h4
    exact ⟨st', Kc, Km, (inside_ok hd (TT_some t).1).trans a1, a2, a3, a4, a5, fun q' e => ⟨q, rfl, a6 q' e⟩⟩
  | none =>
    obtain ⟨b1, b2⟩ := TT_none t
    exact ⟨none, Jc, Jm, inside_f b1, HC.1 Jm b2, t, fcL_rf, fmL_rf, fun q' e => by cases e⟩
/-- least and most, behind their word -/
theorem named_it {d c h q q1 : Nat} {p3 how : Int32} {rc : Int32 → MJ → Option MJ} {rm : MJ → Option MJ} {Jc Jm : MJ} (hd : d < 6) (hn : n ≤ 150) (HC : HCl B n rc rm d) (t : TT B n (some q1) Jc Jm) (h8 : Jm 47 8 = Int32.ofNat (d + 1)) (H : LL c h Jc Jm) (hcq : c ≤ q) (hq : q < q1) (hh : h ≤ 3 * d + 2) (hr : codeR p3 how 0) (hw : ¬ (how = 0 ∨ how = 1)) : ∃ st Kc Km, (Option.bind (Option.bind (f_tap_sign58 (91 : Int32) Jc) fun I4 => Option.bind (F_mot_readInside88 rc (Int32.ofNat d) I4) fun I5 => Option.bind (f_tap_sign58 (44 : Int32) I5) fun I6 => Option.bind (F_mot_readInside88 rc (Int32.ofNat d) I6) fun I7 => f_tap_sign58 (93 : Int32) I7) fun b1 => f_mot_write86 p3 b1) = some Kc ∧ (Option.bind (f_m_sign285 (91 : Int32) Jm) fun I15 => Option.bind (rm I15) fun I16 => Option.bind (f_m_sign285 (44 : Int32) I16) fun I17 => Option.bind (rm I17) fun I18 => Option.bind (f_m_sign285 (93 : Int32) I18) fun I19 => Option.bind (f_m_notes296 how (0 : Int32) I19) fun I20 => some (ab_up1 I20 47 8 ((I20 47 8) - (1 : Int32)))) = some Km ∧ TT B n st Kc Km ∧ fcL Jc Kc ∧ fmL Jm Km ∧ ∀ q', st = some q' → q < q' ∧ Km 47 8 = Int32.ofNat d ∧ ∃ c', LL c' (h + 1) Kc Km ∧ c' + q ≤ q' + c := by
  have hq1 := (TT_some t).2.2
  obtain ⟨s1, J1, K1, a1, a2, a3, a4, a5, a6⟩ := tt_sign (c := 91) (by decide) t
  obtain ⟨s2, J2, K2, b1, b2, b3, b4, b5, b6⟩ := tt_inside (c := c) (h := h) hd HC a3 (fun z e => by
    obtain ⟨z0, g1, g2⟩ := a6 z e
    have := Option.some.inj g1
    exact ⟨by rw [a5 _ _ (by omega)]; exact h8, LL_1 (by omega) H a4 a5, by omega, by omega⟩)
  obtain ⟨s3, J3, K3, c1, c2, c3, c4, c5, c6⟩ := tt_sign (c := 44) (by decide) b3
  by_cases hs : ∃ z2, s2 = some z2
  · obtain ⟨z2, e2⟩ := hs
    obtain ⟨z1, e1, f1, f2, c', f3, f4⟩ := b6 z2 e2
    obtain ⟨z0, g1, g2⟩ := a6 z1 e1
    have g1' := Option.some.inj g1
    have hz2 : z2 ≤ n := by rw [e2] at b3; exact (TT_some b3).2.2
    obtain ⟨s4, J4, K4, d1, d2, d3, d4, d5, d6⟩ := tt_inside (c := c') (h := h + 1) hd HC c3 (fun z e => by
      obtain ⟨z2', w1, w2⟩ := c6 z e
      rw [e2] at w1
      have := Option.some.inj w1
      exact ⟨by rw [c5 _ _ (by omega)]; exact f2, LL_1 (by omega) f3 c4 c5, by omega, by omega⟩)
    obtain ⟨s5, J5, K5, m1, m2, m3, m4, m5, m6⟩ := tt_sign (c := 93) (by decide) d3
    have fc5 : fcL Jc J5 := fcL_1 (fcL_2 (fcL_1 (fcL_2 (fcL_1 fcL_rf a4) b4) c4) d4) m4
    have fm5 : fmL Jm K5 := fmL_1 (fmL_2 (fmL_1 (fmL_2 (fmL_1 fmL_rf a5) b5) c5) d5) m5
    have hC : ∀ R, f_mot_write86 p3 J5 = R → (Option.bind (Option.bind (f_tap_sign58 (91 : Int32) Jc) fun I4 => Option.bind (F_mot_readInside88 rc (Int32.ofNat d) I4) fun I5 => Option.bind (f_tap_sign58 (44 : Int32) I5) fun I6 => Option.bind (F_mot_readInside88 rc (Int32.ofNat d) I6) fun I7 => f_tap_sign58 (93 : Int32) I7) fun b1 => f_mot_write86 p3 b1) = R := fun R r => by
      rw [show f_tap_sign58 91 Jc = some J1 from a1, ob_some, b1, ob_some, show f_tap_sign58 44 J2 = some J3 from c1, ob_some, d1, ob_some, show f_tap_sign58 93 J4 = some J5 from m1, ob_some]
      exact r
    have hM : ∀ R, (Option.bind (f_m_notes296 how (0 : Int32) K5) fun I20 => some (ab_up1 I20 47 8 ((I20 47 8) - (1 : Int32)))) = R → (Option.bind (f_m_sign285 (91 : Int32) Jm) fun I15 => Option.bind (rm I15) fun I16 => Option.bind (f_m_sign285 (44 : Int32) I16) fun I17 => Option.bind (rm I17) fun I18 => Option.bind (f_m_sign285 (93 : Int32) I18) fun I19 => Option.bind (f_m_notes296 how (0 : Int32) I19) fun I20 => some (ab_up1 I20 47 8 ((I20 47 8) - (1 : Int32)))) = R := fun R r => by
      rw [show f_m_sign285 91 Jm = some K1 from a2, ob_some, b2, ob_some, show f_m_sign285 44 K2 = some K3 from c2, ob_some, d2, ob_some, show f_m_sign285 93 K4 = some K5 from m2, ob_some]
      exact r
    cases s5 with
    | none =>
      obtain ⟨k, w, u1, u2⟩ := m3
      obtain ⟨J6, v1, v2⟩ := x_write_any (x := p3) (J := J5)
      have u2' := mX_dec u2
      refine ⟨none, J6, _, hC _ v1, hM _ (by rw [m_notes_f (mX_ne u2), ob_some]), ⟨k, w, ⟨u1.1, by rw [v2 _ _ (by omega) (by omega)]; exact u1.2.1, by rw [v2 _ _ (by omega) (by omega)]; exact u1.2.2⟩, u2'⟩, fun a j g1 g2 g3 => by rw [v2 a j g2 g3, fc5 a j g1 g2 g3], fun a j g1 g2 => by rw [up_ne (by omega), fm5 a j g1 g2], fun q' e => by cases e⟩
    | some z5 =>
      obtain ⟨z4, w1, w2⟩ := m6 z5 rfl
      obtain ⟨z3, x1, x2, x3, c'', x4, x5⟩ := d6 z4 w1
      obtain ⟨z2', y1, y2⟩ := c6 z3 x1
      rw [e2] at y1
      have y1' := Option.some.inj y1
      have hz5 := (TT_some m3).2.2
      have hx := LL_1 (by omega) x4 m4 m5
      have hL := LL_put (x := p3) (how := how) (v := 0) (h' := h + 1) hx (by omega) hr (by rw [if_neg hw]; omega) (by omega)
      refine ⟨some z5, wtC c'' p3 J5, _, hC _ (x_write hx.1 (by omega)), hM _ (by rw [m_notes (TT_some m3).2.1 hx.2.1 (by omega), ob_some]), TT_dec (wtT m3 (by omega)), fcL_2 fc5 wtC_f, fun a j g1 g2 => by rw [up_ne (by omega), wtM_f (by omega) a j g1 g2, fm5 a j g1 g2], fun q' e => ?_⟩
      have := Option.some.inj e
      refine ⟨by omega, ?_, c'' + 1, LL_c (by omega) hL rfl (fun _ => rfl) (up_ne (by omega)) (fun a k g1 g2 => up_ne (by omega)), by omega⟩
      rw [up_eq, show wtM c'' how 0 K5 47 8 = Int32.ofNat (d + 1) from by unfold wtM; rw [up_ne (by omega), up_ne (by omega), up_ne (by omega), m5 _ _ (by omega)]; exact x3]
      exact (i_sub (b := 1) (by omega)).trans (congrArg Int32.ofNat (by omega))
  · have e2 : s2 = none := by
      cases s2 with
      | none => rfl
      | some z => exact absurd ⟨z, rfl⟩ hs
    have e3 : s3 = none := by
      cases s3 with
      | none => rfl
      | some z =>
        obtain ⟨z0, g1, -⟩ := c6 z rfl
        rw [e2] at g1; cases g1
    subst e3
    obtain ⟨u1, u2⟩ := TT_none c3
    obtain ⟨k, w, y1, y2⟩ := c3
    have y2' := mX_dec y2
    obtain ⟨J6, v1, v2⟩ := x_write_any (x := p3) (J := J3)
    refine ⟨none, J6, _, ?_, ?_, ⟨k, w, ⟨y1.1, by rw [v2 _ _ (by omega) (by omega)]; exact y1.2.1, by rw [v2 _ _ (by omega) (by omega)]; exact y1.2.2⟩, y2'⟩, fun a j g1 g2 g3 => by rw [v2 a j g2 g3, c4 a j (by omega), b4 a j g1 g2 g3, a4 a j g1], fun a j g1 g2 => by rw [up_ne (by omega), c5 a j (by omega), b5 a j g1 g2, a5 a j (by omega)], fun q' e => by cases e⟩
    · rw [show f_tap_sign58 91 Jc = some J1 from a1, ob_some, b1, ob_some, show f_tap_sign58 44 J2 = some J3 from c1, ob_some, inside_f u1, ob_some, x_sign_f u1, ob_some, v1]
    · rw [show f_m_sign285 91 Jm = some K1 from a2, ob_some, b2, ob_some, show f_m_sign285 44 K2 = some K3 from c2, ob_some, HC.1 _ u2, ob_some, m_sign_f u2, ob_some, m_notes_f u2, ob_some]
end UNIT
