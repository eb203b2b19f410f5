/-! work: the steps done, side by side -/
def gK (nb nc no tb ln c : Nat) (bk : Nat → Nat) (od pk : Nat → Nat → Nat) (cd hw vv : Nat → Int32) (Jc Jm : MJ) : Prop := cxC nb nc no tb ln bk od pk cd Jc ∧ cxM nb nc no tb ln bk od pk hw vv Jm ∧ ∀ k, k < c → rowR nc no k c Jc Jm
def gS (nb nc : Nat) (Jc Jm : MJ) : Prop := ∃ r, stE (Jc 16) r ∧ (∀ k, k < 91 → Jm 576 k = r k) ∧ stV nb nc r
def gN (Jc Jm : MJ) : Prop := (∃ g, g ≤ 200 ∧ Jc 29 2 = Int32.ofNat g ∧ Jm 47 46 = Int32.ofNat g) ∧ Jc 29 3 = Jm 47 47 ∧ Jc 29 4 = Jm 47 41
def GO (nb nc : Nat) (Jc Jm : MJ) (Xc Xm : Option MJ) : Prop := ∃ Kc Km, Xc = some Kc ∧ Xm = some Km ∧ fcG Jc Kc ∧ fmG Jm Km ∧ gS nb nc Kc Km ∧ gN Kc Km
section GOES2
variable {nb nc no tb ln c : Nat} {bk : Nat → Nat} {od pk : Nat → Nat → Nat} {ht : Nat → Nat} {cd hw vv : Nat → Int32} {Jc Jm Kc Km : MJ}
theorem gK_c (hc : c ≤ 64) (hB : cxB nb nc no tb ln od pk ht cd hw vv) (h : gK nb nc no tb ln c bk od pk cd hw vv Jc Jm) (f1 : fcG Jc Kc) (f2 : fmG Jm Km) : gK nb nc no tb ln c bk od pk cd hw vv Kc Km := ⟨cxC_c h.1 fun a k z => f1 a k (by omega) (by omega) (by omega) (by omega) (by omega), cxM_c hB h.2.1 fun a k z => f2 a k (by omega) (by omega) (by omega) (by omega) (by omega) (by omega), fun k hk => rowR_c (h.2.2 k hk) (fun j _ _ => f1 _ _ (by decide) (by decide) (by decide) (by decide) (by omega)) (fun j => f2 _ _ (by omega) (by omega) (by omega) (by omega) (by omega) (by omega))⟩
theorem GO_tr {Xc Xm : Option MJ} (f1 : fcG Jc Kc) (f2 : fmG Jm Km) (h : GO nb nc Kc Km Xc Xm) : GO nb nc Jc Jm Xc Xm := by
  obtain ⟨Lc, Lm, h1, h2, h3, h4, h5⟩ := h
  exact ⟨Lc, Lm, h1, h2, fcG_tr f1 h3, fmG_tr f2 h4, h5⟩
/-- one step but an again, its count too -/
theorem go_simple {rc : Int32 → Int32 → Int32 → MJ → Option MJ} {rm : Int32 → Int32 → MJ → Option MJ} {p3 p4 : Int32} {a g : Nat} (hc : c ≤ 64) (hB : cxB nb nc no tb ln od pk ht cd hw vv) (hK : gK nb nc no tb ln c bk od pk cd hw vv Jc Jm) (hS : gS nb nc Jc Jm) (hg : g < 200) (g1 : Jc 29 2 = Int32.ofNat g) (g2 : Jm 47 46 = Int32.ofNat g) (g3 : Jc 29 3 = Jm 47 47) (g4 : Jc 29 4 = Jm 47 41) (ha : a < c) (hlt : Int32.ofNat a < p3) (h6 : Jm (496 + a) 0 ≠ 6) (h4 : Jm (496 + a) 4 = Int32.ofNat (a + 1)) : ∃ Kc Km, dsC rc p3 p4 (Int32.ofNat a, Jc) = some (.inl (Int32.ofNat (a + 1), Kc)) ∧ gsM rm p3 (Int32.ofNat a, Jm) = some (.inl (Int32.ofNat (a + 1), Km)) ∧ fcG Jc Kc ∧ fmG Jm Km ∧ gS nb nc Kc Km ∧ gN Kc Km := by
  obtain ⟨r, hE, hM, hV⟩ := hS
  have ha64 : a < 64 := by omega
  have f1 : fcG Jc (ab_up1 Jc 29 2 (Jc 29 2 + 1)) := fcG_up (Or.inl rfl)
  have f2 : fmG Jm (ab_up1 Jm 47 46 (Jm 47 46 + 1)) := fmG_up (Or.inr (Or.inl rfl))
  have hK1 := gK_c hc hB hK f1 f2
  have hc6 : ¬ Jc 30 (4 * a) = 6 := fun z => by
    obtain ⟨kd, q1, q2, q3, -⟩ := hK.2.2 a ha
    exact h6 (q3.trans (q2.symm.trans z))
  obtain ⟨v, Xc, Xm, r', d1, d2, d3, d4, d5, d6, d7, d8⟩ := does_it (nb := nb) (tb := tb) (ln := ln) (bk := bk) (r := r) hc ha (hK1.2.2 a ha) (by rw [up_ne (by omega)]; exact h6) hB hK1.1 hK1.2.1 (by rw [up_row (by decide)]; exact hE) (fun k hk => by rw [up_ne (by omega)]; exact hM k hk) hV
  have fX := fcG_tr f1 (fcG_D d4)
  have fY := fmG_tr f2 (fmG_D d5)
  have n2 : Xc 29 2 = Int32.ofNat (g + 1) := by rw [d4 29 2 (by decide) (by decide) (by decide) (by decide), up_eq, g1]; exact i_addr
  have n3 : Xc 29 3 = Jc 29 3 := by rw [d4 29 3 (by decide) (by decide) (by decide) (by decide), up_ne (by omega)]
  have n4 : Xc 29 4 = Jc 29 4 := by rw [d4 29 4 (by decide) (by decide) (by decide) (by decide), up_ne (by omega)]
  have m2 : Xm 47 46 = Int32.ofNat (g + 1) := by rw [d5 47 46 (by decide) (by decide) (by decide) (by decide) (by decide), up_eq, g2]; exact i_addr
  have m3 : Xm 47 47 = Jm 47 47 := by rw [d5 47 47 (by decide) (by decide) (by decide) (by decide) (by decide), up_ne (by omega)]
  have m4 : Xm 47 41 = Jm 47 41 := by rw [d5 47 41 (by decide) (by decide) (by decide) (by decide) (by decide), up_ne (by omega)]
  have e4 : Xm (496 + a) 4 = Int32.ofNat (a + 1) := by rw [fY _ _ (by omega) (by omega) (by omega) (by omega) (by omega) (by omega)]; exact h4
  have l1 : Jc 29 2 < 200 := by rw [g1]; exact lt_l (b := 200) hg (by omega)
  have l2 : Jm 47 46 < 200 := by rw [g2]; exact lt_l (b := 200) hg (by omega)
  rcases d3 with rfl | rfl
  · refine ⟨_, _, dsC_0 ha64 hlt l1 hc6 d1, gsM_0 ha64 hlt l2 h6 d2 e4, fcG_tr fX (fcG_up (by omega)), fmG_tr (fmG_tr fY (fmG_up (by omega))) (fmG_up (by omega)), ⟨r', by rw [up_row (by decide)]; exact d6, fun k hk => by rw [up_ne (by omega), up_ne (by omega)]; exact d7 k hk, d8⟩, ⟨g + 1, by omega, by rw [up_ne (by omega)]; exact n2, by rw [up_ne (by omega), up_ne (by omega)]; exact m2⟩, ?_, ?_⟩
    · rw [up_ne (by omega), up_ne (by omega), up_eq, n3, m3, g3, Int32.add_zero]
    · rw [up_eq, up_eq, n4, m4, g4]
  · refine ⟨_, _, dsC_1 ha64 hlt l1 hc6 d1, gsM_1 ha64 hlt l2 h6 d2 e4, fcG_tr fX (fcG_up (by omega)), fmG_tr (fmG_tr fY (fmG_up (by omega))) (fmG_up (by omega)), ⟨r', by rw [up_row (by decide)]; exact d6, fun k hk => by rw [up_ne (by omega), up_ne (by omega)]; exact d7 k hk, d8⟩, ⟨g + 1, by omega, by rw [up_ne (by omega)]; exact n2, by rw [up_ne (by omega), up_ne (by omega)]; exact m2⟩, ?_, ?_⟩
    · rw [up_eq, up_ne (by omega), up_eq, n3, m3, g3]
    · rw [up_ne (by omega), up_eq, n4, m4, g4, Int32.add_zero]
/-- the turns of an again -/
theorem go_turns {rc : Int32 → Int32 → Int32 → MJ → Option MJ} {rm : Int32 → Int32 → MJ → Option MJ} {a e d v : Nat} (hc : c ≤ 64) (ha : a < 64) (he : e ≤ 64) (hd : d < 6) (hv : v ≤ 20) (HC : ∀ Jc' Jm', fcG Jc Jc' → fmG Jm Jm' → gS nb nc Jc' Jm' → gN Jc' Jm' → GO nb nc Jc' Jm' (rc (Int32.ofNat (a + 1)) (Int32.ofNat e) (Int32.ofNat (d + 1)) Jc') (rm (Int32.ofNat (a + 1)) (Int32.ofNat e) Jm')) (c1 : Jc 30 (4 * a + 1) = Int32.ofNat v) (m1 : Jm (496 + a) 1 = Int32.ofNat v) (c2 : Jc 30 (4 * a + 2) = Int32.ofNat e) (m4 : Jm (496 + a) 4 = Int32.ofNat e) : ∀ (t i : Nat) (Lc Lm : MJ), i + t = v → fcG Jc Lc → fmG Jm Lm → gS nb nc Lc Lm → gN Lc Lm → GO nb nc Lc Lm (wh (daC rc (Int32.ofNat a) (Int32.ofNat d)) (Int32.ofNat i, Lc)) (wh (gaM rm (Int32.ofNat a)) (Int32.ofNat i, Lm))
  | 0, i, Lc, Lm, hi, f1, f2, hS, hN => by
    have hiv : ¬ i < v := by omega
    refine ⟨Lc, Lm, wh_inr ?_, wh_inr ?_, fcG_rf, fmG_rf, hS, hN⟩
    · unfold daC
      dsimp only
      rw [show f_pla_part102 (Int32.ofNat a) (1 : Int32) Lc = some (Lc 30 (4 * a + 1)) from x_part (j := 1) ha (by decide), ob_some, f1 _ _ (by decide) (by decide) (by decide) (by decide) (by omega), c1, if_neg (nlt_l hiv (by omega) (by omega))]
    · unfold gaM
      dsimp only
      rw [rdp_495 (by omega), ob_some, show rd Lm (496 + a) (1 : Int32) = some (Lm (496 + a) 1) from rdr_495 (k := 1) (by omega) (by decide), ob_some, f2 _ _ (by omega) (by omega) (by omega) (by omega) (by omega) (by omega), m1, if_neg (nlt_l hiv (by omega) (by omega))]
  | t + 1, i, Lc, Lm, hi, f1, f2, hS, hN => by
    have hiv : i < v := by omega
    obtain ⟨⟨g, hg, g1, g2⟩, g3, g4⟩ := id hN
    by_cases h200 : g < 200
    · obtain ⟨Kc, Km, k1, k2, k3, k4, k5, k6⟩ := HC Lc Lm f1 f2 hS hN
      refine GO_tr k3 k4 ?_
      have e1 : daC rc (Int32.ofNat a) (Int32.ofNat d) (Int32.ofNat i, Lc) = some (.inl (Int32.ofNat (i + 1), Kc)) := by
        unfold daC
        dsimp only
        rw [show f_pla_part102 (Int32.ofNat a) (1 : Int32) Lc = some (Lc 30 (4 * a + 1)) from x_part (j := 1) ha (by decide), ob_some, f1 _ _ (by decide) (by decide) (by decide) (by decide) (by omega), c1, if_pos (lt_l hiv (by omega)), if_pos (show Lc 29 2 < (200 : Int32) by rw [g1]; exact lt_l (b := 200) h200 (by omega)), if_pos (show Int32.ofNat d < (6 : Int32) from lt_l (b := 6) hd (by omega)), show f_pla_part102 (Int32.ofNat a) (2 : Int32) Lc = some (Lc 30 (4 * a + 2)) from x_part (j := 2) ha (by decide), ob_some, f1 _ _ (by decide) (by decide) (by decide) (by decide) (by omega), c2, show Int32.ofNat a + (1 : Int32) = Int32.ofNat (a + 1) from i_addr, show Int32.ofNat d + (1 : Int32) = Int32.ofNat (d + 1) from i_addr, k1, ob_some, show Int32.ofNat i + (1 : Int32) = Int32.ofNat (i + 1) from i_addr]
      have e2 : gaM rm (Int32.ofNat a) (Int32.ofNat i, Lm) = some (.inl (Int32.ofNat (i + 1), Km)) := by
        unfold gaM
        dsimp only
        rw [rdp_495 (by omega), ob_some, show rd Lm (496 + a) (1 : Int32) = some (Lm (496 + a) 1) from rdr_495 (k := 1) (by omega) (by decide), ob_some, f2 _ _ (by omega) (by omega) (by omega) (by omega) (by omega) (by omega), m1, if_pos (lt_l hiv (by omega)), if_pos (show Lm 47 46 < (200 : Int32) by rw [g2]; exact lt_l (b := 200) h200 (by omega)), ob_some, show rd Lm (496 + a) (4 : Int32) = some (Lm (496 + a) 4) from rdr_495 (k := 4) (by omega) (by decide), ob_some, f2 _ _ (by omega) (by omega) (by omega) (by omega) (by omega) (by omega), m4, show Int32.ofNat a + (1 : Int32) = Int32.ofNat (a + 1) from i_addr, k2, ob_some, show Int32.ofNat i + (1 : Int32) = Int32.ofNat (i + 1) from i_addr]
      rw [wh_inl e1, wh_inl e2]
      exact go_turns hc ha he hd hv HC c1 m1 c2 m4 t (i + 1) Kc Km (by omega) (fcG_tr f1 k3) (fmG_tr f2 k4) k5 k6
    · refine ⟨Lc, Lm, wh_inr ?_, wh_inr ?_, fcG_rf, fmG_rf, hS, hN⟩
      · unfold daC
        dsimp only
        rw [show f_pla_part102 (Int32.ofNat a) (1 : Int32) Lc = some (Lc 30 (4 * a + 1)) from x_part (j := 1) ha (by decide), ob_some, f1 _ _ (by decide) (by decide) (by decide) (by decide) (by omega), c1, if_pos (lt_l hiv (by omega)), if_neg (show ¬ Lc 29 2 < (200 : Int32) by rw [g1]; exact nlt_l (b := 200) h200 (by omega) (by omega))]
      · unfold gaM
        dsimp only
        rw [rdp_495 (by omega), ob_some, show rd Lm (496 + a) (1 : Int32) = some (Lm (496 + a) 1) from rdr_495 (k := 1) (by omega) (by decide), ob_some, f2 _ _ (by omega) (by omega) (by omega) (by omega) (by omega) (by omega), m1, if_pos (lt_l hiv (by omega)), if_neg (show ¬ Lm 47 46 < (200 : Int32) by rw [g2]; exact nlt_l (b := 200) h200 (by omega) (by omega))]
theorem goes_it (hc : c ≤ 64) (hB : cxB nb nc no tb ln od pk ht cd hw vv) : ∀ (f d a b n : Nat) (Jc Jm : MJ), d ≤ 6 → 6 ≤ n + d → b ≤ c → WNf Jm f d a b → gK nb nc no tb ln c bk od pk cd hw vv Jc Jm → gS nb nc Jc Jm → gN Jc Jm → GO nb nc Jc Jm (wh (dsC (f_pla_doSteps101 n) (Int32.ofNat b) (Int32.ofNat d)) (Int32.ofNat a, Jc)) (wh (gsM (f_m_goes303 n) (Int32.ofNat b)) (Int32.ofNat a, Jm))
  | 0, d, a, b, n, Jc, Jm, hd, hn, hb, hW, hK, hS, hN => by
    have e : a = b := hW
    subst e
    exact ⟨Jc, Jm, wh_inr (dsC_end (fun z => Int32.lt_irrefl z.1)), wh_inr (gsM_end (fun z => Int32.lt_irrefl z.1)), fcG_rf, fmG_rf, hS, hN⟩
  | f + 1, d, a, b, n, Jc, Jm, hd, hn, hb, hW, hK, hS, hN => by
    obtain ⟨⟨g, hg, g1, g2⟩, g3, g4⟩ := id hN
    have hle := WNf_le (f + 1) d a b hW
    by_cases hab : a = b
    · subst hab
      exact ⟨Jc, Jm, wh_inr (dsC_end (fun z => Int32.lt_irrefl z.1)), wh_inr (gsM_end (fun z => Int32.lt_irrefl z.1)), fcG_rf, fmG_rf, hS, hN⟩
    · have hlt : Int32.ofNat a < Int32.ofNat b := lt_l (by omega) (by omega)
      by_cases h200 : g < 200
      · rcases hW with hW | ⟨w1, w2, w3⟩ | ⟨e, w1, w2, w3, w4, w5, w6⟩
        · exact absurd hW hab
        · obtain ⟨Kc, Km, k1, k2, k3, k4, k5, k6⟩ := go_simple (rc := f_pla_doSteps101 n) (rm := f_m_goes303 n) (p3 := Int32.ofNat b) (p4 := Int32.ofNat d) hc hB hK hS h200 g1 g2 g3 g4 (show a < c by omega) hlt w1 w2
          rw [wh_inl k1, wh_inl k2]
          exact GO_tr k3 k4 (goes_it hc hB f d (a + 1) b n Kc Km hd hn hb (WNf_c f d (a + 1) b w3 fun k j _ z2 => k4 _ _ (by omega) (by omega) (by omega) (by omega) (by omega) (by omega)) (gK_c hc hB hK k3 k4) k5 k6)
        · have hae := WNf_le f (d + 1) (a + 1) e w5
          have heb := WNf_le f d e b w6
          obtain ⟨m, rfl⟩ : ∃ m, n = m + 1 := ⟨n - 1, by omega⟩
          obtain ⟨kd, q1, q2, q3, -, -, -, -, q4, e', q5, q6, q7, q8, q9⟩ := hK.2.2 a (by omega)
          have hk6 : kd = 6 := by
            have := q3.symm.trans w1
            exact (i_eq (b := 6) (by omega) (by decide)).mp this
          subst hk6
          obtain ⟨v, v1, v2, v3⟩ := q4 rfl
          have he' : e' = e := by
            have := q7.symm.trans w2
            exact (i_eq (by omega) (by omega)).mp this
          subst he'
          have q10 := q9 rfl
          have f1 : fcG Jc (ab_up1 Jc 29 2 (Jc 29 2 + 1)) := fcG_up (Or.inl rfl)
          have f2 : fmG Jm (ab_up1 Jm 47 46 (Jm 47 46 + 1)) := fmG_up (Or.inr (Or.inl rfl))
          have hS1 : gS nb nc (ab_up1 Jc 29 2 (Jc 29 2 + 1)) (ab_up1 Jm 47 46 (Jm 47 46 + 1)) := by
            obtain ⟨r, hE, hM, hV⟩ := hS
            exact ⟨r, by rw [up_row (by decide)]; exact hE, fun k hk => by rw [up_ne (by omega)]; exact hM k hk, hV⟩
          have hN1 : gN (ab_up1 Jc 29 2 (Jc 29 2 + 1)) (ab_up1 Jm 47 46 (Jm 47 46 + 1)) := ⟨⟨g + 1, by omega, by rw [up_eq, g1]; exact i_addr, by rw [up_eq, g2]; exact i_addr⟩, by rw [up_ne (by omega), up_ne (by omega)]; exact g3, by rw [up_ne (by omega), up_ne (by omega)]; exact g4⟩
          obtain ⟨Kc, Km, k1, k2, k3, k4, k5, k6⟩ := go_turns (nb := nb) (nc := nc) (rc := f_pla_doSteps101 (m + 1)) (rm := f_m_goes303 (m + 1)) (Jc := ab_up1 Jc 29 2 (Jc 29 2 + 1)) (Jm := ab_up1 Jm 47 46 (Jm 47 46 + 1)) (a := a) (e := e') (d := d) (v := v) hc (by omega) (by omega) w4 v1 (fun Jc' Jm' y1 y2 y3 y4 => by
            have F2 := fmG_tr f2 y2
            have := goes_it hc hB f (d + 1) (a + 1) e' m Jc' Jm' (by omega) (by omega) (by omega) (WNf_c f (d + 1) (a + 1) e' w5 fun k j _ z2 => F2 _ _ (by omega) (by omega) (by omega) (by omega) (by omega) (by omega)) (gK_c hc hB hK (fcG_tr f1 y1) F2) y3 y4
            rw [← dsC_eq, ← gsM_eq] at this
            exact this) (by rw [up_ne (by omega)]; exact v2) (by rw [up_ne (by omega)]; exact v3) (by rw [up_ne (by omega)]; exact q10) (by rw [up_ne (by omega)]; exact q7) v 0 _ _ (Nat.zero_add v) fcG_rf fmG_rf hS1 hN1
          have K1 := fcG_tr f1 k3
          have K2 := fmG_tr f2 k4
          have e1 : dsC (f_pla_doSteps101 (m + 1)) (Int32.ofNat b) (Int32.ofNat d) (Int32.ofNat a, Jc) = some (.inl (Int32.ofNat e', Kc)) := dsC_6 (by omega) hlt (by rw [g1]; exact lt_l (b := 200) h200 (by omega)) q2 k1 (by rw [K1 _ _ (by decide) (by decide) (by decide) (by decide) (by omega)]; exact q10) (by omega) (by omega)
          have e2 : gsM (f_m_goes303 (m + 1)) (Int32.ofNat b) (Int32.ofNat a, Jm) = some (.inl (Int32.ofNat e', Km)) := gsM_6 (by omega) hlt (by rw [g2]; exact lt_l (b := 200) h200 (by omega)) w1 k2 (by rw [K2 _ _ (by omega) (by omega) (by omega) (by omega) (by omega) (by omega)]; exact q7)
          rw [wh_inl e1, wh_inl e2]
          exact GO_tr K1 K2 (goes_it hc hB f d e' b (m + 1) Kc Km hd hn hb (WNf_c f d e' b w6 fun k j _ z2 => K2 _ _ (by omega) (by omega) (by omega) (by omega) (by omega) (by omega)) (gK_c hc hB hK K1 K2) k5 k6)
      · refine ⟨Jc, Jm, wh_inr (dsC_end (fun z => ?_)), wh_inr (gsM_end (fun z => ?_)), fcG_rf, fmG_rf, hS, hN⟩
        · have := z.2
          rw [g1] at this
          exact nlt_l (b := 200) h200 (by omega) (by omega) this
        · have := z.2
          rw [g2] at this
          exact nlt_l (b := 200) h200 (by omega) (by omega) this
end GOES2
