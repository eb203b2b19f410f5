/-! tailors -/
noncomputable def tmI (J : MJ) (p : Int32) (s8 : Int32 × Int32 × Int32) : Option ((Int32 × Int32 × Int32) ⊕ (Int32 × Int32)) :=
  (if s8.2.2 < (6 : Int32) then
  (Option.bind (rdb J 135 p) fun v10 =>
  (Option.bind (α := Int32 × Int32)
  (if v10 = 0 then
  some (s8.1, s8.2.1)
  else
  (Option.bind (rdb J 135 s8.2.2) fun v12 =>
  (if v12 = 0 then
  some (s8.1, s8.2.1)
  else
  (Option.bind (f_m_isBest372 p s8.2.2 J) fun v13 =>
  (if v13 = 0 then
  some (s8.1, s8.2.1)
  else
  (Option.bind (f_m_isBest372 s8.2.2 p J) fun v14 =>
  (if v14 = 0 then
  some (s8.1, s8.2.1)
  else
  (Option.bind (α := Int32)
  (if s8.1 = 0 then
  some (((10 : Int32) * p) + s8.2.2)
  else
  some s8.2.1
  )
  fun b15 =>
  some ((s8.1 + (1 : Int32)), b15)
  )
  )
  )
  )
  )
  )
  )
  )
  fun b11 =>
  some (.inl (b11.1, b11.2, (s8.2.2 + (1 : Int32))))
  )
  )
  else
  some (.inr (s8.1, s8.2.1))
  )

noncomputable def tmO (J : MJ) (s4 : Int32 × Int32 × Int32) : Option ((Int32 × Int32 × Int32) ⊕ (Int32 × Int32)) :=
  (if s4.2.2 < (6 : Int32) then
  (Option.bind (wh (β := Int32 × Int32) (fun (s8 : Int32 × Int32 × Int32) =>
  (if s8.2.2 < (6 : Int32) then
  (Option.bind (rdb J 135 s4.2.2) fun v10 =>
  (Option.bind (α := Int32 × Int32)
  (if v10 = 0 then
  some (s8.1, s8.2.1)
  else
  (Option.bind (rdb J 135 s8.2.2) fun v12 =>
  (if v12 = 0 then
  some (s8.1, s8.2.1)
  else
  (Option.bind (f_m_isBest372 s4.2.2 s8.2.2 J) fun v13 =>
  (if v13 = 0 then
  some (s8.1, s8.2.1)
  else
  (Option.bind (f_m_isBest372 s8.2.2 s4.2.2 J) fun v14 =>
  (if v14 = 0 then
  some (s8.1, s8.2.1)
  else
  (Option.bind (α := Int32)
  (if s8.1 = 0 then
  some (((10 : Int32) * s4.2.2) + s8.2.2)
  else
  some s8.2.1
  )
  fun b15 =>
  some ((s8.1 + (1 : Int32)), b15)
  )
  )
  )
  )
  )
  )
  )
  )
  fun b11 =>
  some (.inl (b11.1, b11.2, (s8.2.2 + (1 : Int32))))
  )
  )
  else
  some (.inr (s8.1, s8.2.1))
  )
  ) (s4.1, s4.2.1, (0 : Int32))) fun b9 =>
  some (.inl (b9.1, b9.2, (s4.2.2 + (1 : Int32))))
  )
  else
  some (.inr (s4.1, s4.2.1))
  )

def one0 (r : Nat → Nat → Int32) (p q : Nat) : Int32 := if r p q = 0 then 0 else 1
/-- what the model's loops hold, i rows and j more pairs told -/
def tQ (r : Nat → Nat → Int32) (i j : Nat) (m f : Int32) : Prop := m = sm (fun p => sm (fun q => one0 r p q) 6) i + sm (fun q => one0 r i q) j ∧ firstP r i j f ∧ ∃ c, c ≤ 6 * i + j ∧ m = Int32.ofNat c ∧ (c = 0 ↔ f = -1)
theorem tQ_row {r : Nat → Nat → Int32} {i : Nat} {m f : Int32} (h : tQ r i 6 m f) : tQ r (i + 1) 0 m f := by
  obtain ⟨h1, h2, c, h3, h4, h5⟩ := h
  refine ⟨?_, ?_, c, by omega, h4, h5⟩
  · show m = (sm (fun p => sm (fun q => one0 r p q) 6) i + sm (fun q => one0 r i q) 6) + 0
    rw [Int32.add_zero]
    exact h1
  · rcases h2 with ⟨a1, a2⟩ | ⟨p, q, a1, a2, a3, a4⟩
    · exact Or.inl ⟨a1, fun p q hp hq hlt => a2 p q hp hq (by omega)⟩
    · exact Or.inr ⟨p, q, a1, a2, by omega, a4⟩
theorem tQ_0 {r : Nat → Nat → Int32} {i j : Nat} {m f : Int32} (h : tQ r i j m f) (h0 : r i j = 0) : tQ r i (j + 1) m f := by
  obtain ⟨h1, h2, c, h3, h4, h5⟩ := h
  refine ⟨?_, ?_, c, by omega, h4, h5⟩
  · show m = _ + (sm (fun q => one0 r i q) j + one0 r i j)
    rw [show one0 r i j = 0 from if_pos h0, Int32.add_zero]
    exact h1
  · rcases h2 with ⟨a1, a2⟩ | ⟨p, q, a1, a2, a3, a4⟩
    · refine Or.inl ⟨a1, fun p q hp hq hlt => ?_⟩
      by_cases e : p = i ∧ q = j
      · rw [e.1, e.2]; exact h0
      · exact a2 p q hp hq (by omega)
    · exact Or.inr ⟨p, q, a1, a2, by omega, a4⟩
theorem tQ_1 {r : Nat → Nat → Int32} {i j : Nat} {m f : Int32} (hi : i < 6) (hj : j < 6) (h : tQ r i j m f) (h0 : ¬ r i j = 0) : tQ r i (j + 1) (m + 1) (if m = 0 then Int32.ofNat (10 * i + j) else f) := by
  obtain ⟨h1, h2, c, h3, h4, h5⟩ := h
  have hm : (m = 0) = (c = 0) := by rw [h4]; exact i_eqr (n := 0) (by omega) (by decide)
  refine ⟨?_, ?_, c + 1, by omega, by rw [h4]; exact i_addr (n := 1), ?_⟩
  · show m + 1 = _ + (sm (fun q => one0 r i q) j + one0 r i j)
    rw [show one0 r i j = 1 from if_neg h0, h1, Int32.add_assoc]
  · by_cases hc : c = 0
    · rw [if_pos (by rw [hm]; exact hc)]
      right
      refine ⟨i, j, hi, hj, by omega, h0, rfl, fun p' q' hp' hq' hlt => ?_⟩
      rcases h2 with ⟨a1, a2⟩ | ⟨p, q, a1, a2, a3, a4, a5, a6⟩
      · exact a2 p' q' hp' hq' hlt
      · have := h5.mp hc
        rw [this] at a5
        exact absurd a5.symm (i_10 p a1 q a2).2.2
    · rw [if_neg (by rw [hm]; exact hc)]
      rcases h2 with ⟨a1, a2⟩ | ⟨p, q, a1, a2, a3, a4⟩
      · exact absurd (h5.mpr a1) hc
      · exact Or.inr ⟨p, q, a1, a2, by omega, a4⟩
  · constructor
    · intro e; omega
    · intro e
      by_cases hc : c = 0
      · rw [if_pos (by rw [hm]; exact hc)] at e
        exact absurd e (i_10 i hi j hj).2.2
      · rw [if_neg (by rw [hm]; exact hc)] at e
        exact absurd (h5.mpr e) hc
theorem tmI_ok {J : MJ} {tb : Nat} {g : Nat → Nat → Int32} (h135 : ∀ p, p < 6 → J 135 p = if tb.testBit p then 1 else 0) (hs : ∀ a b, a < 6 → b < 6 → f_m_getsOf373 (Int32.ofNat a) (Int32.ofNat b) J = some (g a b)) {i : Nat} (hi : i < 6) {m f : Int32} (h : tQ (restF tb g) i 0 m f) : ∃ b : Int32 × Int32, wh (tmI J (Int32.ofNat i)) (m, f, (0 : Int32)) = some b ∧ tQ (restF tb g) (i + 1) 0 b.1 b.2 := by
  refine wh_inv (fun (j : Nat) (s : Int32 × Int32 × Int32) => s.2.2 = Int32.ofNat j ∧ tQ (restF tb g) i j s.1 s.2.1) (fun (b : Int32 × Int32) => tQ (restF tb g) (i + 1) 0 b.1 b.2) 6 ?_ ?_ ⟨rfl, h⟩
  · rintro j hj ⟨m, f, q⟩ ⟨e1, e2⟩
    dsimp only at e1 e2
    subst e1
    have key : ∀ t : Int32 × Int32, tQ (restF tb g) i (j + 1) t.1 t.2 → tmI J (Int32.ofNat i) (m, f, Int32.ofNat j) = some (.inl (t.1, t.2, Int32.ofNat j + 1)) → ∃ t, tmI J (Int32.ofNat i) (m, f, Int32.ofNat j) = some (.inl t) ∧ (t.2.2 = Int32.ofNat (j + 1) ∧ tQ (restF tb g) i (j + 1) t.1 t.2.1) := fun t ht he => ⟨_, he, i_addr (n := 1), ht⟩
    have hlt : Int32.ofNat j < (6 : Int32) := by rw [i_ltr (by omega) (by decide)]; exact hj
    by_cases ti : tb.testBit i = true
    · by_cases tj : tb.testBit j = true
      · by_cases b1 : bestF tb g i j = 0
        · refine key (m, f) (tQ_0 e2 (by unfold restF; rw [if_pos ti, if_pos tj, if_pos b1])) ?_
          unfold tmI
          dsimp only
          rw [if_pos hlt, rdb_135 hi, ob_some, h135 i hi, if_pos ti, if_neg (by decide), rdb_135 hj, ob_some, h135 j hj, if_pos tj, if_neg (by decide), m_isBest h135 hs hi hj, ob_some, if_pos b1, ob_some]
        · by_cases b2 : bestF tb g j i = 0
          · refine key (m, f) (tQ_0 e2 (by unfold restF; rw [if_pos ti, if_pos tj, if_neg b1, if_pos b2])) ?_
            unfold tmI
            dsimp only
            rw [if_pos hlt, rdb_135 hi, ob_some, h135 i hi, if_pos ti, if_neg (by decide), rdb_135 hj, ob_some, h135 j hj, if_pos tj, if_neg (by decide), m_isBest h135 hs hi hj, ob_some, if_neg b1, m_isBest h135 hs hj hi, ob_some, if_pos b2, ob_some]
          · refine key (m + 1, if m = 0 then Int32.ofNat (10 * i + j) else f) (tQ_1 hi hj e2 (by unfold restF; rw [if_pos ti, if_pos tj, if_neg b1, if_neg b2]; decide)) ?_
            unfold tmI
            dsimp only
            rw [if_pos hlt, rdb_135 hi, ob_some, h135 i hi, if_pos ti, if_neg (by decide), rdb_135 hj, ob_some, h135 j hj, if_pos tj, if_neg (by decide), m_isBest h135 hs hi hj, ob_some, if_neg b1, m_isBest h135 hs hj hi, ob_some, if_neg b2, o_ite, ob_some, ob_some, show (10 : Int32) * Int32.ofNat i = Int32.ofNat (10 * i) from i_mull (n := 10), i_add]
      · refine key (m, f) (tQ_0 e2 (by unfold restF; rw [if_pos ti, if_neg tj])) ?_
        unfold tmI
        dsimp only
        rw [if_pos hlt, rdb_135 hi, ob_some, h135 i hi, if_pos ti, if_neg (by decide), rdb_135 hj, ob_some, h135 j hj, if_neg tj, if_pos rfl, ob_some]
    · refine key (m, f) (tQ_0 e2 (by unfold restF; rw [if_neg ti])) ?_
      unfold tmI
      dsimp only
      rw [if_pos hlt, rdb_135 hi, ob_some, h135 i hi, if_neg ti, if_pos rfl, ob_some]
  · rintro ⟨m, f, q⟩ ⟨e1, e2⟩
    dsimp only at e1 e2
    subst e1
    exact ⟨(m, f), if_neg (show ¬ Int32.ofNat 6 < (6 : Int32) from by decide), tQ_row e2⟩
theorem tmO_ok {J : MJ} {tb : Nat} {g : Nat → Nat → Int32} (h135 : ∀ p, p < 6 → J 135 p = if tb.testBit p then 1 else 0) (hs : ∀ a b, a < 6 → b < 6 → f_m_getsOf373 (Int32.ofNat a) (Int32.ofNat b) J = some (g a b)) : ∃ b : Int32 × Int32, wh (tmO J) ((0 : Int32), (-1 : Int32), (0 : Int32)) = some b ∧ tQ (restF tb g) 6 0 b.1 b.2 := by
  refine wh_inv (fun (i : Nat) (s : Int32 × Int32 × Int32) => s.2.2 = Int32.ofNat i ∧ tQ (restF tb g) i 0 s.1 s.2.1) (fun (b : Int32 × Int32) => tQ (restF tb g) 6 0 b.1 b.2) 6 ?_ ?_ ⟨rfl, rfl, Or.inl ⟨rfl, fun p q _ _ h => by omega⟩, 0, by decide, rfl, by simp⟩
  · rintro i hi ⟨m, f, q⟩ ⟨e1, e2⟩
    dsimp only at e1 e2
    subst e1
    obtain ⟨b, h1, h2⟩ := tmI_ok h135 hs hi e2
    refine ⟨(b.1, b.2, Int32.ofNat (i + 1)), ?_, rfl, h2⟩
    unfold tmO
    dsimp only
    rw [if_pos (by rw [i_ltr (by omega) (by decide)]; exact hi)]
    refine (congrArg (fun z => Option.bind z _) (show _ = some b from h1)).trans ?_
    exact congrArg some (congrArg Sum.inl (Prod.ext rfl (Prod.ext rfl (i_addr (n := 1)))))
  · rintro ⟨m, f, q⟩ ⟨e1, e2⟩
    dsimp only at e1 e2
    subst e1
    exact ⟨(m, f), if_neg (show ¬ Int32.ofNat 6 < (6 : Int32) from by decide), e2⟩
set_option maxHeartbeats 1000000 in
theorem op_tailors_ok : op_tailors rel := by
  intro p I hr
  have hr0 := hr
  obtain ⟨tn, bl, st, wa, od, tb, pk, ln, ht, nl, bh, bs, nk, ni, wt, u, hS, hD, hP, hL, hB, hK, hT, hC⟩ := hr
  have hS0 := hS
  obtain ⟨s1, s2, s3, s4, s5, s6, s7, s8, s9, s10, s11, s12, s13, s14, s15, s16, s17⟩ := hS
  obtain ⟨d1, d2⟩ := hD
  obtain ⟨day, q1, q2, q3, q4, q5⟩ := d2
  have t5 : I 3 5 = Int32.ofNat (tn 0) := s3 0 (by decide)
  have t6 : I 3 6 = Int32.ofNat (tn 1) := s3 1 (by decide)
  have t7 : I 3 7 = Int32.ofNat (tn 2) := s3 2 (by decide)
  have t8 : I 3 8 = Int32.ofNat (tn 3) := s3 3 (by decide)
  have t9 : I 3 9 = Int32.ofNat (tn 4) := s3 4 (by decide)
  have u0 : I 51 0 = Int32.ofNat (tn 0) := s2 0 (by decide)
  have u1 : I 51 1 = Int32.ofNat (tn 1) := s2 1 (by decide)
  have u2 : I 51 2 = Int32.ofNat (tn 2) := s2 2 (by decide)
  have u3 : I 51 3 = Int32.ofNat (tn 3) := s2 3 (by decide)
  have u4 : I 51 4 = Int32.ofNat (tn 4) := s2 4 (by decide)
  have J13 : ∀ w j, w < tn 2 → j < 5 → (ab_up1 I 47 0 0) (94 + w) j = Int32.ofNat (wa w j) := fun w j hw hj => (up_ne (by omega)).trans (s13 w j hw hj)
  have J16 : ∀ o j, o < tn 3 → j < 5 → (ab_up1 I 47 0 0) (120 + o) j = Int32.ofNat (od o j) := fun w j hw hj => (up_ne (by omega)).trans (s16 w j hw hj)
  have J5 : ∀ k, (ab_up1 I 47 0 0) 576 k = I 576 k := fun k => up_ne (by omega)
  have hP0 := hP
  obtain ⟨g1, g2, g3, g4, g5, g6⟩ := hP
  have hb : ∀ w, w < tn 2 → wa w 0 < 6 ∧ wa w 1 ≤ wa w 2 ∧ wa w 2 ≤ 11 := fun w hw => ⟨by have := s12 w hw; omega, (s12 w hw).2.1, (s12 w hw).2.2.1⟩
  rcases range_cases p (n := 3) (by decide) with ⟨k, hk, rfl⟩ | hp
  · obtain ⟨J, j1, j2, j3⟩ := x_compare hS0 hP0
    have K : ∀ x k, x ≠ 42 → x ≠ 47 → (ab_up1 J 47 0 0) x k = I x k := fun x k h1 h2 => (up_ne (by omega)).trans (j2 x k h1)
    have sh : ∀ a b, a < 6 → b < 6 → tb.testBit a = true → tb.testBit b = true → f_fit_share243 (Int32.ofNat a) (Int32.ofNat b) J = some (getF (tn 1) (tn 2) (tn 4) wa pk a b) := fun a b ha hb6 ta tq => x_share ((j2 3 6 (by decide)).trans t6) (by omega) ha hb6 (fun c hc => j3 c a hc ha ta) (fun c hc => j3 c b hc hb6 tq)
    have ge : ∀ a b, a < 6 → b < 6 → f_m_getsOf373 (Int32.ofNat a) (Int32.ofNat b) (ab_up1 J 47 0 0) = some (getF (tn 1) (tn 2) (tn 4) wa pk a b) := fun a b ha hb6 => m_getsOf (I := ab_up1 J 47 0 0) ((K _ _ (by decide) (by decide)).trans u1) ((K _ _ (by decide) (by decide)).trans u2) ((K _ _ (by decide) (by decide)).trans u4) (by omega) (by omega) hb (fun w j hw hj => (K _ _ (by omega) (by omega)).trans (s13 w j hw hj)) (fun p h hp hh => (K _ _ (by omega) (by omega)).trans (g5 p h hp hh)) ha hb6
    have e19 : J 19 3 = Int32.ofNat tb := (j2 19 3 (by decide)).trans g2
    have re : ∀ p q, p < 6 → q < 6 → f_fit_rest241 (Int32.ofNat p) (Int32.ofNat q) J = some (restF tb (getF (tn 1) (tn 2) (tn 4) wa pk) p q) := fun p q hp hq => x_rest e19 g1 sh hp hq
    obtain ⟨v, v1, v2⟩ := x_firstRest re
    obtain ⟨b, w1, w2⟩ := tmO_ok (J := ab_up1 J 47 0 0) (tb := tb) (g := getF (tn 1) (tn 2) (tn 4) wa pk) (fun p hp => (K 135 p (by decide) (by decide)).trans (g3 p hp)) ge
    have ev : b.2 = v := firstP_eq w2.2.1 v2
    have em : b.1 = sm (fun p => sm (fun q => one0 (restF tb (getF (tn 1) (tn 2) (tn 4) wa pk)) p q) 6) 6 := by
      have h := w2.1
      rw [show sm (fun q => one0 (restF tb (getF (tn 1) (tn 2) (tn 4) wa pk)) 6 q) 0 = 0 from rfl, Int32.add_zero] at h
      exact h
    have ag : agr qs I (ab_up1 J 47 0 0) := by
      refine agr_up (fun x k h => j2 x k ?_) rfl
      rintro rfl
      cases h
    have hx : f_x_needWithin38 (Int32.ofNat k) 0 2 I = _ := nW_ok (n := 2) hk (by decide)
    have hmd : ∀ w, (if Int32.ofNat k = 0 then some b.1 else (if Int32.ofNat k = (1 : Int32) then some b.2 else (if b.2 = (-1 : Int32) then some (0 : Int32) else (Option.bind (f_m_getsOf373 (b.2 / (10 : Int32)) (b.2 - b.2 / (10 : Int32) * (10 : Int32)) (ab_up1 J 47 0 0)) fun v7 => some v7)))) = some w → f_m_tailors371 (Int32.ofNat k) J = some (w, ab_up1 J 47 0 0) := by
      intro w hw
      unfold f_m_tailors371
      rw [show f_m_in264 (Int32.ofNat k) 0 2 _ = _ from in_ok (n := 2) hk (by decide), ob_some, if_neg (by decide), ob_some, bad_0 up_eq, ob_some, if_pos rfl]
      dsimp only
      refine (congrArg (fun z => Option.bind z _) (show _ = some b from w1)).trans ?_
      exact (congrArg (fun z => Option.bind z _) hw).trans rfl
    match k, hk with
    | 0, hk =>
      refine qok (v := b.1) (I1 := J) (I2 := ab_up1 J 47 0 0) hr0 ?_ (hmd _ rfl) ag up_eq
      unfold f_x_tailors238
      rw [hx, tb_inr, j1, ob_some, if_pos (show Int32.ofNat 0 = 0 from rfl), x_rests re, ob_some, em]
      rfl
    | 1, hk =>
      refine qok (v := b.2) (I1 := J) (I2 := ab_up1 J 47 0 0) hr0 ?_ (hmd _ rfl) ag up_eq
      unfold f_x_tailors238
      rw [hx, tb_inr, j1, ob_some, if_neg (show ¬ Int32.ofNat 1 = 0 from by decide), v1, ob_some, if_pos (show Int32.ofNat 1 = (1 : Int32) from rfl), ev]
    | 2, hk =>
      rcases v2 with ⟨a1, a2⟩ | ⟨p, q, a1, a2, a3, a4, a5, a6⟩
      · refine qok (v := 0) (I1 := J) (I2 := ab_up1 J 47 0 0) hr0 ?_ (hmd _ (by rw [ev, a1]; rfl)) ag up_eq
        unfold f_x_tailors238
        rw [hx, tb_inr, j1, ob_some, if_neg (show ¬ Int32.ofNat 2 = 0 from by decide), v1, ob_some, a1]
        rfl
      · have tt : tb.testBit p = true ∧ tb.testBit q = true := by
          unfold restF at a4
          by_cases h1 : tb.testBit p = true
          · by_cases h2 : tb.testBit q = true
            · exact ⟨h1, h2⟩
            · rw [if_pos h1, if_neg h2] at a4
              exact absurd rfl a4
          · rw [if_neg h1] at a4
            exact absurd rfl a4
        obtain ⟨d1, d2, d3⟩ := i_10 p a1 q a2
        refine qok (v := getF (tn 1) (tn 2) (tn 4) wa pk p q) (I1 := J) (I2 := ab_up1 J 47 0 0) hr0 ?_ (hmd _ ?_) ag up_eq
        · unfold f_x_tailors238
          rw [hx, tb_inr, j1, ob_some, if_neg (show ¬ Int32.ofNat 2 = 0 from by decide), v1, ob_some, if_neg (show ¬ Int32.ofNat 2 = (1 : Int32) from by decide), a5, if_neg d3, d2, d1, sh p q a1 a2 tt.1 tt.2]
          rfl
        · rw [ev, a5, if_neg (show ¬ Int32.ofNat 2 = 0 from by decide), if_neg (show ¬ Int32.ofNat 2 = (1 : Int32) from by decide), if_neg d3, d2, d1, ge p q a1 a2]
          rfl
  · refine qref (E := 1) (w := 1) (by decide) hr0 ?_ ?_ (Or.inl ⟨rfl, rfl⟩)
    · unfold f_x_tailors238
      rw [show f_x_needWithin38 p 0 2 I = _ from nW_no (n := 2) (by decide) hp]
      rfl
    · unfold f_m_tailors371
      rw [show f_m_in264 p 0 2 _ = _ from in_no (n := 2) (by decide) hp, ob_some, if_pos rfl, ob_some, show f_m_bad268 1 1 1 _ = _ from bad_ref (E := 1) (by decide) (by decide)]
      rfl
