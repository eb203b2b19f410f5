/-! shop: one clause, in both (written by wip/whole/ops/gen98998.py) -/
noncomputable def scT (w : Int32) (I3 : MJ) : Option MJ := (if w = (0 : Int32) then (Option.bind (rdp 54 (I3 50 0)) fun r10 => (Option.bind (f_m_skyHere281 (ab_up1 I3 47 7 ((I3 47 7) + (1 : Int32)))) fun w11 => (Option.bind (wr w11.2 r10 (0 : Int32) w11.1) fun I12 => (Option.bind (rdp 54 (I12 50 0)) fun r13 => (Option.bind (f_m_number283 (1 : Int32) (60 : Int32) I12) fun w14 => (Option.bind (wr w14.2 r13 (1 : Int32) w14.1) fun I15 => some I15)))))) else (if w = (1 : Int32) then (Option.bind (f_m_number283 (0 : Int32) (9 : Int32) (ab_up1 I3 47 7 ((I3 47 7) + (1 : Int32)))) fun w16 => (Option.bind (wr w16.2 52 (I3 50 1) w16.1) fun I17 => some I17)) else (if w = (2 : Int32) then (Option.bind (rdp 76 (I3 50 2)) fun r18 => (Option.bind (f_m_number283 (0 : Int32) ((I3 50 1) - (1 : Int32)) (ab_up1 I3 47 7 ((I3 47 7) + (1 : Int32)))) fun w19 => (Option.bind (wr w19.2 r18 (0 : Int32) w19.1) fun I20 => (Option.bind (f_m_number283 (0 : Int32) (11 : Int32) I20) fun w21 => (Option.bind (wr w21.2 r18 (1 : Int32) w21.1) fun I22 => (Option.bind (rd I22 r18 (1 : Int32)) fun v23 => (Option.bind (f_m_number283 v23 (11 : Int32) I22) fun w24 => (Option.bind (wr w24.2 r18 (2 : Int32) w24.1) fun I25 => (Option.bind (f_m_skyHere281 I25) fun w26 => (Option.bind (wr w26.2 r18 (3 : Int32) w26.1) fun I27 => (Option.bind (f_m_number283 (1 : Int32) (9 : Int32) I27) fun w28 => (Option.bind (wr w28.2 r18 (4 : Int32) w28.1) fun I29 => some I29)))))))))))) else (if w = (3 : Int32) then (Option.bind (rdp 110 (I3 50 3)) fun r30 => (Option.bind (f_m_number283 (0 : Int32) ((I3 50 1) - (1 : Int32)) (ab_up1 I3 47 7 ((I3 47 7) + (1 : Int32)))) fun w31 => (Option.bind (wr w31.2 r30 (0 : Int32) w31.1) fun I32 => (Option.bind (f_m_number283 (0 : Int32) (5 : Int32) I32) fun w33 => (Option.bind (wr w33.2 r30 (1 : Int32) w33.1) fun I34 => (Option.bind (f_m_number283 (1 : Int32) (60 : Int32) I34) fun w35 => (Option.bind (wr w35.2 r30 (2 : Int32) w35.1) fun I36 => (Option.bind (f_m_number283 (0 : Int32) (999 : Int32) I36) fun w37 => (Option.bind (wr w37.2 r30 (3 : Int32) w37.1) fun I38 => (Option.bind (f_m_number283 (1 : Int32) (24 : Int32) I38) fun w39 => (Option.bind (wr w39.2 r30 (4 : Int32) w39.1) fun I40 => some I40))))))))))) else (if w = (4 : Int32) then (Option.bind (f_m_number283 (0 : Int32) (9 : Int32) (ab_up1 I3 47 7 ((I3 47 7) + (1 : Int32)))) fun w41 => (if (w41.2 47 5) = 0 then some (ab_up1 w41.2 50 4 w41.1) else some w41.2)) else (Option.bind (f_m_number283 (1 : Int32) (24 : Int32) (ab_up1 I3 47 7 ((I3 47 7) + (1 : Int32)))) fun w42 => (if (w42.2 47 5) = 0 then some (ab_up1 w42.2 50 5 w42.1) else some w42.2)))))))
noncomputable def scE (w : Int32) (b4 : MJ) : Option MJ := (Option.bind (α := MJ) (if w < (4 : Int32) then (Option.bind (rd b4 50 w) fun v7 => (Option.bind (α := Int32) (if (b4 47 5) = 0 then some (1 : Int32) else some (0 : Int32)) fun b8 => (Option.bind (wr b4 50 w (v7 + b8)) fun I9 => some I9))) else some b4) fun b5 => (Option.bind (f_m_sign285 (59 : Int32) b5) fun I6 => some I6))
section ONE
variable {B : Nat → Nat} {n : Nat} {Jc Jm : MJ}
/-- the clause's end in both: a count and a sign, or a sign alone -/
theorem fin4 {st : Option Nat} {k c : Nat} {Kc Km : MJ} (hk : k < 4) (e : Km 50 k = Int32.ofNat c) (h : TT B n st Kc Km) : ∃ st2 Kf Mf, f_tap_sign58 59 Kc = some Kf ∧ (Option.bind (scE (Int32.ofNat k) Km) fun I => f_m_blanks270 I) = some Mf ∧ TT B n st2 Kf Mf ∧ fr1 Kc Kf ∧ (∀ a j, ¬ (a = 47 ∧ (j = 4 ∨ j = 5 ∨ j = 6)) → ¬ (a = 50 ∧ j = k) → Mf a j = Km a j) ∧ ∀ q', st2 = some q' → ∃ q1, st = some q1 ∧ q1 < q' ∧ Mf 47 4 = Int32.ofNat q' ∧ Mf 50 k = Int32.ofNat (c + 1) := by
  obtain ⟨x, hx, hs⟩ : ∃ x : Nat, (if Km 47 5 = 0 then some (1 : Int32) else some 0) = some (Int32.ofNat x) ∧ (∀ q, st = some q → x = 1) := by
    cases st with
    | some q => exact ⟨1, if_pos (TT_some h).2.1, fun _ _ => rfl⟩
    | none => exact ⟨0, if_neg (TT_none h).2, fun _ h => by cases h⟩
  have h2 : TT B n st Kc (ab_up1 Km 50 k (Int32.ofNat (c + x))) := TT_mu h (by omega) (by omega)
  obtain ⟨s3, C3, M3, c3, m3, t3, f3, g3, d3⟩ := tt_sign (c := 59) (by decide) h2
  obtain ⟨M4, m4, t4, g4, d4⟩ := tt_blanks t3
  refine ⟨s3, C3, M4, c3, ?_, t4, f3, fun a j h1 h2 => by rw [g4 a j h1, g3 a j h1, up_ne h2], fun q' hq' => ?_⟩
  · unfold scE
    rw [if_pos (show Int32.ofNat k < (4 : Int32) from lt_l (b := 4) hk (by decide)), rd_50 (by omega), ob_some, hx, ob_some, e, i_add, wr_50 (by omega), ob_some, ob_some, show f_m_sign285 59 _ = _ from m3, ob_some, ob_some, m4]
  · obtain ⟨q1, a1, a2⟩ := d3 q' hq'
    refine ⟨q1, a1, a2, d4 q' hq', ?_⟩
    rw [g4 _ _ (by omega), g3 _ _ (by omega), up_eq, hs q1 a1]
theorem fin5 {st : Option Nat} {k : Nat} {Kc Km : MJ} (hk : 4 ≤ k ∧ k < 6) (h : TT B n st Kc Km) : ∃ st2 Kf Mf, f_tap_sign58 59 Kc = some Kf ∧ (Option.bind (scE (Int32.ofNat k) Km) fun I => f_m_blanks270 I) = some Mf ∧ TT B n st2 Kf Mf ∧ fr1 Kc Kf ∧ (∀ a j, ¬ (a = 47 ∧ (j = 4 ∨ j = 5 ∨ j = 6)) → Mf a j = Km a j) ∧ ∀ q', st2 = some q' → ∃ q1, st = some q1 ∧ q1 < q' ∧ Mf 47 4 = Int32.ofNat q' := by
  obtain ⟨s3, C3, M3, c3, m3, t3, f3, g3, d3⟩ := tt_sign (c := 59) (by decide) h
  obtain ⟨M4, m4, t4, g4, d4⟩ := tt_blanks t3
  refine ⟨s3, C3, M4, c3, ?_, t4, f3, fun a j h1 => by rw [g4 a j h1, g3 a j h1], fun q' hq' => ?_⟩
  · unfold scE
    rw [if_neg (show ¬ Int32.ofNat k < (4 : Int32) from nlt_l (b := 4) (by omega) (by omega) (by decide)), ob_some, show f_m_sign285 59 _ = _ from m3, ob_some, ob_some, m4]
  · obtain ⟨q1, a1, a2⟩ := d3 q' hq'
    exact ⟨q1, a1, a2, d4 q' hq'⟩
set_option maxHeartbeats 2000000 in
theorem clause_it {i q nb nc nw no se ha : Nat} (hc : cR B n Jc q) (hm : mR B n Jm q) (hq : q < n) (hD : sD i nb nc nw no se ha Jc Jm) : ∃ st' Kc Km, (Option.bind (f_sho_readClause44 (Int32.ofNat i) Jc) fun I4 => f_tap_sign58 (59 : Int32) I4) = some Kc ∧ (Option.bind (f_m_clause272 Jm) fun I10 => f_m_blanks270 I10) = some Km ∧ TT B n st' Kc Km ∧ fcS Jc Kc ∧ fmS Jm Km ∧ ∀ q', st' = some q' → q < q' ∧ Km 47 4 = Int32.ofNat q' ∧ i < 60 ∧ ∃ nb' nc' nw' no' se' ha', sD (i + 1) nb' nc' nw' no' se' ha' Kc Km := by
  obtain ⟨⟨l1, l2, l3, l4, l5, l6, l7, l8⟩, D7, ⟨Dc0, Dc1, Dc2, Dc3, Dc4, Dc5⟩, ⟨Dm0, Dm1, Dm2, Dm3, Dm4, Dm5⟩, DB, DC, DW, DO⟩ := hD
  obtain ⟨J1, x1, x2, x3⟩ := xw_0 hc
  have k1 := m_kindHere hm
  obtain ⟨r1, r2, r3, r4⟩ := mR_blanks hm
  have hwd := wdE_ge (B := B) r1
  have hsk := sk_le (B := B) hwd.2
  rcases x3 with ⟨k, w, y1, y2⟩ | ⟨w, y1⟩
  · rw [w] at x1 k1
    have hk6 : k < 6 := wIx_lt _ _ _ w
    have hkn : ¬ Int32.ofNat k = -1 := by rw [i_neg1 (by omega)]; exact id
    obtain ⟨s1, s2⟩ := m_skipWord r4 up_eq
    rw [up_up] at s1 s2
    -- a fault of the third kind at the word
    have bad3 : (∃ J2, cX J2 3 q ∧ (∀ a j, ¬ (a = 1 ∧ (j = 2 ∨ j = 4 ∨ j = 5 ∨ j = 6)) → ¬ (9 ≤ a ∧ a ≤ 14) → J2 a j = J1 a j) ∧ (Option.bind (f_sho_readClause44 (Int32.ofNat i) Jc) fun I4 => f_tap_sign58 (59 : Int32) I4) = some J2) → ((ab_up1 Jm 47 4 (Int32.ofNat q)) 47 7 = 60 ∨ (¬ (ab_up1 Jm 47 4 (Int32.ofNat q)) 47 7 = 60 ∧ f_m_isFull279 (Int32.ofNat k) (ab_up1 Jm 47 4 (Int32.ofNat q)) = some 1)) → ∃ st' Kc Km, (Option.bind (f_sho_readClause44 (Int32.ofNat i) Jc) fun I4 => f_tap_sign58 (59 : Int32) I4) = some Kc ∧ (Option.bind (f_m_clause272 Jm) fun I10 => f_m_blanks270 I10) = some Km ∧ TT B n st' Kc Km ∧ fcS Jc Kc ∧ fmS Jm Km ∧ ∀ q', st' = some q' → q < q' ∧ Km 47 4 = Int32.ofNat q' ∧ i < 60 ∧ ∃ nb' nc' nw' no' se' ha', sD (i + 1) nb' nc' nw' no' se' ha' Kc Km := by
      rintro ⟨J2, a1, a2, a3⟩ hor
      obtain ⟨K2, z1, z2, z3⟩ := m_wrong_s (B := B) (n := n) (k := 3) (w := q) (p := q) (J := ab_up1 Jm 47 4 (Int32.ofNat q)) (by omega) r4.2.1 r4.1 r1 up_eq
      obtain ⟨K3, b1, b2, b3⟩ := mX_blanks z2
      refine ⟨none, J2, K3, a3, ?_, ⟨3, q, a1, b2⟩, fun a j h1 h2 => by rw [a2 a j h1 h2, x2 a j h1], fmS_1 (fmS_1 (fmS_1 (fun _ _ _ _ _ _ _ _ => rfl) (fr47_up fr47_rf (by omega))) z3) b3, fun q' h => by cases h⟩
      unfold f_m_clause272
      rw [k1, ob_some]
      try dsimp only
      rw [if_neg (show ¬ oI (some k) = -1 from hkn)]
      rcases hor with h | ⟨h, h2⟩
      · rw [if_pos h, up_eq, show f_m_wrong278 3 (Int32.ofNat q) _ = some K2 from z1, ob_some, ob_some, if_neg (mX_ne z2), ob_some, b1]
      · rw [if_neg h, show f_m_isFull279 (oI (some k)) _ = some 1 from h2, ob_some, if_neg (by decide), up_eq, show f_m_wrong278 3 (Int32.ofNat q) _ = some K2 from z1, ob_some, ob_some, if_neg (mX_ne z2), ob_some, b1]
    by_cases h60 : i < 60
    · have h7 : ¬ (ab_up1 Jm 47 4 (Int32.ofNat q)) 47 7 = 60 := by
        rw [up_ne (by omega), D7]
        exact neq_l (b := 60) (by omega) (by omega) (by decide)
      have hC : ∀ R, (Option.bind (Option.bind (scB (Int32.ofNat k) J1) fun b3 => some b3) fun I4 => f_tap_sign58 (59 : Int32) I4) = R → (Option.bind (f_sho_readClause44 (Int32.ofNat i) Jc) fun I4 => f_tap_sign58 (59 : Int32) I4) = R := fun R h => by
        unfold f_sho_readClause44
        rw [x1, ob_some]
        try dsimp only
        rw [if_pos (show Int32.ofNat i < (60 : Int32) from lt_l (b := 60) h60 (by decide)), ob_some]
        exact h
      have hM : ∀ R, f_m_isFull279 (Int32.ofNat k) (ab_up1 Jm 47 4 (Int32.ofNat q)) = some 0 → (Option.bind (Option.bind (scT (Int32.ofNat k) (ab_up1 Jm 47 4 (Int32.ofNat (wdE B n q)))) fun b4 => scE (Int32.ofNat k) b4) fun I10 => f_m_blanks270 I10) = R → (Option.bind (f_m_clause272 Jm) fun I10 => f_m_blanks270 I10) = R := fun R hf h => by
        unfold f_m_clause272
        rw [k1, ob_some]
        try dsimp only
        rw [if_neg (show ¬ oI (some k) = -1 from hkn), if_neg h7, show f_m_isFull279 (oI (some k)) _ = some 0 from hf, ob_some, if_pos rfl, ob_some, if_pos r4.2.1, s1, ob_some]
        exact h
      have T0 : TT B n (some (sk B n (wdE B n q))) J1 (ab_up1 (ab_up1 Jm 47 4 (Int32.ofNat (wdE B n q))) 47 7 (Int32.ofNat (i + 1))) := TT_mu (st := some _) ⟨y1, s2⟩ (by omega) (by omega)
      have e7 : ab_up1 (ab_up1 Jm 47 4 (Int32.ofNat (wdE B n q))) 47 7 ((ab_up1 Jm 47 4 (Int32.ofNat (wdE B n q))) 47 7 + (1 : Int32)) = ab_up1 (ab_up1 Jm 47 4 (Int32.ofNat (wdE B n q))) 47 7 (Int32.ofNat (i + 1)) := by rw [up_ne (by omega), D7, i_addr]
      have i3 : ∀ a j, ¬ (a = 47 ∧ j = 4) → (ab_up1 Jm 47 4 (Int32.ofNat (wdE B n q))) a j = Jm a j := fun a j h => up_ne h
      have fM : ∀ {Kc Km : MJ}, f_m_isFull279 (Int32.ofNat k) (ab_up1 Jm 47 4 (Int32.ofNat q)) = some 1 → False → Kc = Km := fun _ h => h.elim
      have hkk : k = 0 ∨ k = 1 ∨ k = 2 ∨ k = 3 ∨ k = 4 ∨ k = 5 := by omega
      rcases hkk with rfl | rfl | rfl | rfl | rfl | rfl
      · by_cases hf : nb < 10
        · have hfu : f_m_isFull279 (Int32.ofNat 0) (ab_up1 Jm 47 4 (Int32.ofNat q)) = some 0 := by
            rw [show f_m_isFull279 (Int32.ofNat 0) _ = _ from full_0 (c := nb) (by omega) (by rw [up_ne (by omega)]; exact Dm0), if_neg (by omega)]
          have ej : ∀ j, J1 9 j = Jc 9 j := fun j => x2 _ _ (by omega)
          obtain ⟨st1, Kc, Km, b1, b2, b3, b4, b5, b6, b7⟩ := bolt_c (nb := nb) hf ((ej 5).trans Dc0) (by rw [up_ne (by omega), i3 _ _ (by omega)]; exact Dm0) T0
          have e50 : ∀ j, Km 50 j = Jm 50 j := fun j => by rw [b5 _ _ (by omega) (by omega), up_ne (by omega), i3 _ _ (by omega)]
          obtain ⟨st2, Kf, Mf, c1, c2, c3, c4, c5, c6⟩ := fin4 (k := 0) (c := nb) (by decide) ((e50 0).trans Dm0) b3
          refine ⟨st2, Kf, Mf, hC _ ?_, hM _ hfu ?_, c3, ?_, ?_, fun q' hq' => ?_⟩
          · unfold scB
            rw [if_pos (show Int32.ofNat 0 = 0 from rfl), b1, ob_some, ob_some, ob_some, c1]
          · unfold scT
            rw [if_pos (show Int32.ofNat 0 = 0 from rfl), e7, i3 50 0 (by omega), Dm0]
            refine (congrArg (fun z => Option.bind (Option.bind z _) _) b2).trans ?_
            rw [ob_some]
            exact c2
          · intro a j h1 h2
            rw [c4 a j h1, b4 a j h1 (by omega) (by omega) (by omega), x2 a j h1]
          · intro a j h1 h2 h3 h4 h5 h6
            rw [c5 a j (by omega) (by omega), b5 a j (by omega) (by omega), up_ne (by omega), i3 a j (by omega)]
          · obtain ⟨q1, d1, d2, d3, d4⟩ := c6 q' hq'
            obtain ⟨q0, v0, v1, g1, g2, g3, g4, g5, g6, g7, g8, g9⟩ := b7 q1 d1
            have hq0 := Option.some.inj g1
            have kC : ∀ a j, ¬ (a = 1 ∧ (j = 2 ∨ j = 4 ∨ j = 5 ∨ j = 6)) → Kf a j = Kc a j := fun a j h => c4 a j h
            have kJ : ∀ a j, a ≠ 1 → ¬ (a = 9 ∧ j = 5) → ¬ (a = 10 ∧ j = nb) → ¬ (a = 11 ∧ j = nb) → Kf a j = Jc a j := fun a j h1 h2 h3 h4 => by rw [kC a j (by omega), b4 a j (by omega) h2 h3 h4, x2 a j (by omega)]
            have mK : ∀ a j, a ≠ 47 → ¬ (a = 50 ∧ j = 0) → Mf a j = Km a j := fun a j h1 h2 => c5 a j (by omega) h2
            have mJ : ∀ a j, a ≠ 47 → ¬ (a = 50 ∧ j = 0) → a ≠ 55 + nb → Mf a j = Jm a j := fun a j h1 h2 h3 => by rw [mK a j h1 h2, b5 a j (by omega) h3, up_ne (by omega), i3 a j (by omega)]
            refine ⟨by omega, d3, h60, nb + 1, nc, nw, no, se, ha, ⟨by omega, by omega, by omega, by omega, by omega, by omega, by omega, by omega⟩, ?_, ⟨(kC 9 5 (by omega)).trans b6, (kJ 9 6 (by omega) (by omega) (by omega) (by omega)).trans Dc1, (kJ 9 7 (by omega) (by omega) (by omega) (by omega)).trans Dc2, (kJ 9 8 (by omega) (by omega) (by omega) (by omega)).trans Dc3, (kJ 9 9 (by omega) (by omega) (by omega) (by omega)).trans Dc4, (kJ 9 10 (by omega) (by omega) (by omega) (by omega)).trans Dc5⟩, ⟨d4, (mJ 50 1 (by omega) (by omega) (by omega)).trans Dm1, (mJ 50 2 (by omega) (by omega) (by omega)).trans Dm2, (mJ 50 3 (by omega) (by omega) (by omega)).trans Dm3, (mJ 50 4 (by omega) (by omega) (by omega)).trans Dm4, (mJ 50 5 (by omega) (by omega) (by omega)).trans Dm5⟩, ?_, ?_, ?_, ?_⟩
            · rw [c5 47 7 (by omega) (by omega), b5 47 7 (by omega) (by omega), up_eq]
            · intro b hb
              by_cases e : b = nb
              · subst e
                exact ⟨v0, v1, g3, g4, g5, (kC _ _ (by omega)).trans g6, (kC _ _ (by omega)).trans g7, (mK _ _ (by omega) (by omega)).trans g8, (mK _ _ (by omega) (by omega)).trans g9⟩
              · exact sB_c (nb := nb) DB (fun b hb => ⟨kJ _ _ (by omega) (by omega) (by omega) (by omega), kJ _ _ (by omega) (by omega) (by omega) (by omega)⟩) (fun b j hb => mJ _ _ (by omega) (by omega) (by omega)) b (by omega)
            · exact sC_c DC (fun b hb => kJ _ _ (by omega) (by omega) (by omega) (by omega)) (fun b hb => mJ _ _ (by omega) (by omega) (by omega))
            · exact sW_c DW (Nat.le_refl _) (fun j hj => kJ _ _ (by omega) (by omega) (by omega) (by omega)) (fun b j hb => mJ _ _ (by omega) (by omega) (by omega))
            · exact sO_c DO (Nat.le_refl _) (fun j hj => kJ _ _ (by omega) (by omega) (by omega) (by omega)) (fun b j hb => mJ _ _ (by omega) (by omega) (by omega))
        · refine bad3 ?_ (Or.inr ⟨h7, ?_⟩)
          · obtain ⟨J2, a1, a2, a3⟩ := nR_no (a := nb) (m := 10) (q := q) (J := J1) hf (by omega) y1.2.1 y2
            obtain ⟨J3, f1, f2⟩ := fl_bolt (cX_ne a2)
            have e1 : f_sho_readBolt51 J1 = some J3 := by
              rw [← f1]
              unfold f_sho_readBolt51
              rw [show J1 9 5 = Int32.ofNat nb from (x2 _ _ (by omega)).trans Dc0, show f_sho_needRoom52 (Int32.ofNat nb) 10 J1 = some J2 from a1, nR_f (cX_ne a2), ob_some]
            have h3 : cX J3 3 q := ⟨by omega, by rw [f2 _ _ (by omega)]; exact a2.2.1, by rw [f2 _ _ (by omega)]; exact a2.2.2⟩
            refine ⟨J3, h3, fun a j h1 h2 => by rw [f2 a j h2, a3 a j h1], hC _ ?_⟩
            unfold scB
            rw [if_pos (show Int32.ofNat 0 = 0 from rfl), e1, ob_some, ob_some, ob_some, x_sign_f (cX_ne h3)]
          · rw [show f_m_isFull279 (Int32.ofNat 0) _ = _ from full_0 (c := nb) (by omega) (by rw [up_ne (by omega)]; exact Dm0), if_pos (by omega)]
      · by_cases hf : nc < 6
        · have hfu : f_m_isFull279 (Int32.ofNat 1) (ab_up1 Jm 47 4 (Int32.ofNat q)) = some 0 := by
            rw [show f_m_isFull279 (Int32.ofNat 1) _ = _ from full_1 (c := nc) (by omega) (by rw [up_ne (by omega)]; exact Dm1), if_neg (by omega)]
          have ej : ∀ j, J1 9 j = Jc 9 j := fun j => x2 _ _ (by omega)
          obtain ⟨st1, Kc, Km, b1, b2, b3, b4, b5, b6, b7⟩ := client_c (nc := nc) hf ((ej 6).trans Dc1) T0
          have e50 : ∀ j, Km 50 j = Jm 50 j := fun j => by rw [b5 _ _ (by omega) (by omega), up_ne (by omega), i3 _ _ (by omega)]
          obtain ⟨st2, Kf, Mf, c1, c2, c3, c4, c5, c6⟩ := fin4 (k := 1) (c := nc) (by decide) ((e50 1).trans Dm1) b3
          refine ⟨st2, Kf, Mf, hC _ ?_, hM _ hfu ?_, c3, ?_, ?_, fun q' hq' => ?_⟩
          · unfold scB
            rw [if_neg (by decide), if_pos (show Int32.ofNat 1 = 1 from rfl), b1, ob_some, ob_some, ob_some, c1]
          · unfold scT
            rw [if_neg (by decide), if_pos (show Int32.ofNat 1 = 1 from rfl), e7, i3 50 1 (by omega), Dm1]
            refine (congrArg (fun z => Option.bind (Option.bind z _) _) b2).trans ?_
            rw [ob_some]
            exact c2
          · intro a j h1 h2
            rw [c4 a j h1, b4 a j h1 (by omega) (by omega), x2 a j h1]
          · intro a j h1 h2 h3 h4 h5 h6
            rw [c5 a j (by omega) (by omega), b5 a j (by omega) (by omega), up_ne (by omega), i3 a j (by omega)]
          · obtain ⟨q1, d1, d2, d3, d4⟩ := c6 q' hq'
            obtain ⟨q0, v0, g1, g2, g3, g4, g5⟩ := b7 q1 d1
            have hq0 := Option.some.inj g1
            have kC : ∀ a j, ¬ (a = 1 ∧ (j = 2 ∨ j = 4 ∨ j = 5 ∨ j = 6)) → Kf a j = Kc a j := fun a j h => c4 a j h
            have kJ : ∀ a j, a ≠ 1 → ¬ (a = 9 ∧ j = 6) → ¬ (a = 12 ∧ j = nc) → Kf a j = Jc a j := fun a j h1 h2 h3 => by rw [kC a j (by omega), b4 a j (by omega) h2 h3, x2 a j (by omega)]
            have mK : ∀ a j, a ≠ 47 → ¬ (a = 50 ∧ j = 1) → Mf a j = Km a j := fun a j h1 h2 => c5 a j (by omega) h2
            have mJ : ∀ a j, a ≠ 47 → ¬ (a = 50 ∧ j = 1) → ¬ (a = 52 ∧ j = nc) → Mf a j = Jm a j := fun a j h1 h2 h3 => by rw [mK a j h1 h2, b5 a j (by omega) h3, up_ne (by omega), i3 a j (by omega)]
            refine ⟨by omega, d3, h60, nb, nc + 1, nw, no, se, ha, ⟨by omega, by omega, by omega, by omega, by omega, by omega, by omega, by omega⟩, ?_, ⟨(kJ 9 5 (by omega) (by omega) (by omega)).trans Dc0, (kC 9 6 (by omega)).trans b6, (kJ 9 7 (by omega) (by omega) (by omega)).trans Dc2, (kJ 9 8 (by omega) (by omega) (by omega)).trans Dc3, (kJ 9 9 (by omega) (by omega) (by omega)).trans Dc4, (kJ 9 10 (by omega) (by omega) (by omega)).trans Dc5⟩, ⟨(mJ 50 0 (by omega) (by omega) (by omega)).trans Dm0, d4, (mJ 50 2 (by omega) (by omega) (by omega)).trans Dm2, (mJ 50 3 (by omega) (by omega) (by omega)).trans Dm3, (mJ 50 4 (by omega) (by omega) (by omega)).trans Dm4, (mJ 50 5 (by omega) (by omega) (by omega)).trans Dm5⟩, ?_, ?_, ?_, ?_⟩
            · rw [c5 47 7 (by omega) (by omega), b5 47 7 (by omega) (by omega), up_eq]
            · exact sB_c DB (fun b hb => ⟨kJ _ _ (by omega) (by omega) (by omega), kJ _ _ (by omega) (by omega) (by omega)⟩) (fun b j hb => mJ _ _ (by omega) (by omega) (by omega))
            · intro b hb
              by_cases e : b = nc
              · subst e
                exact ⟨v0, g3, (kC _ _ (by omega)).trans g4, (mK _ _ (by omega) (by omega)).trans g5⟩
              · exact sC_c DC (fun b hb => kJ _ _ (by omega) (by omega) (by omega)) (fun b hb => mJ _ _ (by omega) (by omega) (by omega)) b (by omega)
            · exact sW_c DW (Nat.le_succ nc) (fun j hj => kJ _ _ (by omega) (by omega) (by omega)) (fun b j hb => mJ _ _ (by omega) (by omega) (by omega))
            · exact sO_c DO (Nat.le_succ nc) (fun j hj => kJ _ _ (by omega) (by omega) (by omega)) (fun b j hb => mJ _ _ (by omega) (by omega) (by omega))
        · refine bad3 ?_ (Or.inr ⟨h7, ?_⟩)
          · obtain ⟨J2, a1, a2, a3⟩ := nR_no (a := nc) (m := 6) (q := q) (J := J1) hf (by omega) y1.2.1 y2
            obtain ⟨J3, f1, f2⟩ := fl_client (cX_ne a2)
            have e1 : f_sho_readClient55 J1 = some J3 := by
              rw [← f1]
              unfold f_sho_readClient55
              rw [show J1 9 6 = Int32.ofNat nc from (x2 _ _ (by omega)).trans Dc1, show f_sho_needRoom52 (Int32.ofNat nc) 6 J1 = some J2 from a1, nR_f (cX_ne a2), ob_some]
            have h3 : cX J3 3 q := ⟨by omega, by rw [f2 _ _ (by omega)]; exact a2.2.1, by rw [f2 _ _ (by omega)]; exact a2.2.2⟩
            refine ⟨J3, h3, fun a j h1 h2 => by rw [f2 a j h2, a3 a j h1], hC _ ?_⟩
            unfold scB
            rw [if_neg (by decide), if_pos (show Int32.ofNat 1 = 1 from rfl), e1, ob_some, ob_some, ob_some, x_sign_f (cX_ne h3)]
          · rw [show f_m_isFull279 (Int32.ofNat 1) _ = _ from full_1 (c := nc) (by omega) (by rw [up_ne (by omega)]; exact Dm1), if_pos (by omega)]
      · by_cases hf : nw < 16
        · have hfu : f_m_isFull279 (Int32.ofNat 2) (ab_up1 Jm 47 4 (Int32.ofNat q)) = some 0 := by
            rw [show f_m_isFull279 (Int32.ofNat 2) _ = _ from full_2 (c := nw) (by omega) (by rw [up_ne (by omega)]; exact Dm2), if_neg (by omega)]
          have ej : ∀ j, J1 9 j = Jc 9 j := fun j => x2 _ _ (by omega)
          obtain ⟨st1, Kc, Km, b1, b2, b3, b4, b5, b6, b7⟩ := want_c (nc := nc) (nw := nw) l2 hf ((ej 6).trans Dc1) ((ej 7).trans Dc2) T0
          have e50 : ∀ j, Km 50 j = Jm 50 j := fun j => by rw [b5 _ _ (by omega) (by omega), up_ne (by omega), i3 _ _ (by omega)]
          obtain ⟨st2, Kf, Mf, c1, c2, c3, c4, c5, c6⟩ := fin4 (k := 2) (c := nw) (by decide) ((e50 2).trans Dm2) b3
          refine ⟨st2, Kf, Mf, hC _ ?_, hM _ hfu ?_, c3, ?_, ?_, fun q' hq' => ?_⟩
          · unfold scB
            rw [if_neg (by decide), if_neg (by decide), if_pos (show Int32.ofNat 2 = 2 from rfl), b1, ob_some, ob_some, ob_some, c1]
          · unfold scT
            rw [if_neg (by decide), if_neg (by decide), if_pos (show Int32.ofNat 2 = 2 from rfl), e7, i3 50 2 (by omega), Dm2, i3 50 1 (by omega), Dm1]
            refine (congrArg (fun z => Option.bind (Option.bind z _) _) b2).trans ?_
            rw [ob_some]
            exact c2
          · intro a j h1 h2
            rw [c4 a j h1, b4 a j h1 (by omega) (by omega), x2 a j h1]
          · intro a j h1 h2 h3 h4 h5 h6
            rw [c5 a j (by omega) (by omega), b5 a j (by omega) (by omega), up_ne (by omega), i3 a j (by omega)]
          · obtain ⟨q1, d1, d2, d3, d4⟩ := c6 q' hq'
            obtain ⟨q0, f, g1, g2, g3, g4⟩ := b7 q1 d1
            have hq0 := Option.some.inj g1
            have kC : ∀ a j, ¬ (a = 1 ∧ (j = 2 ∨ j = 4 ∨ j = 5 ∨ j = 6)) → Kf a j = Kc a j := fun a j h => c4 a j h
            have kJ : ∀ a j, a ≠ 1 → ¬ (a = 9 ∧ j = 7) → ¬ (a = 13 ∧ 5 * nw ≤ j ∧ j < 5 * nw + 5) → Kf a j = Jc a j := fun a j h1 h2 h3 => by rw [kC a j (by omega), b4 a j (by omega) h2 h3, x2 a j (by omega)]
            have mK : ∀ a j, a ≠ 47 → ¬ (a = 50 ∧ j = 2) → Mf a j = Km a j := fun a j h1 h2 => c5 a j (by omega) h2
            have mJ : ∀ a j, a ≠ 47 → ¬ (a = 50 ∧ j = 2) → a ≠ 77 + nw → Mf a j = Jm a j := fun a j h1 h2 h3 => by rw [mK a j h1 h2, b5 a j (by omega) h3, up_ne (by omega), i3 a j (by omega)]
            refine ⟨by omega, d3, h60, nb, nc, nw + 1, no, se, ha, ⟨by omega, by omega, by omega, by omega, by omega, by omega, by omega, by omega⟩, ?_, ⟨(kJ 9 5 (by omega) (by omega) (by omega)).trans Dc0, (kJ 9 6 (by omega) (by omega) (by omega)).trans Dc1, (kC 9 7 (by omega)).trans b6, (kJ 9 8 (by omega) (by omega) (by omega)).trans Dc3, (kJ 9 9 (by omega) (by omega) (by omega)).trans Dc4, (kJ 9 10 (by omega) (by omega) (by omega)).trans Dc5⟩, ⟨(mJ 50 0 (by omega) (by omega) (by omega)).trans Dm0, (mJ 50 1 (by omega) (by omega) (by omega)).trans Dm1, d4, (mJ 50 3 (by omega) (by omega) (by omega)).trans Dm3, (mJ 50 4 (by omega) (by omega) (by omega)).trans Dm4, (mJ 50 5 (by omega) (by omega) (by omega)).trans Dm5⟩, ?_, ?_, ?_, ?_⟩
            · rw [c5 47 7 (by omega) (by omega), b5 47 7 (by omega) (by omega), up_eq]
            · exact sB_c DB (fun b hb => ⟨kJ _ _ (by omega) (by omega) (by omega), kJ _ _ (by omega) (by omega) (by omega)⟩) (fun b j hb => mJ _ _ (by omega) (by omega) (by omega))
            · exact sC_c DC (fun b hb => kJ _ _ (by omega) (by omega) (by omega)) (fun b hb => mJ _ _ (by omega) (by omega) (by omega))
            · intro b hb
              by_cases e : b = nw
              · subst e
                exact ⟨f, g3, fun j hj => ⟨(kC _ _ (by omega)).trans (g4 j hj).1, (mK _ _ (by omega) (by omega)).trans (g4 j hj).2⟩⟩
              · exact sW_c DW (Nat.le_refl _) (fun j hj => kJ _ _ (by omega) (by omega) (by omega)) (fun b j hb => mJ _ _ (by omega) (by omega) (by omega)) b (by omega)
            · exact sO_c DO (Nat.le_refl _) (fun j hj => kJ _ _ (by omega) (by omega) (by omega)) (fun b j hb => mJ _ _ (by omega) (by omega) (by omega))
        · refine bad3 ?_ (Or.inr ⟨h7, ?_⟩)
          · obtain ⟨J2, a1, a2, a3⟩ := nR_no (a := nw) (m := 16) (q := q) (J := J1) hf (by omega) y1.2.1 y2
            obtain ⟨J3, f1, f2⟩ := fl_want (cX_ne a2)
            have e1 : f_sho_readWant56 J1 = some J3 := by
              rw [← f1]
              unfold f_sho_readWant56
              rw [show J1 9 7 = Int32.ofNat nw from (x2 _ _ (by omega)).trans Dc2, show f_sho_needRoom52 (Int32.ofNat nw) 16 J1 = some J2 from a1, nR_f (cX_ne a2), ob_some]
            have h3 : cX J3 3 q := ⟨by omega, by rw [f2 _ _ (by omega)]; exact a2.2.1, by rw [f2 _ _ (by omega)]; exact a2.2.2⟩
            refine ⟨J3, h3, fun a j h1 h2 => by rw [f2 a j h2, a3 a j h1], hC _ ?_⟩
            unfold scB
            rw [if_neg (by decide), if_neg (by decide), if_pos (show Int32.ofNat 2 = 2 from rfl), e1, ob_some, ob_some, ob_some, x_sign_f (cX_ne h3)]
          · rw [show f_m_isFull279 (Int32.ofNat 2) _ = _ from full_2 (c := nw) (by omega) (by rw [up_ne (by omega)]; exact Dm2), if_pos (by omega)]
      · by_cases hf : no < 8
        · have hfu : f_m_isFull279 (Int32.ofNat 3) (ab_up1 Jm 47 4 (Int32.ofNat q)) = some 0 := by
            rw [show f_m_isFull279 (Int32.ofNat 3) _ = _ from full_3 (c := no) (by omega) (by rw [up_ne (by omega)]; exact Dm3), if_neg (by omega)]
          have ej : ∀ j, J1 9 j = Jc 9 j := fun j => x2 _ _ (by omega)
          obtain ⟨st1, Kc, Km, b1, b2, b3, b4, b5, b6, b7⟩ := order_c (nc := nc) (no := no) l2 hf ((ej 6).trans Dc1) ((ej 8).trans Dc3) T0
          have e50 : ∀ j, Km 50 j = Jm 50 j := fun j => by rw [b5 _ _ (by omega) (by omega), up_ne (by omega), i3 _ _ (by omega)]
          obtain ⟨st2, Kf, Mf, c1, c2, c3, c4, c5, c6⟩ := fin4 (k := 3) (c := no) (by decide) ((e50 3).trans Dm3) b3
          refine ⟨st2, Kf, Mf, hC _ ?_, hM _ hfu ?_, c3, ?_, ?_, fun q' hq' => ?_⟩
          · unfold scB
            rw [if_neg (by decide), if_neg (by decide), if_neg (by decide), if_pos (show Int32.ofNat 3 = 3 from rfl), b1, ob_some, ob_some, ob_some, c1]
          · unfold scT
            rw [if_neg (by decide), if_neg (by decide), if_neg (by decide), if_pos (show Int32.ofNat 3 = 3 from rfl), e7, i3 50 3 (by omega), Dm3, i3 50 1 (by omega), Dm1]
            refine (congrArg (fun z => Option.bind (Option.bind z _) _) b2).trans ?_
            rw [ob_some]
            exact c2
          · intro a j h1 h2
            rw [c4 a j h1, b4 a j h1 (by omega) (by omega), x2 a j h1]
          · intro a j h1 h2 h3 h4 h5 h6
            rw [c5 a j (by omega) (by omega), b5 a j (by omega) (by omega), up_ne (by omega), i3 a j (by omega)]
          · obtain ⟨q1, d1, d2, d3, d4⟩ := c6 q' hq'
            obtain ⟨q0, f, g1, g2, g3, g4⟩ := b7 q1 d1
            have hq0 := Option.some.inj g1
            have kC : ∀ a j, ¬ (a = 1 ∧ (j = 2 ∨ j = 4 ∨ j = 5 ∨ j = 6)) → Kf a j = Kc a j := fun a j h => c4 a j h
            have kJ : ∀ a j, a ≠ 1 → ¬ (a = 9 ∧ j = 8) → ¬ (a = 14 ∧ 5 * no ≤ j ∧ j < 5 * no + 5) → Kf a j = Jc a j := fun a j h1 h2 h3 => by rw [kC a j (by omega), b4 a j (by omega) h2 h3, x2 a j (by omega)]
            have mK : ∀ a j, a ≠ 47 → ¬ (a = 50 ∧ j = 3) → Mf a j = Km a j := fun a j h1 h2 => c5 a j (by omega) h2
            have mJ : ∀ a j, a ≠ 47 → ¬ (a = 50 ∧ j = 3) → a ≠ 111 + no → Mf a j = Jm a j := fun a j h1 h2 h3 => by rw [mK a j h1 h2, b5 a j (by omega) h3, up_ne (by omega), i3 a j (by omega)]
            refine ⟨by omega, d3, h60, nb, nc, nw, no + 1, se, ha, ⟨by omega, by omega, by omega, by omega, by omega, by omega, by omega, by omega⟩, ?_, ⟨(kJ 9 5 (by omega) (by omega) (by omega)).trans Dc0, (kJ 9 6 (by omega) (by omega) (by omega)).trans Dc1, (kJ 9 7 (by omega) (by omega) (by omega)).trans Dc2, (kC 9 8 (by omega)).trans b6, (kJ 9 9 (by omega) (by omega) (by omega)).trans Dc4, (kJ 9 10 (by omega) (by omega) (by omega)).trans Dc5⟩, ⟨(mJ 50 0 (by omega) (by omega) (by omega)).trans Dm0, (mJ 50 1 (by omega) (by omega) (by omega)).trans Dm1, (mJ 50 2 (by omega) (by omega) (by omega)).trans Dm2, d4, (mJ 50 4 (by omega) (by omega) (by omega)).trans Dm4, (mJ 50 5 (by omega) (by omega) (by omega)).trans Dm5⟩, ?_, ?_, ?_, ?_⟩
            · rw [c5 47 7 (by omega) (by omega), b5 47 7 (by omega) (by omega), up_eq]
            · exact sB_c DB (fun b hb => ⟨kJ _ _ (by omega) (by omega) (by omega), kJ _ _ (by omega) (by omega) (by omega)⟩) (fun b j hb => mJ _ _ (by omega) (by omega) (by omega))
            · exact sC_c DC (fun b hb => kJ _ _ (by omega) (by omega) (by omega)) (fun b hb => mJ _ _ (by omega) (by omega) (by omega))
            · exact sW_c DW (Nat.le_refl _) (fun j hj => kJ _ _ (by omega) (by omega) (by omega)) (fun b j hb => mJ _ _ (by omega) (by omega) (by omega))
            · intro b hb
              by_cases e : b = no
              · subst e
                exact ⟨f, g3, fun j hj => ⟨(kC _ _ (by omega)).trans (g4 j hj).1, (mK _ _ (by omega) (by omega)).trans (g4 j hj).2⟩⟩
              · exact sO_c DO (Nat.le_refl _) (fun j hj => kJ _ _ (by omega) (by omega) (by omega)) (fun b j hb => mJ _ _ (by omega) (by omega) (by omega)) b (by omega)
        · refine bad3 ?_ (Or.inr ⟨h7, ?_⟩)
          · obtain ⟨J2, a1, a2, a3⟩ := nR_no (a := no) (m := 8) (q := q) (J := J1) hf (by omega) y1.2.1 y2
            obtain ⟨J3, f1, f2⟩ := fl_order (cX_ne a2)
            have e1 : f_sho_readOrder57 J1 = some J3 := by
              rw [← f1]
              unfold f_sho_readOrder57
              rw [show J1 9 8 = Int32.ofNat no from (x2 _ _ (by omega)).trans Dc3, show f_sho_needRoom52 (Int32.ofNat no) 8 J1 = some J2 from a1, nR_f (cX_ne a2), ob_some]
            have h3 : cX J3 3 q := ⟨by omega, by rw [f2 _ _ (by omega)]; exact a2.2.1, by rw [f2 _ _ (by omega)]; exact a2.2.2⟩
            refine ⟨J3, h3, fun a j h1 h2 => by rw [f2 a j h2, a3 a j h1], hC _ ?_⟩
            unfold scB
            rw [if_neg (by decide), if_neg (by decide), if_neg (by decide), if_pos (show Int32.ofNat 3 = 3 from rfl), e1, ob_some, ob_some, ob_some, x_sign_f (cX_ne h3)]
          · rw [show f_m_isFull279 (Int32.ofNat 3) _ = _ from full_3 (c := no) (by omega) (by rw [up_ne (by omega)]; exact Dm3), if_pos (by omega)]
      · have hfu : f_m_isFull279 (Int32.ofNat 4) (ab_up1 Jm 47 4 (Int32.ofNat q)) = some 0 := full_4
        obtain ⟨s5, vc, vm, C5, M5, c5, m5, t5, f5, g5, d5⟩ := tt_number (loc := 0) (hic := 9) (lom := 0) (him := 9) T0 (fun _ _ => ⟨0, 10, by decide, by decide, rfl, rfl, rfl, rfl⟩)
        obtain ⟨M6, h6, h6b, h6c⟩ : ∃ M6, (if M5 47 5 = 0 then some (ab_up1 M5 50 4 vm) else some M5) = some M6 ∧ (∀ a j, ¬ (a = 50 ∧ j = 4) → M6 a j = M5 a j) ∧ (∀ q', s5 = some q' → M6 50 4 = vm) := by
          cases s5 with
          | some q5 => exact ⟨_, if_pos (TT_some t5).2.1, fun a j h => up_ne h, fun _ _ => up_eq⟩
          | none => exact ⟨_, if_neg (TT_none t5).2, fun _ _ _ => rfl, fun _ h => by cases h⟩
        have t6 : TT B n s5 (ab_up1 C5 9 9 vc) M6 := TT_c (TT_cu (a := 9) (k := 9) (x := vc) t5 (by decide) (by decide)) (fun _ _ _ => rfl) (fun _ => rfl) ⟨h6b _ _ (by omega), h6b _ _ (by omega), h6b _ _ (by omega), h6b _ _ (by omega)⟩ (fun j => h6b _ _ (by omega))
        obtain ⟨st2, Kf, Mf, c1, c2, c3, c4, b5, b6⟩ := fin5 (k := 4) (by decide) t6
        refine ⟨st2, Kf, Mf, hC _ ?_, hM _ hfu ?_, c3, ?_, ?_, fun q' hq' => ?_⟩
        · unfold scB
          rw [if_neg (by decide), if_neg (by decide), if_neg (by decide), if_neg (by decide), if_pos (show Int32.ofNat 4 = 4 from rfl), c5, ob_some]
          try dsimp only
          rw [ob_some, ob_some, c1]
        · unfold scT
          rw [if_neg (by decide), if_neg (by decide), if_neg (by decide), if_neg (by decide), if_pos (show Int32.ofNat 4 = 4 from rfl), e7, m5, ob_some]
          try dsimp only
          rw [h6, ob_some]
          exact c2
        · intro a j h1 h2
          rw [c4 a j h1, up_ne (by omega), f5 a j h1, x2 a j h1]
        · intro a j h1 h2 h3 h4 h5 h6
          rw [b5 a j (by omega), h6b a j (by omega), g5 a j (by omega), up_ne (by omega), i3 a j (by omega)]
        · obtain ⟨q1, d1, d2, d3⟩ := b6 q' hq'
          obtain ⟨q0, v, g1, g2, rfl, rfl, g4⟩ := d5 q1 d1
          have hq0 := Option.some.inj g1
          have hv := g4 0 10 (by decide) (by decide) rfl rfl
          have kJ : ∀ a j, a ≠ 1 → ¬ (a = 9 ∧ j = 9) → Kf a j = Jc a j := fun a j h1 h2 => by rw [c4 a j (by omega), up_ne h2, f5 a j (by omega), x2 a j (by omega)]
          have mJ : ∀ a j, a ≠ 47 → ¬ (a = 50 ∧ j = 4) → Mf a j = Jm a j := fun a j h1 h2 => by rw [b5 a j (by omega), h6b a j h2, g5 a j (by omega), up_ne (by omega), i3 a j (by omega)]
          refine ⟨by omega, d3, h60, nb, nc, nw, no, v, ha, ⟨by omega, by omega, by omega, by omega, by omega, by omega, by omega, by omega⟩, ?_, ⟨(kJ 9 5 (by omega) (by omega)).trans Dc0, (kJ 9 6 (by omega) (by omega)).trans Dc1, (kJ 9 7 (by omega) (by omega)).trans Dc2, (kJ 9 8 (by omega) (by omega)).trans Dc3, by rw [c4 9 9 (by omega), up_eq], (kJ 9 10 (by omega) (by omega)).trans Dc5⟩, ⟨(mJ 50 0 (by omega) (by omega)).trans Dm0, (mJ 50 1 (by omega) (by omega)).trans Dm1, (mJ 50 2 (by omega) (by omega)).trans Dm2, (mJ 50 3 (by omega) (by omega)).trans Dm3, by rw [b5 50 4 (by omega), h6c q1 d1], (mJ 50 5 (by omega) (by omega)).trans Dm5⟩, ?_, ?_, ?_, ?_⟩
          · rw [b5 47 7 (by omega), h6b 47 7 (by omega), g5 47 7 (by omega), up_eq]
          · exact sB_c DB (fun b hb => ⟨kJ _ _ (by omega) (by omega), kJ _ _ (by omega) (by omega)⟩) (fun b j hb => mJ _ _ (by omega) (by omega))
          · exact sC_c DC (fun b hb => kJ _ _ (by omega) (by omega)) (fun b hb => mJ _ _ (by omega) (by omega))
          · exact sW_c DW (Nat.le_refl _) (fun j hj => kJ _ _ (by omega) (by omega)) (fun b j hb => mJ _ _ (by omega) (by omega))
          · exact sO_c DO (Nat.le_refl _) (fun j hj => kJ _ _ (by omega) (by omega)) (fun b j hb => mJ _ _ (by omega) (by omega))
      · have hfu : f_m_isFull279 (Int32.ofNat 5) (ab_up1 Jm 47 4 (Int32.ofNat q)) = some 0 := full_5
        obtain ⟨s5, vc, vm, C5, M5, c5, m5, t5, f5, g5, d5⟩ := tt_number (loc := 1) (hic := 24) (lom := 1) (him := 24) T0 (fun _ _ => ⟨1, 25, by decide, by decide, rfl, rfl, rfl, rfl⟩)
        obtain ⟨M6, h6, h6b, h6c⟩ : ∃ M6, (if M5 47 5 = 0 then some (ab_up1 M5 50 5 vm) else some M5) = some M6 ∧ (∀ a j, ¬ (a = 50 ∧ j = 5) → M6 a j = M5 a j) ∧ (∀ q', s5 = some q' → M6 50 5 = vm) := by
          cases s5 with
          | some q5 => exact ⟨_, if_pos (TT_some t5).2.1, fun a j h => up_ne h, fun _ _ => up_eq⟩
          | none => exact ⟨_, if_neg (TT_none t5).2, fun _ _ _ => rfl, fun _ h => by cases h⟩
        have t6 : TT B n s5 (ab_up1 C5 9 10 vc) M6 := TT_c (TT_cu (a := 9) (k := 10) (x := vc) t5 (by decide) (by decide)) (fun _ _ _ => rfl) (fun _ => rfl) ⟨h6b _ _ (by omega), h6b _ _ (by omega), h6b _ _ (by omega), h6b _ _ (by omega)⟩ (fun j => h6b _ _ (by omega))
        obtain ⟨st2, Kf, Mf, c1, c2, c3, c4, b5, b6⟩ := fin5 (k := 5) (by decide) t6
        refine ⟨st2, Kf, Mf, hC _ ?_, hM _ hfu ?_, c3, ?_, ?_, fun q' hq' => ?_⟩
        · unfold scB
          rw [if_neg (by decide), if_neg (by decide), if_neg (by decide), if_neg (by decide), if_neg (by decide), if_pos (show Int32.ofNat 5 = 5 from rfl), c5, ob_some]
          try dsimp only
          rw [ob_some, ob_some, c1]
        · unfold scT
          rw [if_neg (by decide), if_neg (by decide), if_neg (by decide), if_neg (by decide), if_neg (by decide), e7, m5, ob_some]
          try dsimp only
          rw [h6, ob_some]
          exact c2
        · intro a j h1 h2
          rw [c4 a j h1, up_ne (by omega), f5 a j h1, x2 a j h1]
        · intro a j h1 h2 h3 h4 h5 h6
          rw [b5 a j (by omega), h6b a j (by omega), g5 a j (by omega), up_ne (by omega), i3 a j (by omega)]
        · obtain ⟨q1, d1, d2, d3⟩ := b6 q' hq'
          obtain ⟨q0, v, g1, g2, rfl, rfl, g4⟩ := d5 q1 d1
          have hq0 := Option.some.inj g1
          have hv := g4 1 25 (by decide) (by decide) rfl rfl
          have kJ : ∀ a j, a ≠ 1 → ¬ (a = 9 ∧ j = 10) → Kf a j = Jc a j := fun a j h1 h2 => by rw [c4 a j (by omega), up_ne h2, f5 a j (by omega), x2 a j (by omega)]
          have mJ : ∀ a j, a ≠ 47 → ¬ (a = 50 ∧ j = 5) → Mf a j = Jm a j := fun a j h1 h2 => by rw [b5 a j (by omega), h6b a j h2, g5 a j (by omega), up_ne (by omega), i3 a j (by omega)]
          refine ⟨by omega, d3, h60, nb, nc, nw, no, se, v, ⟨by omega, by omega, by omega, by omega, by omega, by omega, by omega, by omega⟩, ?_, ⟨(kJ 9 5 (by omega) (by omega)).trans Dc0, (kJ 9 6 (by omega) (by omega)).trans Dc1, (kJ 9 7 (by omega) (by omega)).trans Dc2, (kJ 9 8 (by omega) (by omega)).trans Dc3, (kJ 9 9 (by omega) (by omega)).trans Dc4, by rw [c4 9 10 (by omega), up_eq]⟩, ⟨(mJ 50 0 (by omega) (by omega)).trans Dm0, (mJ 50 1 (by omega) (by omega)).trans Dm1, (mJ 50 2 (by omega) (by omega)).trans Dm2, (mJ 50 3 (by omega) (by omega)).trans Dm3, (mJ 50 4 (by omega) (by omega)).trans Dm4, by rw [b5 50 5 (by omega), h6c q1 d1]⟩, ?_, ?_, ?_, ?_⟩
          · rw [b5 47 7 (by omega), h6b 47 7 (by omega), g5 47 7 (by omega), up_eq]
          · exact sB_c DB (fun b hb => ⟨kJ _ _ (by omega) (by omega), kJ _ _ (by omega) (by omega)⟩) (fun b j hb => mJ _ _ (by omega) (by omega))
          · exact sC_c DC (fun b hb => kJ _ _ (by omega) (by omega)) (fun b hb => mJ _ _ (by omega) (by omega))
          · exact sW_c DW (Nat.le_refl _) (fun j hj => kJ _ _ (by omega) (by omega)) (fun b j hb => mJ _ _ (by omega) (by omega))
          · exact sO_c DO (Nat.le_refl _) (fun j hj => kJ _ _ (by omega) (by omega)) (fun b j hb => mJ _ _ (by omega) (by omega))
    · have hi : i = 60 := by omega
      refine bad3 ?_ (Or.inl ?_)
      · obtain ⟨J2, a1, a2, a3⟩ := x_fail_s (k := 3) (w := q) (J := J1) (by omega) y1.2.1
        obtain ⟨J3, f1, f2⟩ := fl_body hk6 (cX_ne a2)
        have h3 : cX J3 3 q := ⟨by omega, by rw [f2 _ _ (by omega)]; exact a2.2.1, by rw [f2 _ _ (by omega)]; exact a2.2.2⟩
        refine ⟨J3, h3, fun a j h1 h2 => by rw [f2 a j h2, a3 a j h1], ?_⟩
        unfold f_sho_readClause44
        rw [x1, ob_some]
        try dsimp only
        rw [if_neg (show ¬ Int32.ofNat i < (60 : Int32) from nlt_l (b := 60) h60 (by omega) (by decide)), y2, show f_tap_fail50 3 (Int32.ofNat q) J1 = some J2 from a1, ob_some, ob_some]
        refine (congrArg (fun z => Option.bind (Option.bind z _) _) (show scB (oI (some k)) J2 = some J3 from f1)).trans ?_
        rw [ob_some, ob_some, x_sign_f (cX_ne h3)]
      · rw [up_ne (by omega), D7, hi]
        rfl
  · rw [w] at x1 k1
    obtain ⟨K2, z1, z2, z3⟩ := m_wrong_s (B := B) (n := n) (k := 1) (w := q) (p := q) (J := ab_up1 Jm 47 4 (Int32.ofNat q)) (by omega) r4.2.1 r4.1 r1 up_eq
    obtain ⟨K3, b1, b2, b3⟩ := mX_blanks z2
    refine ⟨none, J1, K3, ?_, ?_, ⟨1, q, y1, b2⟩, fcS_1 (fun _ _ _ _ => rfl) x2, fmS_1 (fmS_1 (fmS_1 (fun _ _ _ _ _ _ _ _ => rfl) (fr47_up fr47_rf (by omega))) z3) b3, fun q' h => by cases h⟩
    · unfold f_sho_readClause44
      rw [x1, ob_some]
      try dsimp only
      have e : (if Int32.ofNat i < (60 : Int32) then some J1 else Option.bind (f_tap_fail50 3 (J1 1 4) J1) fun I10 => some I10) = some J1 := by
        rw [x_fail_f (cX_ne y1), ob_some]
        split <;> rfl
      rw [e, ob_some, if_neg (show ¬ oI none = 0 by decide), if_neg (show ¬ oI none = 1 by decide), if_neg (show ¬ oI none = 2 by decide), if_neg (show ¬ oI none = 3 by decide), if_neg (show ¬ oI none = 4 by decide), if_neg (show ¬ oI none = 5 by decide), ob_some, ob_some, x_sign_f (cX_ne y1)]
    · unfold f_m_clause272
      rw [k1, ob_some]
      try dsimp only
      rw [if_pos (show oI none = -1 from rfl), up_eq, show f_m_wrong278 1 (Int32.ofNat q) _ = some K2 from z1, ob_some, ob_some, if_neg (mX_ne z2), ob_some, b1]
end ONE
