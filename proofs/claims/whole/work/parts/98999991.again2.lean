section AGSTEP2
variable {B : Nat → Nat} {n : Nat}
theorem step_again {d c q n1 n3 : Nat} {rc : Int32 → MJ → Option MJ} {rm : MJ → Option MJ} {Jc Jm : MJ} (hn : n ≤ 200) (hd : d ≤ 6) (HC : d < 6 → HCw B n n1 n3 rc rm d) (t : TT B n (some q) Jc Jm) (h8 : Jm 47 8 = Int32.ofNat d) (hk : wIx wLT (wdW B n q) = some 6) (c29 : Jc 29 1 = Int32.ofNat c) (m34 : Jm 47 34 = Int32.ofNat c) (h4c : 4 * c ≤ q) (hS : shN n1 n3 Jc Jm) (hw : q + 4 ≤ wdE B n q) : ∃ st Kc Km, (Option.bind (F_pla_readStep96 rc (Int32.ofNat d) Jc) fun I5 => f_tap_sign58 (59 : Int32) I5) = some Kc ∧ F_m_readsStep300 rm Jm = some Km ∧ TT B n st Kc Km ∧ fcV c Jc Kc ∧ fmV c Jm Km ∧ ∀ q', st = some q' → q < q' ∧ Km 47 8 = Int32.ofNat d ∧ ∃ c', 4 * c' ≤ q' ∧ stN n1 n3 d c c' Kc Km := by
  obtain ⟨S1, S2, S3, S4⟩ := hS
  have hc := t.1
  have hm := t.2
  obtain ⟨g1, g2, g3, g4⟩ := mR_blanks hm
  have hwd := wdE_ge (B := B) (n := n) g1
  have hsk := sk_le (B := B) hwd.2
  obtain ⟨J2, y1, y2, y3⟩ := xw_5 hc
  have sh := m_stepHere hm
  rw [hk] at y1 y3 sh
  have y45 : cR B n J2 (sk B n (wdE B n q)) ∧ J2 1 4 = Int32.ofNat q := by
    rcases y3 with ⟨k, z, y4, y5⟩ | ⟨z, -⟩
    · exact ⟨y4, y5⟩
    · cases z
  obtain ⟨y4, y5⟩ := y45
  have hc50 : c < 50 := by omega
  have e29 : J2 29 1 = Int32.ofNat c := by rw [y2 _ _ (by omega)]; exact c29
  have op := m_opens (B := B) (n := n) hd g4 up_eq (by rw [up_ne (by omega)]; exact h8)
  generalize hI : ab_up1 (ab_up1 J2 29 1 (Int32.ofNat (c + 1))) 30 (4 * c + 0) (Int32.ofNat 6) = I2
  have fI : ∀ a j, ¬ (a = 1 ∧ (j = 2 ∨ j = 4 ∨ j = 5 ∨ j = 6)) → ¬ (a = 30 ∧ j = 4 * c) → ¬ (a = 29 ∧ j = 1) → I2 a j = Jc a j := fun a j z1 z2 z3 => by rw [← hI, up_ne (by omega), up_ne z3, y2 a j z1]
  have i29 : I2 29 1 = Int32.ofNat (c + 1) := by rw [← hI, up_ne (by omega), up_eq]
  have i14 : I2 1 4 = Int32.ofNat q := by rw [← hI, up_ne (by omega), up_ne (by omega)]; exact y5
  have hC : ∀ R, (Option.bind (F_pla_readAgain98 rc (Int32.ofNat d) (Int32.ofNat c) I2) fun b => f_tap_sign58 (59 : Int32) b) = R → (Option.bind (F_pla_readStep96 rc (Int32.ofNat d) Jc) fun I5 => f_tap_sign58 (59 : Int32) I5) = R := fun R r => by
    unfold F_pla_readStep96
    rw [y1, ob_some]
    try dsimp only
    rw [e29, i_addr, show f_pla_write97 (Int32.ofNat c) 0 (oI (some 6)) (ab_up1 J2 29 1 (Int32.ofNat (c + 1))) = some I2 from by rw [← hI]; exact x_stCell (j := 0) (by omega) (by decide), ob_some, if_pos (show oI (some 6) = (6 : Int32) from rfl), b_some]
    refine Eq.trans ?_ r
    cases F_pla_readAgain98 rc (Int32.ofNat d) (Int32.ofNat c) I2 with
    | none => rfl
    | some z =>
      rw [ob_some, ob_some, if_neg (show ¬ oI (some 6) = (0 : Int32) by decide), if_neg (show ¬ oI (some 6) = (1 : Int32) by decide), ob_some, ob_some]
  by_cases h6 : d < 6
  · have g5 : mR B n (ab_up1 (ab_up1 Jm 47 4 (Int32.ofNat q)) 47 8 (Int32.ofNat (d + 1))) q := ⟨mE_up g4.1 (by decide) (by decide), by rw [up_ne (by omega)]; exact g4.2.1, by rw [up_ne (by omega)]; exact g4.2.2.1, by
      obtain ⟨p, hp, e, e2⟩ := g4.2.2.2
      exact ⟨p, hp, by rw [up_ne (by omega)]; exact e, e2⟩⟩
    obtain ⟨s1, s2⟩ := m_skipWord g5 (by rw [up_ne (by omega), up_eq])
    generalize hK1 : ab_up1 (ab_up1 (ab_up1 Jm 47 4 (Int32.ofNat q)) 47 8 (Int32.ofNat (d + 1))) 47 4 (Int32.ofNat (wdE B n q)) = K1 at s1 s2
    have fK1 : ∀ a j, ¬ (a = 47 ∧ (j = 4 ∨ j = 8)) → K1 a j = Jm a j := fun a j z => by rw [← hK1, up_ne (by omega), up_ne (by omega), up_ne (by omega)]
    have k18 : K1 47 8 = Int32.ofNat (d + 1) := by rw [← hK1, up_ne (by omega), up_eq]
    generalize hK : ab_up1 (ab_up1 K1 47 34 (Int32.ofNat (c + 1))) (496 + c) 0 (Int32.ofNat 6) = K2
    have fK : ∀ a j, ¬ (a = 47 ∧ (j = 4 ∨ j = 8 ∨ j = 34)) → ¬ (a = 496 + c ∧ j = 0) → K2 a j = Jm a j := fun a j z1 z2 => by rw [← hK, up_ne z2, up_ne (by omega), fK1 a j (by omega)]
    have k28 : K2 47 8 = Int32.ofNat (d + 1) := by rw [← hK, up_ne (by omega), up_ne (by omega)]; exact k18
    have k234 : K2 47 34 = Int32.ofNat (c + 1) := by rw [← hK, up_ne (by omega), up_eq]
    have t0 : TT B n (some (sk B n (wdE B n q))) I2 K2 := by
      rw [← hI, ← hK]
      exact TT_mu (TT_mu (TT_cu (TT_cu (st := some _) ⟨y4, s2⟩ (by decide) (by decide)) (by decide) (by decide)) (by omega) (by omega)) (by omega) (by omega)
    obtain ⟨st, C3, M3, a1, a2, a3, a4, a5, a6⟩ := again_mid hc50 (HC h6) t0 k28 i29 k234 (by omega) ⟨by rw [fI _ _ (by omega) (by omega) (by omega)]; exact S1, by rw [fI _ _ (by omega) (by omega) (by omega)]; exact S2, by rw [fK _ _ (by omega) (by omega)]; exact S3, by rw [fK _ _ (by omega) (by omega)]; exact S4⟩
    have t4 : TT B n st (ab_up1 C3 30 (4 * c + 2) (C3 29 1)) (ab_up1 (ab_up1 M3 47 8 (M3 47 8 - 1)) (496 + c) 4 (M3 47 34)) := TT_mu (TT_mu (TT_cu a3 (by decide) (by decide)) (by omega) (by omega)) (by omega) (by omega)
    obtain ⟨st5, C5, M5, b1, b2, b3, b4, b5, b6⟩ := tt_sign (c := 59) (by decide) t4
    refine ⟨st5, C5, M5, hC _ ?_, ?_, b3, fun a j z1 z2 z3 => by rw [b4 a j z1, up_ne (by omega), a4 a j z1 (by omega) z3, fI a j z1 (by omega) z3], fun a j z1 z2 => by rw [b5 a j (by omega), up_ne (by omega), up_ne (by omega), a5 a j z1 (by omega) (by omega), fK a j (by omega) (by omega)], fun q' e => ?_⟩
    · unfold F_pla_readAgain98
      rw [if_pos (show Int32.ofNat d < (6 : Int32) from lt_l (b := 6) h6 (by decide)), ob_some, show Int32.ofNat d + (1 : Int32) = Int32.ofNat (d + 1) from i_addr]
      obtain ⟨w, w1, w2⟩ := b_inv a1
      obtain ⟨C1, w3, w4⟩ := b_inv w2
      obtain ⟨C2, w5, w6⟩ := b_inv w4
      obtain ⟨v, w7, w8⟩ := b_inv w6
      obtain ⟨x, w9, w10⟩ := b_inv w8
      rw [w1, ob_some, w3, ob_some, w5, ob_some, w7, ob_some, w9, ob_some, w10, ob_some, show f_pla_write97 (Int32.ofNat c) 2 (C3 29 1) C3 = _ from x_stCell (j := 2) (by omega) (by decide), ob_some, ob_some]
      exact b1
    · unfold F_m_readsStep300
      rw [sh, ob_some]
      try dsimp only
      rw [if_neg (show ¬ oI (some 6) = (-1 : Int32) by decide), ob_some, if_pos (show oI (some 6) = (6 : Int32) from rfl), op.1 h6, ob_some]
      try dsimp only
      rw [if_neg (show ¬ (1 : Int32) = 0 by decide), if_pos g5.2.1, s1, ob_some, show K1 47 34 = Int32.ofNat c from by rw [fK1 _ _ (by omega)]; exact m34, rdp_495 (by omega), ob_some, i_addr, show wr (ab_up1 K1 47 34 (Int32.ofNat (c + 1))) (496 + c) 0 (oI (some 6)) = some K2 from by rw [← hK]; exact wrr_495 (k := 0) (by omega) (by decide), ob_some, if_neg (show ¬ oI (some 6) < (4 : Int32) by decide), ob_some, if_neg (show ¬ oI (some 6) = (0 : Int32) by decide), ob_some, if_neg (show ¬ oI (some 6) = (1 : Int32) by decide), ob_some, if_neg (show ¬ oI (some 6) = (4 : Int32) by decide), ob_some, if_pos (show oI (some 6) = (6 : Int32) from rfl)]
      obtain ⟨w, w1, w2⟩ := b_inv a2
      obtain ⟨N1, w3, w4⟩ := b_inv w2
      obtain ⟨N2, w5, w6⟩ := b_inv w4
      obtain ⟨N3, w7, w8⟩ := b_inv w6
      obtain ⟨N4, w9, w10⟩ := b_inv w8
      rw [w1, ob_some, w3, ob_some, w5, ob_some, w7, ob_some]
      refine (congrArg (fun z => Option.bind (Option.bind z _) _) (show wh (nlM (fun _ s => rm s) 0) N3 = some N4 from w9)).trans ?_
      rw [ob_some, w10, ob_some, ob_some, show (ab_up1 M3 47 8 (M3 47 8 - 1)) 47 34 = M3 47 34 from up_ne (by omega), show wr (ab_up1 M3 47 8 (M3 47 8 - 1)) (496 + c) 4 (M3 47 34) = some (ab_up1 (ab_up1 M3 47 8 (M3 47 8 - 1)) (496 + c) 4 (M3 47 34)) from wrr_495 (k := 4) (by omega) (by decide), ob_some, show f_m_sign285 59 _ = some M5 from b2, ob_some]
    · obtain ⟨q2, w1, w2⟩ := b6 q' e
      obtain ⟨z1, z2, ⟨v, z3, z4, z5⟩, c', z6, L1, L2, L3, L4, L5⟩ := a6 q2 w1
      have hq' : q' ≤ n := by rw [e] at b3; exact (TT_some b3).2.2
      have cK : ∀ j, j ≠ 4 * c + 2 → C5 30 j = C3 30 j := fun j hj => by rw [b4 _ _ (by omega), up_ne (by omega)]
      have mK : ∀ k j, ¬ (k = c ∧ j = 4) → M5 (496 + k) j = M3 (496 + k) j := fun k j hj => by rw [b5 _ _ (by omega), up_ne (by omega), up_ne (by omega)]
      have m4 : M5 (496 + c) 4 = Int32.ofNat c' := by rw [b5 _ _ (by omega), up_eq]; exact L3
      have c2 : C5 30 (4 * c + 2) = Int32.ofNat c' := by rw [b4 _ _ (by omega), up_eq]; exact L2
      have m0 : M5 (496 + c) 0 = Int32.ofNat 6 := by rw [mK _ _ (by omega), a5 _ _ (by omega) (by omega) (by omega), ← hK, up_eq]
      have c0 : C5 30 (4 * c) = Int32.ofNat 6 := by rw [cK _ (by omega), a4 _ _ (by omega) (by omega) (by omega), ← hI, show 4 * c = 4 * c + 0 by omega, up_eq]
      refine ⟨by omega, ?_, c', by omega, by omega, ?_, ?_, fun k k1 k2 => ?_, WN_rep m0 m4 (by omega) h6 (WN_c L5 fun k j x1 x2 => mK k j (by omega))⟩
      · rw [b5 _ _ (by omega), up_ne (by omega), up_eq, z2]
        exact (i_sub (b := 1) (by omega)).trans (congrArg Int32.ofNat (by omega))
      · rw [b4 _ _ (by omega), up_ne (by omega)]; exact L2
      · rw [b5 _ _ (by omega), up_ne (by omega), up_ne (by omega)]; exact L3
      · by_cases ek : k = c
        · subst ek
          exact ⟨6, by decide, c0, m0, fun z => by omega, fun z => by omega, fun z => by omega, fun z => by omega, fun _ => ⟨v, z3, by rw [cK _ (by omega)]; exact z4, by rw [mK _ _ (by omega)]; exact z5⟩, c', by omega, by omega, m4, fun z => absurd rfl z, fun _ => c2⟩
        · exact rowR_c (L4 k (by omega) k2) (fun j x1 x2 => cK _ (by omega)) (fun j => mK _ _ (by omega))
  · have h6' : d = 6 := by omega
    subst h6'
    obtain ⟨K3, o1, o2, o3⟩ := op.2 rfl
    have i15 : I2 1 5 = 0 := by rw [← hI, up_ne (by omega), up_ne (by omega)]; exact y4.2.1
    obtain ⟨J3, a1, a2, a3⟩ := x_fail_s (k := 3) (w := q) (J := I2) (by omega) i15
    have f4 : ∀ x y : Int32, ∀ a j, ¬ (a = 30 ∧ 4 * c < j) → (ab_up1 (ab_up1 J3 30 (4 * c + 1) x) 30 (4 * c + 2) y) a j = J3 a j := fun x y a j z => by rw [up_ne (by omega), up_ne (by omega)]
    have f5 : ¬ (ab_up1 J3 30 (4 * c + 1) 0) 1 5 = 0 := by rw [up_ne (by omega)]; exact cX_ne a2
    refine ⟨none, ab_up1 (ab_up1 J3 30 (4 * c + 1) 0) 30 (4 * c + 2) (Int32.ofNat (c + 1)), K3, hC _ ?_, ?_, ⟨3, q, ⟨a2.1, by rw [f4 _ _ _ _ (by omega)]; exact a2.2.1, by rw [f4 _ _ _ _ (by omega)]; exact a2.2.2⟩, o2⟩, fun a j z1 z2 z3 => by rw [f4 _ _ a j (by omega), a3 a j z1, fI a j z1 (by omega) z3], fun a j z1 z2 => by rw [o3 a j (by omega), up_ne (by omega)], fun q' e => by cases e⟩
    · unfold F_pla_readAgain98
      rw [if_neg (show ¬ Int32.ofNat 6 < (6 : Int32) by decide), i14, show f_tap_fail50 3 (Int32.ofNat q) I2 = some J3 from a1, ob_some, ob_some, x_number_f (cX_ne a2), ob_some]
      try dsimp only
      rw [show f_pla_write97 (Int32.ofNat c) 1 0 J3 = some (ab_up1 J3 30 (4 * c + 1) 0) from x_stCell (j := 1) (by omega) (by decide), ob_some, x_sign_f f5, ob_some, x_sound, if_neg f5, ob_some, if_pos rfl, ob_some, x_sign_f f5, ob_some, show (ab_up1 J3 30 (4 * c + 1) 0) 29 1 = Int32.ofNat (c + 1) from by rw [up_ne (by omega), a3 _ _ (by omega)]; exact i29, show f_pla_write97 (Int32.ofNat c) 2 (Int32.ofNat (c + 1)) (ab_up1 J3 30 (4 * c + 1) 0) = some (ab_up1 (ab_up1 J3 30 (4 * c + 1) 0) 30 (4 * c + 2) (Int32.ofNat (c + 1))) from x_stCell (j := 2) (by omega) (by decide), ob_some, ob_some]
      exact x_sign_f (by rw [f4 _ _ _ _ (by omega)]; exact cX_ne a2)
    · unfold F_m_readsStep300
      rw [sh, ob_some]
      try dsimp only
      rw [if_neg (show ¬ oI (some 6) = (-1 : Int32) by decide), ob_some, if_pos (show oI (some 6) = (6 : Int32) from rfl), o1, ob_some]
      try dsimp only
      rw [if_pos rfl]
end AGSTEP2
