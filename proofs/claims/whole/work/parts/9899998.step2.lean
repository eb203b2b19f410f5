section STEP
variable {B : Nat → Nat} {n : Nat}
/-- a step that isn't an again -/
theorem step_simple {d c q n1 n3 kd : Nat} {rc : Int32 → MJ → Option MJ} {rm : MJ → Option MJ} {Jc Jm : MJ} (hn : n ≤ 200) (h1 : n1 < 1000) (h3 : n3 < 1000) (t : TT B n (some q) Jc Jm) (hk : wIx wLT (wdW B n q) = some kd) (hkd : kd < 6) (c29 : Jc 29 1 = Int32.ofNat c) (m34 : Jm 47 34 = Int32.ofNat c) (h4c : 4 * c ≤ q) (hS : shN n1 n3 Jc Jm) (hw3 : q + 3 ≤ wdE B n q) : ∃ st Kc Km, (Option.bind (F_pla_readStep96 rc (Int32.ofNat d) Jc) fun I5 => f_tap_sign58 (59 : Int32) I5) = some Kc ∧ F_m_readsStep300 rm Jm = some Km ∧ TT B n st Kc Km ∧ fcV c Jc Kc ∧ fmV c Jm Km ∧ ∀ q', st = some q' → q < q' ∧ Km 47 8 = Jm 47 8 ∧ 4 * (c + 1) ≤ q' ∧ stN n1 n3 d c (c + 1) Kc Km := by
  obtain ⟨S1, S2, S3, S4⟩ := hS
  have hc := t.1
  have hm := t.2
  obtain ⟨g1, g2, g3, g4⟩ := mR_blanks hm
  have hwd := wdE_ge (B := B) (n := n) g1
  have hsk := sk_le (B := B) hwd.2
  obtain ⟨J2, y1, y2, y3⟩ := xw_5 hc
  have sh := m_stepHere hm
  rw [hk] at y1 y3 sh
  have y4 : cR B n J2 (sk B n (wdE B n q)) := by
    rcases y3 with ⟨k, z, y4, -⟩ | ⟨z, -⟩
    · exact y4
    · cases z
  obtain ⟨s1, s2⟩ := m_skipWord g4 up_eq
  rw [up_up] at s1 s2
  have hc64 : c < 64 := by omega
  have e29 : J2 29 1 = Int32.ofNat c := by rw [y2 _ _ (by omega)]; exact c29
  have t0 : TT B n (some (sk B n (wdE B n q))) (ab_up1 (ab_up1 J2 29 1 (Int32.ofNat (c + 1))) 30 (4 * c + 0) (Int32.ofNat kd)) (ab_up1 (ab_up1 (ab_up1 Jm 47 4 (Int32.ofNat (wdE B n q))) 47 34 (Int32.ofNat (c + 1))) (496 + c) 0 (Int32.ofNat kd)) := TT_mu (TT_mu (TT_cu (TT_cu (st := some _) ⟨y4, s2⟩ (by decide) (by decide)) (by decide) (by decide)) (by omega) (by omega)) (by omega) (by omega)
  generalize hI : ab_up1 (ab_up1 J2 29 1 (Int32.ofNat (c + 1))) 30 (4 * c + 0) (Int32.ofNat kd) = I2 at t0
  generalize hK : ab_up1 (ab_up1 (ab_up1 Jm 47 4 (Int32.ofNat (wdE B n q))) 47 34 (Int32.ofNat (c + 1))) (496 + c) 0 (Int32.ofNat kd) = K2 at t0
  have fI : ∀ a j, ¬ (a = 1 ∧ (j = 2 ∨ j = 4 ∨ j = 5 ∨ j = 6)) → ¬ (a = 30 ∧ j = 4 * c) → ¬ (a = 29 ∧ j = 1) → I2 a j = Jc a j := fun a j z1 z2 z3 => by rw [← hI, up_ne (by omega), up_ne z3, y2 a j z1]
  have fK : ∀ a j, ¬ (a = 47 ∧ (j = 4 ∨ j = 34)) → ¬ (a = 496 + c ∧ j = 0) → K2 a j = Jm a j := fun a j z1 z2 => by rw [← hK, up_ne z2, up_ne (by omega), up_ne (by omega)]
  obtain ⟨st, J3, K3, a1, a2, a3, a4, a5, a6⟩ := fields_it (n1 := n1) (n3 := n3) hkd hc64 h1 h3 t0 (by rw [fI _ _ (by omega) (by omega) (by omega)]; exact S1) (by rw [fI _ _ (by omega) (by omega) (by omega)]; exact S2) (by rw [fK _ _ (by omega) (by omega)]; exact S3) (by rw [fK _ _ (by omega) (by omega)]; exact S4)
  have e34 : K3 47 34 = Int32.ofNat (c + 1) := by rw [a5 _ _ (by omega) (by omega), ← hK, up_ne (by omega), up_eq]
  have t3 : TT B n st J3 (ab_up1 K3 (496 + c) 4 (Int32.ofNat (c + 1))) := TT_mu a3 (by omega) (by omega)
  obtain ⟨st4, J4, K4, b1, b2, b3, b4, b5, b6⟩ := tt_sign (c := 59) (by decide) t3
  have hne6 : ¬ Int32.ofNat kd = (6 : Int32) := neq_l (b := 6) (by omega) (by omega) (by decide)
  refine ⟨st4, J4, K4, ?_, ?_, b3, fun a j z1 z2 z3 => by rw [b4 a j z1, a4 a j z1 (by omega), fI a j z1 (by omega) z3], fun a j z1 z2 => by rw [b5 a j (by omega), up_ne (by omega), a5 a j (by omega) (by omega), fK a j (by omega) (by omega)], fun q' e => ?_⟩
  · unfold F_pla_readStep96
    rw [y1, ob_some]
    try dsimp only
    rw [e29, i_addr, show f_pla_write97 (Int32.ofNat c) 0 (oI (some kd)) (ab_up1 J2 29 1 (Int32.ofNat (c + 1))) = some I2 from by rw [← hI]; exact x_stCell (j := 0) hc64 (by decide), ob_some, if_neg (show ¬ oI (some kd) = (6 : Int32) from hne6)]
    refine (congrArg (fun z => Option.bind z _) (show fdC (Int32.ofNat kd) (Int32.ofNat c) I2 = some J3 from a1)).trans ?_
    rw [ob_some]
    exact b1
  · unfold F_m_readsStep300
    rw [sh, ob_some]
    try dsimp only
    rw [if_neg (show ¬ oI (some kd) = (-1 : Int32) from by rw [show oI (some kd) = Int32.ofNat kd from rfl, i_neg1 (by omega)]; exact id), ob_some, if_neg (show ¬ oI (some kd) = (6 : Int32) from hne6), if_pos (show (ab_up1 Jm 47 4 (Int32.ofNat q)) 47 5 = 0 from g4.2.1), s1, ob_some, show (ab_up1 Jm 47 4 (Int32.ofNat (wdE B n q))) 47 34 = Int32.ofNat c from by rw [up_ne (by omega)]; exact m34, rdp_495 (by omega), ob_some, i_addr, show wr (ab_up1 (ab_up1 Jm 47 4 (Int32.ofNat (wdE B n q))) 47 34 (Int32.ofNat (c + 1))) (496 + c) 0 (oI (some kd)) = some K2 from by rw [← hK]; exact wrr_495 (k := 0) (by omega) (by decide), ob_some]
    refine (a2 _).trans ?_
    try dsimp only
    rw [if_neg (show ¬ oI (some kd) = (6 : Int32) from hne6), ob_some, e34, show wr K3 (496 + c) 4 (Int32.ofNat (c + 1)) = some (ab_up1 K3 (496 + c) 4 (Int32.ofNat (c + 1))) from wrr_495 (k := 4) (by omega) (by decide), ob_some, show f_m_sign285 59 _ = some K4 from b2, ob_some]
  · obtain ⟨q2, w1, w2⟩ := b6 q' e
    obtain ⟨z1, z2⟩ := a6 q2 w1
    obtain ⟨F1, F2, F3, F4⟩ := z2
    have cK : ∀ j, 4 * c ≤ j → J4 30 j = J3 30 j := fun j _ => b4 _ _ (by omega)
    have mK : ∀ j, j ≠ 4 → K4 (496 + c) j = K3 (496 + c) j := fun j hj => by rw [b5 _ _ (by omega), up_ne (by omega)]
    have m4 : K4 (496 + c) 4 = Int32.ofNat (c + 1) := by rw [b5 _ _ (by omega), up_eq]
    have m0 : K4 (496 + c) 0 = Int32.ofNat kd := by rw [mK 0 (by decide), a5 _ _ (by omega) (by omega), ← hK, up_eq]
    have c0 : J4 30 (4 * c) = Int32.ofNat kd := by rw [cK _ (by omega), a4 _ _ (by omega) (by omega), ← hI, show 4 * c = 4 * c + 0 by omega, up_eq]
    refine ⟨by omega, ?_, by omega, by omega, ?_, ?_, fun k k1 k2 => ?_, WN_one (by rw [m0]; exact hne6) m4⟩
    · rw [b5 _ _ (by omega), up_ne (by omega), a5 _ _ (by omega) (by omega), fK _ _ (by omega) (by omega)]
    · rw [b4 _ _ (by omega), a4 _ _ (by omega) (by omega), ← hI, up_ne (by omega), up_eq]
    · rw [b5 _ _ (by omega), up_ne (by omega), e34]
    · have : k = c := by omega
      subst this
      refine ⟨kd, by omega, c0, m0, ?_, ?_, ?_, ?_, fun z => by omega, k + 1, by omega, by omega, m4, fun _ => rfl, fun z => by omega⟩
      · rw [cK _ (by omega), mK 1 (by decide)]; exact F1
      · rw [cK _ (by omega), mK 2 (by decide)]; exact F2
      · rw [cK _ (by omega), cK _ (by omega), mK 2 (by decide), mK 3 (by decide)]; exact F3
      · rw [cK _ (by omega), mK 1 (by decide)]; exact F4
/-- a word that is no step -/
theorem step_none {d c q : Nat} {rc : Int32 → MJ → Option MJ} {rm : MJ → Option MJ} {Jc Jm : MJ} (hn : n ≤ 200) (t : TT B n (some q) Jc Jm) (hk : wIx wLT (wdW B n q) = none) (c29 : Jc 29 1 = Int32.ofNat c) (h4c : 4 * c ≤ q) : ∃ Kc Km, (Option.bind (F_pla_readStep96 rc (Int32.ofNat d) Jc) fun I5 => f_tap_sign58 (59 : Int32) I5) = some Kc ∧ F_m_readsStep300 rm Jm = some Km ∧ cX Kc 1 q ∧ mX B n Km 1 q ∧ fcV c Jc Kc ∧ fmV c Jm Km := by
  have hc := t.1
  have hm := t.2
  obtain ⟨g1, g2, g3, g4⟩ := mR_blanks hm
  obtain ⟨J2, y1, y2, y3⟩ := xw_5 hc
  have sh := m_stepHere hm
  rw [hk] at y1 y3 sh
  have y4 : cX J2 1 q := by
    rcases y3 with ⟨k, z, -⟩ | ⟨-, y4⟩
    · cases z
    · exact y4
  have hc64 : c < 64 := by omega
  have e29 : J2 29 1 = Int32.ofNat c := by rw [y2 _ _ (by omega)]; exact c29
  obtain ⟨K2, z1, z2, z3⟩ := m_wrong_s (B := B) (n := n) (k := 1) (w := q) (p := q) (J := ab_up1 Jm 47 4 (Int32.ofNat q)) (by omega) g4.2.1 g4.1 g1 up_eq
  have hI : ∀ a j, ¬ (a = 29 ∧ j = 1) → ¬ (a = 30 ∧ 4 * c ≤ j) → (ab_up1 (ab_up1 (ab_up1 J2 29 1 (Int32.ofNat (c + 1))) 30 (4 * c + 0) (oI none)) 30 (4 * c + 1) 0) a j = J2 a j := fun a j z1 z2 => by rw [up_ne (by omega), up_ne (by omega), up_ne z1]
  have f5 : ∀ J : MJ, J = ab_up1 (ab_up1 J2 29 1 (Int32.ofNat (c + 1))) 30 (4 * c + 0) (oI none) → ¬ J 1 5 = 0 := fun J h => by rw [h, up_ne (by omega), up_ne (by omega)]; exact cX_ne y4
  refine ⟨ab_up1 (ab_up1 (ab_up1 J2 29 1 (Int32.ofNat (c + 1))) 30 (4 * c + 0) (oI none)) 30 (4 * c + 1) 0, K2, ?_, ?_, ⟨y4.1, by rw [hI _ _ (by omega) (by omega)]; exact y4.2.1, by rw [hI _ _ (by omega) (by omega)]; exact y4.2.2⟩, z2, fun a j w1 w2 w3 => by rw [hI a j w3 w2, y2 a j w1], fun a j w1 w2 => by rw [z3 a j (by omega), up_ne (by omega)]⟩
  · unfold F_pla_readStep96
    rw [y1, ob_some]
    try dsimp only
    rw [e29, i_addr, show f_pla_write97 (Int32.ofNat c) 0 (oI none) (ab_up1 J2 29 1 (Int32.ofNat (c + 1))) = _ from x_stCell (j := 0) hc64 (by decide), ob_some, if_neg (show ¬ oI none = (6 : Int32) by decide), if_neg (show ¬ oI none = (4 : Int32) by decide), if_neg (show ¬ oI none = (5 : Int32) by decide), x_number_f (f5 _ rfl), ob_some]
    try dsimp only
    rw [show f_pla_write97 (Int32.ofNat c) 1 0 _ = _ from x_stCell (j := 1) hc64 (by decide), ob_some, ob_some, if_neg (show ¬ oI none = (0 : Int32) by decide), if_neg (show ¬ oI none = (1 : Int32) by decide), ob_some, ob_some]
    exact x_sign_f (by rw [hI _ _ (by omega) (by omega)]; exact cX_ne y4)
  · unfold F_m_readsStep300
    rw [sh, ob_some]
    try dsimp only
    rw [if_pos (show oI none = (-1 : Int32) from rfl), up_eq, show f_m_wrong278 1 (Int32.ofNat q) _ = some K2 from z1, ob_some, ob_some, if_neg (show ¬ oI none = (6 : Int32) by decide), if_neg (mX_ne z2)]
end STEP
