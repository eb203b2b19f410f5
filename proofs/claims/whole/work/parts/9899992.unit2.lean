section UNIT2
variable {B : Nat → Nat} {n : Nat}
/-- the model's unit, where neither least nor most stands -/
theorem one_pre {q : Nat} {rm : MJ → Option MJ} {Jm : MJ} {R : Option MJ} (h : mR B n Jm q) (h1 : ¬ w_least = wdW B n q) (h2 : ¬ w_most = wdW B n q) (hR : (if byt B n q = (40 : Int32) then (Option.bind (f_m_opens290 (ab_up1 Jm 47 4 (Int32.ofNat q))) fun w5 => (if w5.1 = 0 then some w5.2 else (Option.bind (rm (ab_up1 w5.2 47 4 ((w5.2 47 4) + (1 : Int32)))) fun I6 => (Option.bind (f_m_sign285 (41 : Int32) I6) fun I7 => some (ab_up1 I7 47 8 ((I7 47 8) - (1 : Int32))))))) else (Option.bind (f_m_knownHere297 (ab_up1 Jm 47 4 (Int32.ofNat q))) fun w8 => (Option.bind (α := MJ) (if w8.1 = (-1 : Int32) then (Option.bind (f_m_number283 (0 : Int32) (999 : Int32) w8.2) fun w10 => (Option.bind (f_m_notes296 (0 : Int32) w10.1 w10.2) fun I11 => some I11)) else (Option.bind (f_m_notes296 (1 : Int32) w8.1 w8.2) fun I12 => some I12)) fun b9 => some b9))) = R) : F_m_one295 rm Jm = R := by
  obtain ⟨g1, g2, g3, g4⟩ := mR_blanks h
  have e1 := m_isWord (l := w_least) ok_least six_least g4
  have e2 := m_isWord (l := w_most) ok_most six_most g4
  rw [if_neg h1, up_up] at e1
  rw [if_neg h2, up_up] at e2
  have hn := h.1.1
  unfold F_m_one295
  rw [if_pos h.2.1, g3, ob_some, e1, ob_some]
  try dsimp only
  rw [if_pos rfl, e2, ob_some]
  try dsimp only
  rw [if_pos rfl, ob_some]
  try dsimp only
  rw [if_pos rfl, up_eq, m_byteAt (k := q) g4.1 (by omega), ob_some]
  exact hR
/-- the model's unit at least (7) or most (8) -/
theorem one_named {q d : Nat} {rm : MJ → Option MJ} {Jm : MJ} (hd : d ≤ 6) (h : mR B n Jm q) (h8 : Jm 47 8 = Int32.ofNat d) {how : Int32} (hw : (how = 7 ∧ w_least = wdW B n q) ∨ (how = 8 ∧ w_most = wdW B n q ∧ ¬ w_least = wdW B n q)) : (d < 6 → ∀ R, (Option.bind (f_m_sign285 (91 : Int32) (ab_up1 (ab_up1 (ab_up1 Jm 47 4 (Int32.ofNat q)) 47 8 (Int32.ofNat (d + 1))) 47 4 (Int32.ofNat (wdE B n q)))) fun I15 => Option.bind (rm I15) fun I16 => Option.bind (f_m_sign285 (44 : Int32) I16) fun I17 => Option.bind (rm I17) fun I18 => Option.bind (f_m_sign285 (93 : Int32) I18) fun I19 => Option.bind (f_m_notes296 how (0 : Int32) I19) fun I20 => some (ab_up1 I20 47 8 ((I20 47 8) - (1 : Int32)))) = R → F_m_one295 rm Jm = R) ∧ (d = 6 → ∃ K, F_m_one295 rm Jm = some K ∧ mX B n K 3 q ∧ fr47 Jm K) := by
  obtain ⟨g1, g2, g3, g4⟩ := mR_blanks h
  have e1 := m_isWord (l := w_least) ok_least six_least g4
  have e2 := m_isWord (l := w_most) ok_most six_most g4
  rw [up_up] at e1 e2
  have op := m_opens (B := B) (n := n) hd g4 up_eq (by rw [up_ne (by omega)]; exact h8)
  have pre : ∀ R, (Option.bind (f_m_opens290 (ab_up1 Jm 47 4 (Int32.ofNat q))) fun w13 => (if w13.1 = 0 then some w13.2 else (Option.bind (f_m_skipWord280 w13.2) fun I14 => Option.bind (f_m_sign285 (91 : Int32) I14) fun I15 => Option.bind (rm I15) fun I16 => Option.bind (f_m_sign285 (44 : Int32) I16) fun I17 => Option.bind (rm I17) fun I18 => Option.bind (f_m_sign285 (93 : Int32) I18) fun I19 => Option.bind (f_m_notes296 how (0 : Int32) I19) fun I20 => some (ab_up1 I20 47 8 ((I20 47 8) - (1 : Int32)))))) = R → F_m_one295 rm Jm = R := fun R r => by
    unfold F_m_one295
    rw [if_pos h.2.1, g3, ob_some, e1, ob_some]
    try dsimp only
    rcases hw with ⟨rfl, w1⟩ | ⟨rfl, w1, w2⟩
    · rw [if_pos w1, if_neg (show ¬ (1 : Int32) = 0 by decide), ob_some]
      try dsimp only
      rw [if_neg (show ¬ (7 : Int32) = -1 by decide)]
      exact r
    · rw [if_neg w2, if_pos rfl, e2, ob_some]
      try dsimp only
      rw [if_pos w1, if_neg (show ¬ (1 : Int32) = 0 by decide), ob_some]
      try dsimp only
      rw [if_neg (show ¬ (8 : Int32) = -1 by decide)]
      exact r
  constructor
  · intro h6 R r
    refine pre R ?_
    have g5 : mR B n (ab_up1 (ab_up1 Jm 47 4 (Int32.ofNat q)) 47 8 (Int32.ofNat (d + 1))) q := ⟨mE_up g4.1 (by decide) (by decide), by rw [up_ne (by omega)]; exact g4.2.1, by rw [up_ne (by omega)]; exact g4.2.2.1, by
      obtain ⟨p, hp, e, e2⟩ := g4.2.2.2
      exact ⟨p, hp, by rw [up_ne (by omega)]; exact e, e2⟩⟩
    rw [op.1 h6, ob_some]
    try dsimp only
    rw [if_neg (show ¬ (1 : Int32) = 0 by decide), (m_skipWord g5 (by rw [up_ne (by omega), up_eq])).1, ob_some]
    exact r
  · intro h6
    obtain ⟨K, k1, k2, k3⟩ := op.2 h6
    refine ⟨K, pre _ ?_, k2, fr47_tr (fr47_up fr47_rf (by omega)) k3⟩
    rw [k1, ob_some]
    try dsimp only
    rw [if_pos rfl]
theorem TT_wc {st : Option Nat} {Jc Jm Kc : MJ} (t : TT B n st Jc Jm) (h : ∀ a k, a ≠ 25 → ¬ (a = 23 ∧ k = 5) → Kc a k = Jc a k) : TT B n st Kc Jm := TT_c t (fun k _ _ => h _ _ (by omega) (by omega)) (fun k => h _ _ (by omega) (by omega)) ⟨rfl, rfl, rfl, rfl⟩ (fun _ => rfl)
theorem unit_it {d c h q : Nat} {rc : Int32 → MJ → Option MJ} {rm : MJ → Option MJ} {Jc Jm : MJ} (hd : d ≤ 6) (hn : n ≤ 150) (HC : d < 6 → HCl B n rc rm d) (t : TT B n (some q) Jc Jm) (h8 : Jm 47 8 = Int32.ofNat d) (H : LL c h Jc Jm) (hcq : c ≤ q) (hh : h ≤ 3 * d + 2) : ∃ st Kc Km, F_mot_readUnit85 rc (Int32.ofNat d) Jc = some Kc ∧ F_m_one295 rm Jm = some Km ∧ TT B n st Kc Km ∧ fcL Jc Kc ∧ fmL Jm Km ∧ ∀ q', st = some q' → q < q' ∧ Km 47 8 = Int32.ofNat d ∧ ∃ c', LL c' (h + 1) Kc Km ∧ c' + q ≤ q' + c := by
  have hm := t.2
  obtain ⟨g1, g2, g3, g4⟩ := mR_blanks hm
  obtain ⟨J1, x1, x2, x3, -⟩ := x_isNum t.1
  have hwd := wdE_ge (B := B) (n := n) g1
  have hsk := sk_le (B := B) hwd.2
  have hb40 : byt B n q = (40 : Int32) ↔ (q < n ∧ B q = 40) := byt_eq (B := B) (n := n) (k := q) (c := 40) (fun hk => (hm.1.2.2 _ hk).1) (by decide)
  have fK0 : fr47 Jm (ab_up1 Jm 47 4 (Int32.ofNat q)) := fr47_up fr47_rf (by omega)
  by_cases hdg : q < n ∧ dgP B q = true
  · -- a number
    have hv := of_decide_eq_true hdg.2
    have hw : wdW B n q = [] := no_word (fun z => by have := of_decide_eq_true z.2; omega)
    rw [if_pos hdg] at x1
    have t0 : TT B n (some q) J1 (ab_up1 Jm 47 4 (Int32.ofNat q)) := ⟨x2, g4⟩
    obtain ⟨st1, vc, vm, J2, K2, c1, m1, t1, f1, f2, v1⟩ := tt_number (loc := 0) (hic := 999) (lom := 0) (him := 999) t0 (fun _ _ => ⟨0, 1000, by decide, by decide, rfl, rfl, rfl, rfl⟩)
    have hk := m_knownHere g4
    rw [hw, show wIx wLH [] = none from rfl, if_pos rfl, up_up] at hk
    have hC : ∀ R, f_mot_write86 vc J2 = R → F_mot_readUnit85 rc (Int32.ofNat d) Jc = R := fun R r => by
      unfold F_mot_readUnit85
      rw [x1, ob_some]
      try dsimp only
      rw [if_neg (by decide), c1, ob_some, b_some, b_some]
      exact r
    have hM : ∀ R, f_m_notes296 0 vm K2 = R → F_m_one295 rm Jm = R := fun R r => one_pre hm (by rw [hw]; intro z; cases z) (by rw [hw]; intro z; cases z) (by
      rw [if_neg (fun z => by have := (hb40.mp z).2; omega), hk, ob_some]
      try dsimp only
      rw [if_pos (show oI none = (-1 : Int32) from rfl), m1, ob_some, b_some, b_some]
      exact r)
    cases st1 with
    | none =>
      obtain ⟨u1, u2⟩ := TT_none t1
      obtain ⟨J3, w1, w2⟩ := x_write_any (x := vc) (J := J2)
      exact ⟨none, J3, K2, hC _ w1, hM _ (m_notes_f u2), TT_wc t1 w2, fun a j z1 z2 z3 => by rw [w2 a j z2 z3, f1 a j z1, x3 a j z1], fmL_1 (fmL_1 fmL_rf fK0) f2, fun q' e => by cases e⟩
    | some q1 =>
      obtain ⟨q0, v, e4, e5, rfl, rfl, e6⟩ := v1 q1 rfl
      have e4' := Option.some.inj e4
      have hv2 := e6 0 1000 (by decide) (by decide) rfl rfl
      have hL1 := LL_1 (by omega) (LL_1 (by omega) H x3 fK0) f1 f2
      have hL := LL_put (x := Int32.ofNat v) (how := 0) (v := Int32.ofNat v) (h' := h + 1) hL1 (by omega) (Or.inl ⟨rfl, rfl, v, by omega, rfl⟩) (by rw [if_pos (Or.inl rfl)]) (by omega)
      refine ⟨some q1, _, _, hC _ (x_write hL1.1 (by omega)), hM _ (m_notes (TT_some t1).2.1 hL1.2.1 (by omega)), wtT t1 (by omega), fcL_2 (fcL_1 (fcL_1 fcL_rf x3) f1) wtC_f, fmL_2 (fmL_1 (fmL_1 fmL_rf fK0) f2) (wtM_f (by omega)), fun q' e => ?_⟩
      have := Option.some.inj e
      exact ⟨by omega, by unfold wtM; rw [up_ne (by omega), up_ne (by omega), up_ne (by omega), f2 _ _ (by omega), fK0 _ _ (by omega), h8], c + 1, hL, by omega⟩
  · rw [if_neg hdg] at x1
    obtain ⟨J2, n1, n2, n3, -⟩ := x_isNext (c := 40) (by decide) x2
    by_cases hpa : q < n ∧ B q = 40
    · -- brackets
      have hw : wdW B n q = [] := no_word (fun z => by have := of_decide_eq_true z.2; omega)
      rw [if_pos hpa] at n1
      obtain ⟨J3, s1, s2, s3⟩ := x_sign (c := 40) (by decide) n2
      have s4 := (s3.resolve_right (fun z => z.1 hpa)).2.2
      have s5 := sign_at (c := 40) (by decide) n2 hpa s1
      have hC : ∀ R, (Option.bind (f_mot_needRoom87 (Int32.ofNat d) J3) fun I7 => Option.bind (F_mot_readInside88 rc (Int32.ofNat d) I7) fun I8 => f_tap_sign58 (41 : Int32) I8) = R → F_mot_readUnit85 rc (Int32.ofNat d) Jc = R := fun R r => by
        unfold F_mot_readUnit85
        rw [x1, ob_some]
        try dsimp only
        rw [if_pos rfl, show f_tap_isNext73 40 J1 = _ from n1, ob_some]
        try dsimp only
        rw [if_neg (show ¬ (1 : Int32) = 0 by decide), show f_tap_sign58 40 J2 = some J3 from s1, ob_some, b_some]
        refine Eq.trans ?_ r
        cases f_mot_needRoom87 (Int32.ofNat d) J3 with
        | none => rfl
        | some I7 =>
          rw [ob_some, ob_some]
          cases F_mot_readInside88 rc (Int32.ofNat d) I7 with
          | none => rfl
          | some I8 => rw [ob_some, ob_some, b_some]
      have op := m_opens (B := B) (n := n) hd g4 up_eq (by rw [up_ne (by omega)]; exact h8)
      by_cases h6 : d < 6
      · have hM : ∀ R, (Option.bind (rm (ab_up1 (ab_up1 (ab_up1 Jm 47 4 (Int32.ofNat q)) 47 8 (Int32.ofNat (d + 1))) 47 4 (Int32.ofNat (q + 1)))) fun I6 => (Option.bind (f_m_sign285 (41 : Int32) I6) fun I7 => some (ab_up1 I7 47 8 ((I7 47 8) - (1 : Int32))))) = R → F_m_one295 rm Jm = R := fun R r => one_pre hm (by rw [hw]; intro z; cases z) (by rw [hw]; intro z; cases z) (by
          rw [if_pos (hb40.mpr hpa), op.1 h6, ob_some]
          try dsimp only
          rw [if_neg (show ¬ (1 : Int32) = 0 by decide), up_ne (by omega), up_eq, i_addr]
          exact r)
        have g5 : mR B n (ab_up1 (ab_up1 Jm 47 4 (Int32.ofNat q)) 47 8 (Int32.ofNat (d + 1))) q := ⟨mE_up g4.1 (by decide) (by decide), by rw [up_ne (by omega)]; exact g4.2.1, by rw [up_ne (by omega)]; exact g4.2.2.1, by
          obtain ⟨p, hp, e, e2⟩ := g4.2.2.2
          exact ⟨p, hp, by rw [up_ne (by omega)]; exact e, e2⟩⟩
        have g6 := mR_at g5 (p := q + 1) (by omega)
        have hsq := sk_le (B := B) (n := n) (p := q + 1) (by omega)
        generalize hK : ab_up1 (ab_up1 (ab_up1 Jm 47 4 (Int32.ofNat q)) 47 8 (Int32.ofNat (d + 1))) 47 4 (Int32.ofNat (q + 1)) = K1 at hM g6
        have fK1 : ∀ a k, ¬ (a = 47 ∧ (k = 4 ∨ k = 8)) → K1 a k = Jm a k := fun a k z => by rw [← hK, up_ne (by omega), up_ne (by omega), up_ne (by omega)]
        have e8 : K1 47 8 = Int32.ofNat (d + 1) := by rw [← hK, up_ne (by omega), up_eq]
        have fJ3 : fr1 Jc J3 := fr1_tr (fr1_tr x3 n3) s2
        have hL1 : LL c h J3 K1 := LL_c (by omega) H (fJ3 _ _ (by omega)) (fun k => fJ3 _ _ (by omega)) (fK1 _ _ (by omega)) (fun a k _ _ => fK1 _ _ (by omega))
        obtain ⟨st, J4, K4, a1, a2, a3, a4, a5, a6⟩ := tt_inside (c := c) (h := h) (st := some (sk B n (q + 1))) h6 (HC h6) ⟨s4, g6⟩ (fun z e => by
          have := Option.some.inj e
          exact ⟨e8, hL1, by omega, by omega⟩)
        obtain ⟨st2, J5, K5, b1, b2, b3, b4, b5, b6⟩ := tt_sign (c := 41) (by decide) a3
        refine ⟨st2, J5, _, hC _ ?_, hM _ ?_, TT_dec b3, fcL_1 (fcL_2 (fcL_1 fcL_rf fJ3) a4) b4, fun a j z1 z2 => by rw [up_ne (by omega), b5 a j (by omega), a5 a j z1 z2, fK1 a j (by omega)], fun q' e => ?_⟩
        · rw [room_ok h6, ob_some, a1, ob_some]; exact b1
        · rw [a2, ob_some, show f_m_sign285 41 K4 = some K5 from b2, ob_some]
        · obtain ⟨z1, w1, w2⟩ := b6 q' e
          obtain ⟨z0, u1, u2, u3, c', u4, u5⟩ := a6 z1 w1
          have := Option.some.inj u1
          have hq' : q' ≤ n := by rw [e] at b3; exact (TT_some b3).2.2
          refine ⟨by omega, ?_, c', LL_c (by omega) (LL_1 (by omega) u4 b4 b5) rfl (fun _ => rfl) (up_ne (by omega)) (fun a k _ _ => up_ne (by omega)), by omega⟩
          rw [up_eq, b5 _ _ (by omega), u3]
          exact (i_sub (b := 1) (by omega)).trans (congrArg Int32.ofNat (by omega))
      · have h6' : d = 6 := by omega
        subst h6'
        obtain ⟨K2, k1, k2, k3⟩ := op.2 rfl
        obtain ⟨J4, a1, a2, a3⟩ := room_no s4.2.1 s5
        refine ⟨none, J4, K2, hC _ ?_, one_pre hm (by rw [hw]; intro z; cases z) (by rw [hw]; intro z; cases z) ?_, ⟨3, q, a2, k2⟩, fcL_1 fcL_rf (fr1_tr (fr1_tr (fr1_tr x3 n3) s2) a3), fmL_1 (fmL_1 fmL_rf fK0) k3, fun q' e => by cases e⟩
        · rw [a1, ob_some, inside_f (cX_ne a2), ob_some, x_sign_f (cX_ne a2)]
        · rw [if_pos (hb40.mpr hpa), k1, ob_some]
          try dsimp only
          rw [if_pos rfl]
    · -- a word
      rw [if_neg hpa] at n1
      obtain ⟨J3, y1, y2, y3⟩ := xw_4 n2
      have fJ3 : fr1 Jc J3 := fr1_tr (fr1_tr x3 n3) y2
      have hC : ∀ R, F_mot_readNamed89 rc (Int32.ofNat d) ((-1 : Int32) - oI (wIx wLV (wdW B n q))) J3 = R → F_mot_readUnit85 rc (Int32.ofNat d) Jc = R := fun R r => by
        unfold F_mot_readUnit85
        rw [x1, ob_some]
        try dsimp only
        rw [if_pos rfl, show f_tap_isNext73 40 J1 = _ from n1, ob_some]
        try dsimp only
        rw [if_pos rfl, y1, ob_some, b_some, b_some]
        exact r
      rcases y3 with ⟨k, wk, y4, y5⟩ | ⟨wk, y4⟩
      · have hk8 : k < 8 := wIx_lt _ _ _ wk
        have hg := wIx_get _ _ _ wk
        obtain ⟨F1, F2, F3⟩ := lvw_facts k hk8
        rw [hg] at F1 F2 F3
        rw [wk] at hC
        have hne : ¬ wdE B n q = q := fun z => by
          have : wdW B n q = [] := by unfold wdW; rw [z, Nat.sub_self]; rfl
          rw [this] at wk
          cases wk
        by_cases hk6 : k < 6
        · obtain ⟨G1, G2, G3⟩ := F1 hk6
          obtain ⟨N1, N2⟩ := nmw_facts k hk6
          have hk := m_knownHere g4
          rw [G1, if_neg (by intro z; cases z), up_up] at hk
          have g5 := mR_at hm (p := wdE B n q) hwd.2
          have t1 : TT B n (some (sk B n (wdE B n q))) J3 (ab_up1 Jm 47 4 (Int32.ofNat (wdE B n q))) := ⟨y4, g5⟩
          have hL1 : LL c h J3 (ab_up1 Jm 47 4 (Int32.ofNat (wdE B n q))) := LL_1 (by omega) H fJ3 (fr47_up fr47_rf (by omega))
          have hL := LL_put (x := (-1 : Int32) - Int32.ofNat k) (how := 1) (v := Int32.ofNat k) (h' := h + 1) hL1 (by omega) (Or.inr (Or.inl ⟨rfl, k, hk6, rfl, rfl⟩)) (by rw [if_pos (Or.inr rfl)]) (by omega)
          refine ⟨some (sk B n (wdE B n q)), _, _, hC _ ?_, one_pre hm G2 G3 ?_, wtT t1 (by omega), fcL_2 (fcL_1 fcL_rf fJ3) (wtC_f (c := c) (x := (-1 : Int32) - Int32.ofNat k)), fmL_2 (fmL_1 fmL_rf (fr47_up fr47_rf (by omega))) (wtM_f (c := c) (how := 1) (v := Int32.ofNat k) (by omega)), fun q' e => ?_⟩
          · unfold F_mot_readNamed89
            rw [if_neg (show ¬ (-1 : Int32) - oI (some k) = -7 from N1), if_neg (show ¬ (-1 : Int32) - oI (some k) = -8 from N2), ob_some, b_some]
            exact x_write hL1.1 (by omega)
          · rw [if_neg (fun z => hpa (hb40.mp z)), hk, ob_some]
            try dsimp only
            rw [if_neg (show ¬ oI (some k) = (-1 : Int32) from by rw [show oI (some k) = Int32.ofNat k from rfl, i_neg1 (by omega)]; exact id), b_some, b_some]
            exact m_notes (TT_some t1).2.1 hL1.2.1 (by omega)
          · have := Option.some.inj e
            exact ⟨by omega, by unfold wtM; rw [up_ne (by omega), up_ne (by omega), up_ne (by omega), up_ne (by omega), h8], c + 1, hL, by omega⟩
        · -- least or most
          have hkk : (((-1 : Int32) - oI (some k) = -7 ∧ ∃ how : Int32, how = 7 ∧ (how = 7 ∧ w_least = wdW B n q ∨ how = 8 ∧ w_most = wdW B n q ∧ ¬ w_least = wdW B n q) ∧ codeR (-7) how 0 ∧ ¬ (how = 0 ∨ how = 1)) ∨ ((-1 : Int32) - oI (some k) = -8 ∧ ∃ how : Int32, how = 8 ∧ (how = 7 ∧ w_least = wdW B n q ∨ how = 8 ∧ w_most = wdW B n q ∧ ¬ w_least = wdW B n q) ∧ codeR (-8) how 0 ∧ ¬ (how = 0 ∨ how = 1))) := by
            have : k = 6 ∨ k = 7 := by omega
            rcases this with rfl | rfl
            · exact Or.inl ⟨by decide, 7, rfl, Or.inl ⟨rfl, F2 rfl⟩, Or.inr (Or.inr (Or.inr (Or.inr (Or.inr (Or.inr (Or.inr (Or.inl ⟨rfl, rfl⟩))))))), by decide⟩
            · exact Or.inr ⟨by decide, 8, rfl, Or.inr ⟨rfl, F3 rfl⟩, Or.inr (Or.inr (Or.inr (Or.inr (Or.inr (Or.inr (Or.inr (Or.inr ⟨rfl, rfl⟩))))))), by decide⟩
          have main : ∀ (p3 how : Int32), (-1 : Int32) - oI (some k) = p3 → (p3 = -7 ∨ p3 = -8) → (how = 7 ∧ w_least = wdW B n q ∨ how = 8 ∧ w_most = wdW B n q ∧ ¬ w_least = wdW B n q) → codeR p3 how 0 → ¬ (how = 0 ∨ how = 1) → ∃ st Kc Km, F_mot_readUnit85 rc (Int32.ofNat d) Jc = some Kc ∧ F_m_one295 rm Jm = some Km ∧ TT B n st Kc Km ∧ fcL Jc Kc ∧ fmL Jm Km ∧ ∀ q', st = some q' → q < q' ∧ Km 47 8 = Int32.ofNat d ∧ ∃ c', LL c' (h + 1) Kc Km ∧ c' + q ≤ q' + c := by
            intro p3 how hp3 h78 hw hcr hnh
            have hC2 : ∀ R, (Option.bind (f_mot_needRoom87 (Int32.ofNat d) J3) fun I3 => Option.bind (Option.bind (f_tap_sign58 (91 : Int32) I3) fun I4 => Option.bind (F_mot_readInside88 rc (Int32.ofNat d) I4) fun I5 => Option.bind (f_tap_sign58 (44 : Int32) I5) fun I6 => Option.bind (F_mot_readInside88 rc (Int32.ofNat d) I6) fun I7 => f_tap_sign58 (93 : Int32) I7) fun b1 => f_mot_write86 p3 b1) = R → F_mot_readUnit85 rc (Int32.ofNat d) Jc = R := fun R r => hC R (by
              rw [hp3]
              unfold F_mot_readNamed89
              refine Eq.trans ?_ r
              have e : ∀ X : Option MJ, (if p3 = -7 then X else if p3 = -8 then X else some J3) = X := fun X => by
                rcases h78 with z | z
                · rw [if_pos z]
                · rw [z, if_neg (by decide), if_pos rfl]
              rw [e, b_assoc]
              cases f_mot_needRoom87 (Int32.ofNat d) J3 with
              | none => rfl
              | some I3 =>
                rw [ob_some, ob_some]
                cases f_tap_sign58 91 I3 with
                | none => rfl
                | some I4 =>
                  rw [ob_some, ob_some]
                  cases F_mot_readInside88 rc (Int32.ofNat d) I4 with
                  | none => rfl
                  | some I5 =>
                    rw [ob_some, ob_some]
                    cases f_tap_sign58 44 I5 with
                    | none => rfl
                    | some I6 =>
                      rw [ob_some, ob_some]
                      cases F_mot_readInside88 rc (Int32.ofNat d) I6 with
                      | none => rfl
                      | some I7 =>
                        rw [ob_some, ob_some, b_some]
                        cases f_tap_sign58 93 I7 with
                        | none => rfl
                        | some I8 =>
                          rw [ob_some])
            by_cases h6 : d < 6
            · have g5 : mR B n (ab_up1 (ab_up1 Jm 47 4 (Int32.ofNat q)) 47 8 (Int32.ofNat (d + 1))) q := ⟨mE_up g4.1 (by decide) (by decide), by rw [up_ne (by omega)]; exact g4.2.1, by rw [up_ne (by omega)]; exact g4.2.2.1, by
                obtain ⟨p, hp, e, e2⟩ := g4.2.2.2
                exact ⟨p, hp, by rw [up_ne (by omega)]; exact e, e2⟩⟩
              have g6 := mR_at g5 (p := wdE B n q) hwd.2
              have hM := (one_named (rm := rm) hd hm h8 hw).1 h6
              generalize hK : ab_up1 (ab_up1 (ab_up1 Jm 47 4 (Int32.ofNat q)) 47 8 (Int32.ofNat (d + 1))) 47 4 (Int32.ofNat (wdE B n q)) = K1 at hM g6
              have fK1 : ∀ a k, ¬ (a = 47 ∧ (k = 4 ∨ k = 8)) → K1 a k = Jm a k := fun a k z => by rw [← hK, up_ne (by omega), up_ne (by omega), up_ne (by omega)]
              have e8 : K1 47 8 = Int32.ofNat (d + 1) := by rw [← hK, up_ne (by omega), up_eq]
              have hL1 : LL c h J3 K1 := LL_c (by omega) H (fJ3 _ _ (by omega)) (fun k => fJ3 _ _ (by omega)) (fK1 _ _ (by omega)) (fun a k _ _ => fK1 _ _ (by omega))
              obtain ⟨st, Kc, Km, a1, a2, a3, a4, a5, a6⟩ := named_it (q := q) h6 hn (HC h6) (show TT B n (some (sk B n (wdE B n q))) J3 K1 from ⟨y4, g6⟩) e8 hL1 hcq (by omega) hh hcr hnh
              exact ⟨st, Kc, Km, hC2 _ (by rw [room_ok h6, ob_some]; exact a1), hM _ a2, a3, fcL_2 (fcL_1 fcL_rf fJ3) a4, fun a j z1 z2 => by rw [a5 a j z1 z2, fK1 a j (by omega)], a6⟩
            · have h6' : d = 6 := by omega
              subst h6'
              obtain ⟨K2, k1, k2, k3⟩ := (one_named (rm := rm) hd hm h8 hw).2 rfl
              obtain ⟨J4, a1, a2, a3⟩ := room_no y4.2.1 y5
              obtain ⟨J5, w1, w2⟩ := x_write_any (x := p3) (J := J4)
              refine ⟨none, J5, K2, hC2 _ ?_, k1, TT_wc (st := none) ⟨3, q, a2, k2⟩ w2, fun a j z1 z2 z3 => by rw [w2 a j z2 z3, a3 a j z1, fJ3 a j z1], fmL_1 fmL_rf k3, fun q' e => by cases e⟩
              rw [a1, ob_some, x_sign_f (cX_ne a2), ob_some, inside_f (cX_ne a2), ob_some, x_sign_f (cX_ne a2), ob_some, inside_f (cX_ne a2), ob_some, x_sign_f (cX_ne a2), ob_some, w1]
          rcases hkk with ⟨z1, how, -, z2, z3, z4⟩ | ⟨z1, how, -, z2, z3, z4⟩
          · exact main _ how z1 (Or.inl rfl) z2 z3 z4
          · exact main _ how z1 (Or.inr rfl) z2 z3 z4
      · -- nothing known
        rw [wk] at hC
        have hk := m_knownHere g4
        rw [wIx_non wLH _ (fun l hl => wIx_mem wLV _ l (lvw_sub l hl) wk), if_pos rfl, up_up] at hk
        obtain ⟨K2, k1, k2, k3⟩ := m_number (lo := 0) (m := 1000) (by decide) (by decide) g4
        have ho : nmO B n q 0 1000 = 1 := by unfold nmO; rw [if_pos hdg]
        rw [ho] at k3
        have k4 := (k3.resolve_left (fun z => by have := z.1; omega)).2
        obtain ⟨J4, w1, w2⟩ := x_write_any (x := (-1 : Int32) - oI none) (J := J3)
        refine ⟨none, J4, K2, hC _ ?_, one_pre hm (wIx_mem wLV _ _ lvw_two.1 wk) (wIx_mem wLV _ _ lvw_two.2 wk) ?_, TT_wc (st := none) ⟨1, q, y4, k4⟩ w2, fun a j z1 z2 z3 => by rw [w2 a j z2 z3, fJ3 a j z1], fmL_1 (fmL_1 fmL_rf fK0) k2, fun q' e => by cases e⟩
        · unfold F_mot_readNamed89
          rw [if_neg (show ¬ (-1 : Int32) - oI none = -7 by decide), if_neg (show ¬ (-1 : Int32) - oI none = -8 by decide), ob_some, b_some]
          exact w1
        · rw [if_neg (fun z => hpa (hb40.mp z)), hk, ob_some]
          try dsimp only
          rw [if_pos (show oI none = (-1 : Int32) from rfl), show f_m_number283 0 999 (ab_up1 Jm 47 4 (Int32.ofNat q)) = _ from k1, ob_some, m_notes_f (mX_ne k4), ob_some, ob_some]
end UNIT2
