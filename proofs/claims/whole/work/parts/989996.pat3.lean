/-! pattern: a part -/
theorem b_some {α : Type} {a : Option α} : (Option.bind a fun x => some x) = a := by cases a <;> rfl
theorem b_inv {α β : Type} {a : Option α} {f : α → Option β} {b : β} (h : Option.bind a f = some b) : ∃ x, a = some x ∧ f x = some b := by
  cases a with
  | none => cases h
  | some x => exact ⟨x, rfl, h⟩
noncomputable def ptB (rc : Int32 → MJ → Option MJ) (p2 : Int32) (J : MJ) : Option MJ := Option.bind (f_tap_isNumberNext74 J) fun w6 => Option.bind (Option.bind (α := MJ) (if w6.1 = 0 then (Option.bind (F_pat_readAgain77 rc p2 w6.2) fun I9 => some I9) else (Option.bind (f_pat_readHours75 p2 w6.2) fun I10 => some I10)) fun b7 => some b7) fun b7 => f_tap_sign58 (59 : Int32) b7
noncomputable def nlM (rm : Int32 → MJ → Option MJ) (D : Int32) : MJ → Option (MJ ⊕ MJ) := fun (s23 : MJ) =>
  (if (s23 47 5) = 0 then
  (Option.bind (f_m_byteAt271 (s23 47 4) s23) fun v43 =>
  (if v43 = (93 : Int32) then
  some (.inr s23)
  else
  (Option.bind (rm D s23) fun I44 =>
  (Option.bind (f_m_blanks270 I44) fun I45 =>
  some (.inl I45)
  )
  )
  )
  )
  else
  some (.inr s23)
  )
theorem nlM_f {rm : Int32 → MJ → Option MJ} {D : Int32} {J : MJ} (h : ¬ J 47 5 = 0) : nlM rm D J = some (.inr J) := by
  unfold nlM
  rw [if_neg h]
section PART
variable {B : Nat → Nat} {n : Nat}
def HCp (B : Nat → Nat) (n : Nat) (rc rm : Int32 → MJ → Option MJ) (d : Nat) : Prop := ∀ (q : Nat) (Jc Jm : MJ), TT B n (some q) Jc Jm → Jm 47 4 = Int32.ofNat q → Jm 47 8 = Int32.ofNat (d + 1) → Jm 144 (d + 1) = 0 → pD d Jc Jm → ∃ st Kc Km, (Option.bind (rc (Int32.ofNat (d + 1)) Jc) fun I6 => f_tap_sign58 (93 : Int32) I6) = some Kc ∧ (Option.bind (wh (nlM rm (Int32.ofNat (d + 1))) Jm) fun b24 => f_m_sign285 (93 : Int32) b24) = some Km ∧ TT B n st Kc Km ∧ fcP Jc Kc ∧ fmP Jm Km ∧ ∀ q', st = some q' → q < q' ∧ pD (d + 1) Kc Km ∧ Km 47 8 = Int32.ofNat (d + 1)
theorem dig_no_word {q : Nat} (hq : q < n) (hd : dgP B q = true) : ¬ w_again = wdW B n q := fun h => by
  have e : wdE B n q = q := scn_no (fun z => by
    have h1 := of_decide_eq_true hd
    have h2 := of_decide_eq_true z.2
    omega)
  unfold wdW at h
  rw [e, Nat.sub_self] at h
  cases h
theorem again_len {q : Nat} (h : w_again = wdW B n q) : wdE B n q - q = 5 := by
  have := congrArg List.length h
  unfold wdW at this
  rw [wdl_len] at this
  exact this.symm
theorem m_opens {d q : Nat} {J : MJ} (hd : d ≤ 6) (h : mR B n J q) (e : J 47 4 = Int32.ofNat q) (e8 : J 47 8 = Int32.ofNat d) : (d < 6 → f_m_opens290 J = some (1, ab_up1 J 47 8 (Int32.ofNat (d + 1)))) ∧ (d = 6 → ∃ J', f_m_opens290 J = some (0, J') ∧ mX B n J' 3 q ∧ fr47 J J') := by
  unfold f_m_opens290
  constructor
  · intro h6
    rw [if_pos h.2.1, if_neg (show ¬ J 47 8 = (6 : Int32) from by rw [e8]; exact neq_l (b := 6) (by omega) (by omega) (by decide)), if_pos h.2.1, ob_some, if_pos (show (ab_up1 J 47 8 (J 47 8 + 1)) 47 5 = 0 from by rw [up_ne (by omega)]; exact h.2.1), ob_some, nar_1, e8, i_addr]
  · intro h6
    obtain ⟨p, hp, ep, -⟩ := h.2.2.2
    obtain ⟨J', a1, a2, a3⟩ := m_wrong_s (B := B) (n := n) (k := 3) (w := q) (p := p) (J := J) (by omega) h.2.1 h.1 hp ep
    rw [if_pos h.2.1, if_pos (show J 47 8 = (6 : Int32) from by rw [e8, h6]; rfl), e, show f_m_wrong278 3 (Int32.ofNat q) J = some J' from a1, ob_some, ob_some, if_neg (mX_ne a2), ob_some, nar_0]
    exact ⟨J', rfl, a2, a3⟩
/-- the model alone at what is neither a number nor the word -/
theorem part_bad {d q : Nat} {rm : Int32 → MJ → Option MJ} {Jm : MJ} (hd : d ≤ 6) (h : mR B n Jm q) (h1 : ¬ (q < n ∧ dgP B q = true)) (h2 : ¬ w_again = wdW B n q) : ∃ Km, F_m_part289 rm (Int32.ofNat d) Jm = some Km ∧ mX B n Km 1 q ∧ fr47 Jm Km := by
  obtain ⟨g1, g2, g3, g4⟩ := mR_blanks h
  have w := m_isWord (l := w_again) ok_again six_again g4
  rw [if_neg h2, up_up] at w
  obtain ⟨K2, k1, k2, k3⟩ := m_number (lo := 1) (m := 13) (by decide) (by decide) g4
  have ho : nmO B n q 1 13 = 1 := by unfold nmO; rw [if_pos h1]
  rcases k3 with ⟨z, -⟩ | ⟨-, k3⟩
  · rw [ho] at z; cases z
  · rw [ho] at k3
    refine ⟨K2, ?_, k3, fr47_tr (fr47_up fr47_rf (by omega)) k2⟩
    unfold F_m_part289
    rw [g3, ob_some, w, ob_some]
    try dsimp only
    rw [if_pos rfl, show f_m_number283 1 12 (ab_up1 Jm 47 4 (Int32.ofNat q)) = _ from k1, ob_some]
    exact hrM_f (mX_ne k3)
theorem num_at {lo m q : Nat} {v : Int32} {J J2 : MJ} (hlo : lo < 100000) (hm : m < 100000) (h : cR B n J q) (e : f_tap_number53 (Int32.ofNat lo) (Int32.ofNat m - 1) J = some (v, J2)) (h5 : J2 1 5 = 0) : J2 1 4 = Int32.ofNat q := by
  obtain ⟨J', a1, a2, a3⟩ := x_number hlo hm h
  have e2 : J' = J2 := (Prod.mk.inj (Option.some.inj (a1.symm.trans e))).2
  subst e2
  rcases a3 with ⟨-, -, a4⟩ | ⟨-, a4⟩
  · exact a4
  · exact absurd h5 (cX_ne a4)
theorem part_it {d q : Nat} {rc rm : Int32 → MJ → Option MJ} {Jc Jm : MJ} (hd : d ≤ 6) (HC : d < 6 → HCp B n rc rm d) (h : TT B n (some q) Jc Jm) (h8 : Jm 47 8 = Int32.ofNat d) (hp : pD d Jc Jm) : ∃ st Kc Km, ptB rc (Int32.ofNat d) Jc = some Kc ∧ F_m_part289 rm (Int32.ofNat d) Jm = some Km ∧ TT B n st Kc Km ∧ fcP Jc Kc ∧ fmP Jm Km ∧ ∀ q', st = some q' → q < q' ∧ pD d Kc Km ∧ Km 47 8 = Int32.ofNat d := by
  have hc := h.1
  have hm := h.2
  obtain ⟨g1, g2, g3, g4⟩ := mR_blanks hm
  have w := m_isWord (l := w_again) ok_again six_again g4
  rw [up_up] at w
  obtain ⟨J1, x1, x2, x3, x4⟩ := x_isNum hc
  have hwd := wdE_ge (B := B) (n := n) g1
  have hsk := sk_le (B := B) hwd.2
  by_cases h2 : w_again = wdW B n q
  · -- again
    have hl5 := again_len h2
    rw [if_neg (fun z : q < n ∧ dgP B q = true => dig_no_word z.1 z.2 h2)] at x1
    rw [if_pos h2] at w
    obtain ⟨J2, y1, y2, y3⟩ := xw_3 x2
    have wl : wIx wLA (wdW B n q) = some 0 := show wIx [w_again] _ = some 0 from wIx_yes h2
    rw [wl] at y1 y3
    replace y3 := y3.resolve_right (fun z => by cases z.1)
    obtain ⟨-, -, y4, y5⟩ := y3
    by_cases h6 : d < 6
    · have op := (m_opens hd g4 up_eq (by rw [up_ne (by omega)]; exact h8)).1 h6
      have g5 : mR B n (ab_up1 (ab_up1 Jm 47 4 (Int32.ofNat q)) 47 8 (Int32.ofNat (d + 1))) q := (TT_mu (st := some q) (Jc := Jc) (a := 47) (k := 8) (x := Int32.ofNat (d + 1)) ⟨hc, g4⟩ (by omega) (by omega)).2
      obtain ⟨s1, s2⟩ := m_skipWord g5 (by rw [up_ne (by omega), up_eq])
      have t0 : TT B n (some (sk B n (wdE B n q))) J2 (ab_up1 (ab_up1 (ab_up1 Jm 47 4 (Int32.ofNat q)) 47 8 (Int32.ofNat (d + 1))) 47 4 (Int32.ofNat (wdE B n q))) := ⟨y4, s2⟩
      generalize hK3 : ab_up1 (ab_up1 (ab_up1 Jm 47 4 (Int32.ofNat q)) 47 8 (Int32.ofNat (d + 1))) 47 4 (Int32.ofNat (wdE B n q)) = K3 at s1 s2 t0
      have fK3 : ∀ a k, ¬ (a = 47 ∧ (k = 4 ∨ k = 8)) → K3 a k = Jm a k := fun a k z => by rw [← hK3, up_ne (by omega), up_ne (by omega), up_ne (by omega)]
      have e3 : K3 47 8 = Int32.ofNat (d + 1) := by rw [← hK3, up_ne (by omega), up_eq]
      obtain ⟨st1, vc, vm, J4, K4, c1, m1, t1, f1, f2, v1⟩ := tt_number (loc := 0) (hic := 12) (lom := 0) (him := 12) t0 (fun _ _ => ⟨0, 13, by decide, by decide, rfl, rfl, rfl, rfl⟩)
      obtain ⟨st2, J5, K5, c2, m2, t2, f3, f4, v2⟩ := tt_sign (c := 91) (by decide) t1
      have wr5 : wr K5 144 (Int32.ofNat d + (1 : Int32)) 0 = some (ab_up1 K5 144 (d + 1) 0) := by rw [i_addr]; exact wr_144 (by omega)
      have t3 : TT B n st2 J5 (ab_up1 K5 144 (d + 1) 0) := TT_mu t2 (by omega) (by omega)
      obtain ⟨K7, m3, t4, f5, v3⟩ := tt_blanks t3
      have fJ5 : ∀ a k, ¬ (a = 1 ∧ (k = 2 ∨ k = 4 ∨ k = 5 ∨ k = 6)) → J5 a k = Jc a k := fun a k z => by rw [f3 a k z, f1 a k z, y2 a k z, x3 a k z]
      have fK7 : ∀ a k, ¬ (a = 47 ∧ (k = 4 ∨ k = 5 ∨ k = 6 ∨ k = 8)) → ¬ (a = 144 ∧ k = d + 1) → K7 a k = Jm a k := fun a k z z2 => by rw [f5 a k (by omega), up_ne z2, f4 a k (by omega), f2 a k (by omega), fK3 a k (by omega)]
      have e7 : K7 47 8 = Int32.ofNat (d + 1) := by rw [f5 _ _ (by omega), up_ne (by omega), f4 _ _ (by omega), f2 _ _ (by omega), e3]
      -- both texts up to the list
      have hC : ∀ R, (Option.bind (if (if J5 1 5 = 0 then (1 : Int32) else 0) = 0 then some J5 else (Option.bind (rc (Int32.ofNat d + (1 : Int32)) J5) fun I6 => Option.bind (f_tap_sign58 (93 : Int32) I6) fun I7 => Option.bind (f_x_at16 22 (Int32.ofNat d + (1 : Int32)) I7) fun v8 => Option.bind (f_x_at16 22 (Int32.ofNat d) I7) fun v9 => Option.bind (α := MJ) (if (12 : Int32) < (v9 + (vc * v8)) then (Option.bind (f_tap_fail50 (4 : Int32) (Int32.ofNat q) I7) fun I18 => some I18) else some I7) fun b10 => Option.bind (wh (agC (Int32.ofNat d) vc v8) ((0 : Int32), b10)) fun b12 => some b12)) fun b7 => f_tap_sign58 (59 : Int32) b7) = R → ptB rc (Int32.ofNat d) Jc = R := fun R hh => by
        unfold ptB
        rw [x1, ob_some]
        try dsimp only
        rw [if_pos rfl, b_some, b_some]
        unfold F_pat_readAgain77
        rw [y1, ob_some]
        try dsimp only
        rw [if_pos (show Int32.ofNat d < (6 : Int32) from lt_l (b := 6) h6 (by decide)), ob_some, c1, ob_some]
        try dsimp only
        rw [show f_tap_sign58 91 J4 = some J5 from c2, ob_some, x_sound, ob_some, y5]
        exact hh
      have hM : ∀ R, (Option.bind (wh (nlM rm (Int32.ofNat d + (1 : Int32))) K7) fun b24 => Option.bind (f_m_sign285 (93 : Int32) b24) fun I25 => rsM (Int32.ofNat d) vm (Int32.ofNat q) I25) = R → F_m_part289 rm (Int32.ofNat d) Jm = R := fun R hh => by
        unfold F_m_part289
        rw [g3, ob_some, w, ob_some]
        try dsimp only
        rw [if_neg (by decide), op, ob_some]
        try dsimp only
        rw [if_neg (by decide), s1, ob_some, m1, ob_some]
        try dsimp only
        rw [show f_m_sign285 91 K4 = some K5 from m2, ob_some, wr5, ob_some, m3, ob_some, up_eq]
        exact hh
      cases st2 with
      | none =>
        obtain ⟨k, w5, b1, b2⟩ := t4
        obtain ⟨K8, r1, r2, r3⟩ := rsM_f (d := Int32.ofNat d) (v := vm) (x := Int32.ofNat q) b2
        refine ⟨none, J5, K8, hC _ ?_, hM _ ?_, ⟨k, w5, b1, r2⟩, fun a j z1 z2 z3 => fJ5 a j z1, fun a j z1 z2 => by rw [r3 a j z1 z2, fK7 a j z1 (by omega)], fun q' e => by cases e⟩
        · rw [if_neg (cX_ne b1), if_pos rfl, ob_some, x_sign_f (cX_ne b1)]
        · rw [wh_inr (nlM_f (mX_ne b2)), ob_some, m_sign_f (mX_ne b2), ob_some, r1]
      | some q2 =>
        obtain ⟨q1', e1, e2⟩ := v2 q2 rfl
        obtain ⟨q0', T, e4, e5, rfl, rfl, e6⟩ := v1 q1' e1
        have e4' := Option.some.inj e4
        have hT := e6 0 13 (by decide) (by decide) rfl rfl
        have hp7 : pD d J5 K7 := fun e he => by
          obtain ⟨l, p1, p2, p3, p4⟩ := hp e he
          refine ⟨l, p1, (fJ5 _ _ (by omega)).trans p2, (fK7 _ _ (by omega) (by omega)).trans p3, fun i hi => ?_⟩
          obtain ⟨v, q1, q2, q3⟩ := p4 i hi
          exact ⟨v, q1, (fJ5 _ _ (by omega)).trans q2, (fK7 _ _ (by omega) (by omega)).trans q3⟩
        obtain ⟨st3, J8, K8, a1, a2, a3, a4, a5, a6⟩ := HC h6 q2 J5 K7 t4 (v3 q2 rfl) e7 (by rw [f5 _ _ (by omega), up_eq]) hp7
        obtain ⟨J7, i1, i2⟩ := b_inv a1
        obtain ⟨K7', n1, n2⟩ := b_inv a2
        have hC2 : ∀ R, rsC (Int32.ofNat d) (Int32.ofNat T) (Int32.ofNat q) J8 = R → ptB rc (Int32.ofNat d) Jc = R := fun R hh => hC R (by
          rw [if_pos (TT_some t4).1, if_neg (show ¬ (1 : Int32) = 0 by decide), show rc (Int32.ofNat d + (1 : Int32)) J5 = some J7 from by rw [i_addr]; exact i1, ob_some, i2, ob_some]
          exact hh)
        have hM2 : ∀ R, rsM (Int32.ofNat d) (Int32.ofNat T) (Int32.ofNat q) K8 = R → F_m_part289 rm (Int32.ofNat d) Jm = R := fun R hh => hM R (by
          rw [show wh (nlM rm (Int32.ofNat d + (1 : Int32))) K7 = some K7' from by rw [i_addr]; exact n1, ob_some, n2, ob_some]
          exact hh)
        have fc8 : fcP Jc J8 := fun a j z1 z2 z3 => by rw [a4 a j z1 z2 z3, fJ5 a j z1]
        have fm8 : fmP Jm K8 := fun a j z1 z2 => by rw [a5 a j z1 z2, fK7 a j z1 (by omega)]
        cases st3 with
        | none =>
          obtain ⟨k, w5, b1, b2⟩ := a3
          obtain ⟨K9, r1, r2, r3⟩ := rsM_f (d := Int32.ofNat d) (v := Int32.ofNat T) (x := Int32.ofNat q) b2
          exact ⟨none, J8, K9, hC2 _ (rsC_f h6 (cX_ne b1)), hM2 _ r1, ⟨k, w5, b1, r2⟩, fc8, fmP_2 fm8 r3, fun q' e => by cases e⟩
        | some q3 =>
          obtain ⟨u1, u2, u3⟩ := a6 q3 rfl
          obtain ⟨st4, J9, K9, r1, r2, r3, r4, r5, r6⟩ := again_tail (q := q) (T := T) h6 (by omega) a3 u2 u3
          refine ⟨st4, J9, K9, hC2 _ r1, hM2 _ r2, r3, fcP_2 fc8 r4, fmP_2 fm8 r5, fun q' e => ?_⟩
          obtain ⟨z1, z2, z3⟩ := r6 q' e
          exact ⟨by omega, z2, z3⟩
    · have h6' : d = 6 := by omega
      obtain ⟨K3, op, o2, o3⟩ := (m_opens hd g4 up_eq (by rw [up_ne (by omega)]; exact h8)).2 h6'
      obtain ⟨J3, a1, a2, a3⟩ := x_fail_s (k := 3) (w := q) (J := J2) (by omega) y4.2.1
      refine ⟨none, J3, K3, ?_, ?_, ⟨3, q, a2, o2⟩, fcP_1 (fcP_1 (fcP_1 fcP_rf x3) y2) a3, fmP_1 (fmP_1 fmP_rf (fr47_up fr47_rf (by omega))) o3, fun q' e => by cases e⟩
      · unfold ptB
        rw [x1, ob_some]
        try dsimp only
        rw [if_pos rfl, b_some, b_some]
        unfold F_pat_readAgain77
        rw [y1, ob_some]
        try dsimp only
        rw [if_neg (show ¬ Int32.ofNat d < (6 : Int32) from nlt_l (b := 6) h6 (by omega) (by decide)), y5, show f_tap_fail50 3 (Int32.ofNat q) J2 = some J3 from a1, ob_some, ob_some, x_number_f (cX_ne a2), ob_some]
        try dsimp only
        rw [x_sign_f (cX_ne a2), ob_some, x_sound, if_neg (cX_ne a2), ob_some, if_pos rfl, ob_some, x_sign_f (cX_ne a2)]
      · unfold F_m_part289
        rw [g3, ob_some, w, ob_some]
        try dsimp only
        rw [if_neg (by decide), op, ob_some]
        try dsimp only
        rw [if_pos rfl]
  · rw [if_neg h2] at w
    by_cases h3 : q < n ∧ dgP B q = true
    · -- hours
      rw [if_pos h3] at x1
      have t0 : TT B n (some q) J1 (ab_up1 Jm 47 4 (Int32.ofNat q)) := ⟨x2, g4⟩
      obtain ⟨st1, vc, vm, J2, K2, c1, m1, t1, f1, f2, v1⟩ := tt_number (loc := 1) (hic := 12) (lom := 1) (him := 12) t0 (fun _ _ => ⟨1, 13, by decide, by decide, rfl, rfl, rfl, rfl⟩)
      have hC : ∀ R, hrC (Int32.ofNat d) vc J2 = R → ptB rc (Int32.ofNat d) Jc = R := fun R hh => by
        unfold ptB
        rw [x1, ob_some]
        try dsimp only
        rw [if_neg (by decide), b_some, b_some]
        unfold f_pat_readHours75
        rw [c1, ob_some]
        exact hh
      have hM : ∀ R, hrM (Int32.ofNat d) vm (Int32.ofNat q) K2 = R → F_m_part289 rm (Int32.ofNat d) Jm = R := fun R hh => by
        unfold F_m_part289
        rw [g3, ob_some, w, ob_some]
        try dsimp only
        rw [if_pos rfl, m1, ob_some, up_eq]
        exact hh
      have fK2 : fmP Jm K2 := fmP_1 (fmP_1 fmP_rf (fr47_up fr47_rf (by omega))) f2
      have fJ2 : fcP Jc J2 := fcP_1 (fcP_1 fcP_rf x3) f1
      cases st1 with
      | none =>
        obtain ⟨b1, b2⟩ := TT_none t1
        exact ⟨none, J2, K2, hC _ (hrC_f hd b1), hM _ (hrM_f b2), t1, fJ2, fK2, fun q' e => by cases e⟩
      | some q1 =>
        obtain ⟨q0', T, e4, e5, rfl, rfl, e6⟩ := v1 q1 rfl
        have e4' := Option.some.inj e4
        have hT := e6 1 13 (by decide) (by decide) rfl rfl
        have hp2 : pD d J2 K2 := pD_c hp (fun k => by rw [f1 _ _ (by omega), x3 _ _ (by omega)]) (fun k => by rw [f1 _ _ (by omega), x3 _ _ (by omega)]) (fun a k z1 z2 => by rw [f2 _ _ (by omega), up_ne (by omega)]) hd
        obtain ⟨st3, J3, K3, r1, r2, r3, r4, r5, r6, r7⟩ := hours_tail (v := T) (q := q) hd (by omega) t1 (num_at (lo := 1) (m := 13) (by decide) (by decide) x2 c1 (TT_some t1).1) hp2
        refine ⟨st3, J3, K3, hC _ r1, hM _ r2, r3, fcP_2 fJ2 r4, fmP_2 fK2 r5, fun q' e => ?_⟩
        obtain ⟨z1, z2⟩ := r7 q' e
        exact ⟨by omega, z2, by rw [r6, f2 _ _ (by omega), up_ne (by omega), h8]⟩
    · -- neither
      rw [if_neg h3] at x1
      obtain ⟨J2, y1, y2, y3⟩ := xw_3 x2
      have wl : wIx wLA (wdW B n q) = none := show wIx [w_again] _ = none from by rw [wIx_no h2]; rfl
      rw [wl] at y1 y3
      replace y3 := y3.resolve_left (fun z => by obtain ⟨k, z, -⟩ := z; cases z)
      obtain ⟨-, y4⟩ := y3
      obtain ⟨Km, k1, k2, k3⟩ := part_bad (rm := rm) hd hm h3 h2
      refine ⟨none, J2, Km, ?_, k1, ⟨1, q, y4, k2⟩, fcP_1 (fcP_1 fcP_rf x3) y2, fmP_1 fmP_rf k3, fun q' e => by cases e⟩
      unfold ptB
      rw [x1, ob_some]
      try dsimp only
      rw [if_pos rfl, b_some, b_some]
      unfold F_pat_readAgain77
      rw [y1, ob_some]
      try dsimp only
      have e : (if Int32.ofNat d < (6 : Int32) then some J2 else Option.bind (f_tap_fail50 3 (J2 1 4) J2) fun I19 => some I19) = some J2 := by
        rw [x_fail_f (cX_ne y4), ob_some]
        split <;> rfl
      rw [e, ob_some, x_number_f (cX_ne y4), ob_some]
      try dsimp only
      rw [x_sign_f (cX_ne y4), ob_some, x_sound, if_neg (cX_ne y4), ob_some, if_pos rfl, ob_some, x_sign_f (cX_ne y4)]
end PART
