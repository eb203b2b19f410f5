/-! shop: the clauses, in both -/
section CLAUSES
variable {B : Nat → Nat} {n : Nat} {Jc Jm : MJ} {st : Option Nat}
/-- cells of the class' draft; cells of the model's -/
def fcS (I J : MJ) : Prop := ∀ a k, ¬ (a = 1 ∧ (k = 2 ∨ k = 4 ∨ k = 5 ∨ k = 6)) → ¬ (9 ≤ a ∧ a ≤ 14) → J a k = I a k
def fmS (I J : MJ) : Prop := ∀ a k, ¬ (a = 47 ∧ (k = 4 ∨ k = 5 ∨ k = 6 ∨ k = 7)) → a ≠ 50 → a ≠ 52 → ¬ (55 ≤ a ∧ a < 65) → ¬ (77 ≤ a ∧ a < 93) → ¬ (111 ≤ a ∧ a < 119) → J a k = I a k
theorem fcS_1 {I J K : MJ} (h : fcS I J) (f : fr1 J K) : fcS I K := fun a k h1 h2 => (f a k h1).trans (h a k h1 h2)
theorem fmS_1 {I J K : MJ} (h : fmS I J) (f : fr47 J K) : fmS I K := fun a k h1 h2 h3 h4 h5 h6 => (f a k (by omega)).trans (h a k h1 h2 h3 h4 h5 h6)
theorem nR_ok {a m : Nat} {J : MJ} (h : a < m) (hm : m < 1000) : f_sho_needRoom52 (Int32.ofNat a) (Int32.ofNat m) J = some J := by
  unfold f_sho_needRoom52
  rw [if_pos (lt_l h (by omega)), ob_some]
theorem nR_f {x y : Int32} {J : MJ} (h : ¬ J 1 5 = 0) : f_sho_needRoom52 x y J = some J := by
  unfold f_sho_needRoom52
  rw [x_fail_f h, ob_some]
  split <;> rfl
theorem nR_no {a m q : Nat} {J : MJ} (h : ¬ a < m) (ha : a < 1000) (hs : J 1 5 = 0) (h4 : J 1 4 = Int32.ofNat q) : ∃ J', f_sho_needRoom52 (Int32.ofNat a) (Int32.ofNat m) J = some J' ∧ cX J' 3 q ∧ fr1 J J' := by
  unfold f_sho_needRoom52
  obtain ⟨J', j1, j2, j3⟩ := x_fail_s (k := 3) (w := q) (by omega) hs
  rw [if_neg (nlt_l h (by omega) (by omega)), h4, show f_tap_fail50 3 (Int32.ofNat q) J = some J' from j1, ob_some, ob_some]
  exact ⟨J', rfl, j2, j3⟩
/-- a bolt -/
theorem bolt_c {nb : Nat} (hn : nb < 10) (e : Jc 9 5 = Int32.ofNat nb) (em : Jm 50 0 = Int32.ofNat nb) (h : TT B n st Jc Jm) : ∃ st' Kc Km, f_sho_readBolt51 Jc = some Kc ∧ (Option.bind (rdp 54 (Int32.ofNat nb)) fun r10 => Option.bind (f_m_skyHere281 Jm) fun w11 => Option.bind (wr w11.2 r10 (0 : Int32) w11.1) fun I12 => Option.bind (rdp 54 (I12 50 0)) fun r13 => Option.bind (f_m_number283 (1 : Int32) (60 : Int32) I12) fun w14 => Option.bind (wr w14.2 r13 (1 : Int32) w14.1) fun I15 => some I15) = some Km ∧ TT B n st' Kc Km ∧ (∀ a k, ¬ (a = 1 ∧ (k = 2 ∨ k = 4 ∨ k = 5 ∨ k = 6)) → ¬ (a = 9 ∧ k = 5) → ¬ (a = 10 ∧ k = nb) → ¬ (a = 11 ∧ k = nb) → Kc a k = Jc a k) ∧ (∀ a k, ¬ (a = 47 ∧ (k = 4 ∨ k = 5 ∨ k = 6)) → a ≠ 55 + nb → Km a k = Jm a k) ∧ Kc 9 5 = Int32.ofNat (nb + 1) ∧ ∀ q', st' = some q' → ∃ q v0 v1, st = some q ∧ q ≤ q' ∧ v0 < 6 ∧ 1 ≤ v1 ∧ v1 ≤ 60 ∧ Kc 10 nb = Int32.ofNat v0 ∧ Kc 11 nb = Int32.ofNat v1 ∧ Km (55 + nb) 0 = Int32.ofNat v0 ∧ Km (55 + nb) 1 = Int32.ofNat v1 := by
  obtain ⟨s1, vc, vm, C1, M1, c1, m1, t1, f1, g1, d1⟩ := tt_sky (fun h => xw_1 h) h
  have t2 : TT B n s1 (ab_up1 C1 10 nb vc) (ab_up1 M1 (55 + nb) 0 vm) := TT_mu (TT_cu t1 (by decide) (by decide)) (by omega) (by omega)
  obtain ⟨s2, vc2, vm2, C2, M2, c2, m2, t3, f2, g2, d2⟩ := tt_number (loc := 1) (hic := 60) (lom := 1) (him := 60) t2 (fun q hq => ⟨1, 61, by decide, by decide, rfl, rfl, rfl, rfl⟩)
  have e2 : C2 9 5 = Int32.ofNat nb := by rw [f2 _ _ (by omega), up_ne (by omega), f1 _ _ (by omega)]; exact e
  refine ⟨s2, ab_up1 (ab_up1 C2 11 nb vc2) 9 5 (Int32.ofNat (nb + 1)), ab_up1 M2 (55 + nb) 1 vm2, ?_, ?_, TT_mu (TT_cu (TT_cu t3 (by decide) (by decide)) (by decide) (by decide)) (by omega) (by omega), fun a k h1 h2 h3 h4 => ?_, fun a k h1 h2 => ?_, up_eq, fun q' hq' => ?_⟩
  · unfold f_sho_readBolt51
    rw [e, show f_sho_needRoom52 (Int32.ofNat nb) 10 Jc = _ from nR_ok (m := 10) hn (by decide), ob_some, c1, ob_some]
    try dsimp only
    rw [e, put_10 hn, ob_some, c2, ob_some]
    try dsimp only
    rw [up_ne (by omega), f1 _ _ (by omega), e, put_11 hn, ob_some, up_ne (by omega), e2, i_addr]
  · rw [rdp_54 hn, ob_some, m1, ob_some]
    try dsimp only
    rw [show wr M1 (55 + nb) 0 vm = _ from wrr_54 (w := nb) (k := 0) hn (by decide), ob_some, up_ne (by omega), g1 _ _ (by omega), em, rdp_54 hn, ob_some, m2, ob_some]
    try dsimp only
    rw [show wr M2 (55 + nb) 1 vm2 = _ from wrr_54 (w := nb) (k := 1) hn (by decide), ob_some]
  · rw [up_ne h2, up_ne h4, f2 a k h1, up_ne h3, f1 a k h1]
  · rw [up_ne (by omega), g2 a k h1, up_ne (by omega), g1 a k h1]
  · obtain ⟨q1, v1, a1, a2, rfl, rfl, a3⟩ := d2 q' hq'
    obtain ⟨q0, v0, b1, b2, rfl, rfl, b3⟩ := d1 q1 a1
    have := a3 1 61 (by decide) (by decide) rfl rfl
    refine ⟨q0, v0, v1, b1, by omega, b3, by omega, by omega, ?_, ?_, ?_, ?_⟩
    · rw [up_ne (by omega), up_ne (by omega), f2 _ _ (by omega), up_eq]
    · rw [up_ne (by omega), up_eq]
    · rw [up_ne (by omega), g2 _ _ (by omega), up_eq]
    · rw [up_eq]
/-- a client -/
theorem client_c {nc : Nat} (hn : nc < 6) (e : Jc 9 6 = Int32.ofNat nc) (h : TT B n st Jc Jm) : ∃ st' Kc Km, f_sho_readClient55 Jc = some Kc ∧ (Option.bind (f_m_number283 (0 : Int32) (9 : Int32) Jm) fun w16 => Option.bind (wr w16.2 52 (Int32.ofNat nc) w16.1) fun I17 => some I17) = some Km ∧ TT B n st' Kc Km ∧ (∀ a k, ¬ (a = 1 ∧ (k = 2 ∨ k = 4 ∨ k = 5 ∨ k = 6)) → ¬ (a = 9 ∧ k = 6) → ¬ (a = 12 ∧ k = nc) → Kc a k = Jc a k) ∧ (∀ a k, ¬ (a = 47 ∧ (k = 4 ∨ k = 5 ∨ k = 6)) → ¬ (a = 52 ∧ k = nc) → Km a k = Jm a k) ∧ Kc 9 6 = Int32.ofNat (nc + 1) ∧ ∀ q', st' = some q' → ∃ q v, st = some q ∧ q ≤ q' ∧ v ≤ 9 ∧ Kc 12 nc = Int32.ofNat v ∧ Km 52 nc = Int32.ofNat v := by
  obtain ⟨s2, vc2, vm2, C2, M2, c2, m2, t3, f2, g2, d2⟩ := tt_number (loc := 0) (hic := 9) (lom := 0) (him := 9) h (fun q hq => ⟨0, 10, by decide, by decide, rfl, rfl, rfl, rfl⟩)
  have e2 : C2 9 6 = Int32.ofNat nc := by rw [f2 _ _ (by omega)]; exact e
  refine ⟨s2, ab_up1 (ab_up1 C2 12 nc vc2) 9 6 (Int32.ofNat (nc + 1)), ab_up1 M2 52 nc vm2, ?_, ?_, TT_mu (TT_cu (TT_cu t3 (by decide) (by decide)) (by decide) (by decide)) (by omega) (by omega), fun a k h1 h2 h3 => ?_, fun a k h1 h2 => ?_, up_eq, fun q' hq' => ?_⟩
  · unfold f_sho_readClient55
    rw [e, show f_sho_needRoom52 (Int32.ofNat nc) 6 Jc = _ from nR_ok (m := 6) hn (by decide), ob_some, c2, ob_some]
    try dsimp only
    rw [e, put_12 hn, ob_some, up_ne (by omega), e2, i_addr]
  · rw [m2, ob_some]
    try dsimp only
    rw [wr_52 hn, ob_some]
  · rw [up_ne h2, up_ne h3, f2 a k h1]
  · rw [up_ne h2, g2 a k h1]
  · obtain ⟨q0, v, b1, b2, rfl, rfl, b3⟩ := d2 q' hq'
    have := b3 0 10 (by decide) (by decide) rfl rfl
    exact ⟨q0, v, b1, by omega, by omega, by rw [up_ne (by omega), up_eq], up_eq⟩
/-- a want -/
theorem want_c {nc nw : Nat} (hc : nc ≤ 6) (hn : nw < 16) (e6 : Jc 9 6 = Int32.ofNat nc) (e : Jc 9 7 = Int32.ofNat nw) (h : TT B n st Jc Jm) : ∃ st' Kc Km, f_sho_readWant56 Jc = some Kc ∧ (Option.bind (rdp 76 (Int32.ofNat nw)) fun r18 => Option.bind (f_m_number283 (0 : Int32) (Int32.ofNat nc - (1 : Int32)) Jm) fun w19 => Option.bind (wr w19.2 r18 (0 : Int32) w19.1) fun I20 => Option.bind (f_m_number283 (0 : Int32) (11 : Int32) I20) fun w21 => Option.bind (wr w21.2 r18 (1 : Int32) w21.1) fun I22 => Option.bind (rd I22 r18 (1 : Int32)) fun v23 => Option.bind (f_m_number283 v23 (11 : Int32) I22) fun w24 => Option.bind (wr w24.2 r18 (2 : Int32) w24.1) fun I25 => Option.bind (f_m_skyHere281 I25) fun w26 => Option.bind (wr w26.2 r18 (3 : Int32) w26.1) fun I27 => Option.bind (f_m_number283 (1 : Int32) (9 : Int32) I27) fun w28 => Option.bind (wr w28.2 r18 (4 : Int32) w28.1) fun I29 => some I29) = some Km ∧ TT B n st' Kc Km ∧ (∀ a k, ¬ (a = 1 ∧ (k = 2 ∨ k = 4 ∨ k = 5 ∨ k = 6)) → ¬ (a = 9 ∧ k = 7) → ¬ (a = 13 ∧ 5 * nw ≤ k ∧ k < 5 * nw + 5) → Kc a k = Jc a k) ∧ (∀ a k, ¬ (a = 47 ∧ (k = 4 ∨ k = 5 ∨ k = 6)) → a ≠ 77 + nw → Km a k = Jm a k) ∧ Kc 9 7 = Int32.ofNat (nw + 1) ∧ ∀ q', st' = some q' → ∃ q, ∃ f : Nat → Nat, st = some q ∧ q ≤ q' ∧ (f 0 < nc ∧ f 1 ≤ f 2 ∧ f 2 ≤ 11 ∧ f 3 < 6 ∧ 1 ≤ f 4 ∧ f 4 ≤ 9) ∧ ∀ j, j < 5 → Kc 13 (5 * nw + j) = Int32.ofNat (f j) ∧ Km (77 + nw) j = Int32.ofNat (f j) := by
  obtain ⟨s0, vc0, vm0, C0, M0, c0, m0, t0, f0, g0, d0⟩ := tt_number (loc := 0) (hic := Int32.ofNat nc - 1) (lom := 0) (him := Int32.ofNat nc - 1) h (fun q hq => ⟨0, nc, by decide, by omega, rfl, rfl, rfl, rfl⟩)
  have u0 : TT B n s0 (ab_up1 C0 13 (5 * nw + 0) vc0) (ab_up1 M0 (77 + nw) 0 vm0) := TT_mu (TT_cu t0 (by decide) (by decide)) (by omega) (by omega)
  obtain ⟨s1, vc1, vm1, C1, M1, c1, m1, t1, f1, g1, d1⟩ := tt_number (loc := 0) (hic := 11) (lom := 0) (him := 11) u0 (fun q hq => ⟨0, 12, by decide, by decide, rfl, rfl, rfl, rfl⟩)
  have u1 : TT B n s1 (ab_up1 C1 13 (5 * nw + 1) vc1) (ab_up1 M1 (77 + nw) 1 vm1) := TT_mu (TT_cu t1 (by decide) (by decide)) (by omega) (by omega)
  obtain ⟨s2, vc2, vm2, C2, M2, c2, m2, t2, f2, g2, d2⟩ := tt_number (loc := vc1) (hic := 11) (lom := vm1) (him := 11) u1 (fun q hq => by
    obtain ⟨q1, v, -, -, rfl, rfl, hv⟩ := d1 q hq
    have := hv 0 12 (by decide) (by decide) rfl rfl
    exact ⟨v, 12, by omega, by decide, rfl, rfl, rfl, rfl⟩)
  have u2 : TT B n s2 (ab_up1 C2 13 (5 * nw + 2) vc2) (ab_up1 M2 (77 + nw) 2 vm2) := TT_mu (TT_cu t2 (by decide) (by decide)) (by omega) (by omega)
  obtain ⟨s3, vc3, vm3, C3, M3, c3, m3, t3, f3, g3, d3⟩ := tt_sky (fun h => xw_1 h) u2
  have u3 : TT B n s3 (ab_up1 C3 13 (5 * nw + 3) vc3) (ab_up1 M3 (77 + nw) 3 vm3) := TT_mu (TT_cu t3 (by decide) (by decide)) (by omega) (by omega)
  obtain ⟨s4, vc4, vm4, C4, M4, c4, m4, t4, f4, g4, d4⟩ := tt_number (loc := 1) (hic := 9) (lom := 1) (him := 9) u3 (fun q hq => ⟨1, 10, by decide, by decide, rfl, rfl, rfl, rfl⟩)
  have ix : ∀ j : Nat, (5 : Int32) * Int32.ofNat nw + Int32.ofNat j = Int32.ofNat (5 * nw + j) := fun j => by rw [show (5 : Int32) * Int32.ofNat nw = Int32.ofNat (5 * nw) from i_mull (n := 5), i_add]
  refine ⟨s4, ab_up1 (ab_up1 C4 13 (5 * nw + 4) vc4) 9 7 (Int32.ofNat (nw + 1)), ab_up1 M4 (77 + nw) 4 vm4, ?_, ?_, TT_mu (TT_cu (TT_cu t4 (by decide) (by decide)) (by decide) (by decide)) (by omega) (by omega), fun a k h1 h2 h3 => ?_, fun a k h1 h2 => ?_, up_eq, fun q' hq' => ?_⟩
  · unfold f_sho_readWant56
    rw [e, show f_sho_needRoom52 (Int32.ofNat nw) 16 Jc = _ from nR_ok (m := 16) hn (by decide), ob_some, e6, c0, ob_some]
    try dsimp only
    rw [e, show (5 : Int32) * Int32.ofNat nw + 0 = Int32.ofNat (5 * nw + 0) from ix 0, put_13 (by omega), ob_some, c1, ob_some]
    try dsimp only
    rw [show (5 : Int32) * Int32.ofNat nw + 1 = Int32.ofNat (5 * nw + 1) from ix 1, put_13 (by omega), ob_some, c2, ob_some]
    try dsimp only
    rw [show (5 : Int32) * Int32.ofNat nw + 2 = Int32.ofNat (5 * nw + 2) from ix 2, put_13 (by omega), ob_some, c3, ob_some]
    try dsimp only
    rw [show (5 : Int32) * Int32.ofNat nw + 3 = Int32.ofNat (5 * nw + 3) from ix 3, put_13 (by omega), ob_some, c4, ob_some]
    try dsimp only
    rw [show (5 : Int32) * Int32.ofNat nw + 4 = Int32.ofNat (5 * nw + 4) from ix 4, put_13 (by omega), ob_some, up_ne (by omega), f4 _ _ (by omega), up_ne (by omega), f3 _ _ (by omega), up_ne (by omega), f2 _ _ (by omega), up_ne (by omega), f1 _ _ (by omega), up_ne (by omega), f0 _ _ (by omega), e, i_addr]
  · have w : ∀ (M : MJ) (j : Nat) (x : Int32), j < 5 → wr M (77 + nw) (Int32.ofNat j) x = some (ab_up1 M (77 + nw) j x) := fun M j x hj => wrr_76 hn hj
    rw [rdp_76 hn, ob_some, m0, ob_some]
    try dsimp only
    rw [show wr M0 (77 + nw) 0 vm0 = _ from w M0 0 _ (by decide), ob_some, m1, ob_some]
    try dsimp only
    rw [show wr M1 (77 + nw) 1 vm1 = _ from w M1 1 _ (by decide), ob_some, show rd (ab_up1 M1 (77 + nw) 1 vm1) (77 + nw) 1 = some vm1 from by
      rw [show rd (ab_up1 M1 (77 + nw) 1 vm1) (77 + nw) 1 = _ from rdr_76 (w := nw) (k := 1) hn (by decide), up_eq], ob_some, m2, ob_some]
    try dsimp only
    rw [show wr M2 (77 + nw) 2 vm2 = _ from w M2 2 _ (by decide), ob_some, m3, ob_some]
    try dsimp only
    rw [show wr M3 (77 + nw) 3 vm3 = _ from w M3 3 _ (by decide), ob_some, m4, ob_some]
    try dsimp only
    rw [show wr M4 (77 + nw) 4 vm4 = _ from w M4 4 _ (by decide), ob_some]
  · rw [up_ne h2, up_ne (by omega), f4 a k h1, up_ne (by omega), f3 a k h1, up_ne (by omega), f2 a k h1, up_ne (by omega), f1 a k h1, up_ne (by omega), f0 a k h1]
  · rw [up_ne (by omega), g4 a k h1, up_ne (by omega), g3 a k h1, up_ne (by omega), g2 a k h1, up_ne (by omega), g1 a k h1, up_ne (by omega), g0 a k h1]
  · obtain ⟨q3, v4, a4, b4, rfl, rfl, y4⟩ := d4 q' hq'
    obtain ⟨q2, v3, a3, b3, rfl, rfl, y3⟩ := d3 q3 a4
    obtain ⟨q1, v2, a2, b2, rfl, rfl, y2⟩ := d2 q2 a3
    obtain ⟨qq, v1, a1, b1, rfl, rfl, y1⟩ := d1 q1 a2
    obtain ⟨q0, v0, a0, b0, rfl, rfl, y0⟩ := d0 qq a1
    have z4 := y4 1 10 (by decide) (by decide) rfl rfl
    have z1 := y1 0 12 (by decide) (by decide) rfl rfl
    have z2 := y2 v1 12 (by omega) (by decide) rfl rfl
    have z0 := y0 0 nc (by decide) (by omega) rfl rfl
    refine ⟨q0, fun j => if j = 0 then v0 else if j = 1 then v1 else if j = 2 then v2 else if j = 3 then v3 else v4, a0, by omega, ⟨z0.2, z2.1, by show v2 ≤ 11; omega, y3, z4.1, by show v4 ≤ 9; omega⟩, fun j hj => ?_⟩
    have hj5 : j = 0 ∨ j = 1 ∨ j = 2 ∨ j = 3 ∨ j = 4 := by omega
    rcases hj5 with rfl | rfl | rfl | rfl | rfl
    · constructor
      · rw [up_ne (by omega), up_ne (by omega), f4 _ _ (by omega), up_ne (by omega), f3 _ _ (by omega), up_ne (by omega), f2 _ _ (by omega), up_ne (by omega), f1 _ _ (by omega), up_eq]; rfl
      · rw [up_ne (by omega), g4 _ _ (by omega), up_ne (by omega), g3 _ _ (by omega), up_ne (by omega), g2 _ _ (by omega), up_ne (by omega), g1 _ _ (by omega), up_eq]; rfl
    · constructor
      · rw [up_ne (by omega), up_ne (by omega), f4 _ _ (by omega), up_ne (by omega), f3 _ _ (by omega), up_ne (by omega), f2 _ _ (by omega), up_eq]; rfl
      · rw [up_ne (by omega), g4 _ _ (by omega), up_ne (by omega), g3 _ _ (by omega), up_ne (by omega), g2 _ _ (by omega), up_eq]; rfl
    · constructor
      · rw [up_ne (by omega), up_ne (by omega), f4 _ _ (by omega), up_ne (by omega), f3 _ _ (by omega), up_eq]; rfl
      · rw [up_ne (by omega), g4 _ _ (by omega), up_ne (by omega), g3 _ _ (by omega), up_eq]; rfl
    · constructor
      · rw [up_ne (by omega), up_ne (by omega), f4 _ _ (by omega), up_eq]; rfl
      · rw [up_ne (by omega), g4 _ _ (by omega), up_eq]; rfl
    · constructor
      · rw [up_ne (by omega), up_eq]; rfl
      · rw [up_eq]; rfl
/-- an order -/
theorem order_c {nc no : Nat} (hc : nc ≤ 6) (hn : no < 8) (e6 : Jc 9 6 = Int32.ofNat nc) (e : Jc 9 8 = Int32.ofNat no) (h : TT B n st Jc Jm) : ∃ st' Kc Km, f_sho_readOrder57 Jc = some Kc ∧ (Option.bind (rdp 110 (Int32.ofNat no)) fun r18 => Option.bind (f_m_number283 (0 : Int32) (Int32.ofNat nc - (1 : Int32)) Jm) fun w19 => Option.bind (wr w19.2 r18 (0 : Int32) w19.1) fun I20 => Option.bind (f_m_number283 (0 : Int32) (5 : Int32) I20) fun w21 => Option.bind (wr w21.2 r18 (1 : Int32) w21.1) fun I22 => Option.bind (f_m_number283 (1 : Int32) (60 : Int32) I22) fun w24 => Option.bind (wr w24.2 r18 (2 : Int32) w24.1) fun I25 => Option.bind (f_m_number283 (0 : Int32) (999 : Int32) I25) fun w26 => Option.bind (wr w26.2 r18 (3 : Int32) w26.1) fun I27 => Option.bind (f_m_number283 (1 : Int32) (24 : Int32) I27) fun w28 => Option.bind (wr w28.2 r18 (4 : Int32) w28.1) fun I29 => some I29) = some Km ∧ TT B n st' Kc Km ∧ (∀ a k, ¬ (a = 1 ∧ (k = 2 ∨ k = 4 ∨ k = 5 ∨ k = 6)) → ¬ (a = 9 ∧ k = 8) → ¬ (a = 14 ∧ 5 * no ≤ k ∧ k < 5 * no + 5) → Kc a k = Jc a k) ∧ (∀ a k, ¬ (a = 47 ∧ (k = 4 ∨ k = 5 ∨ k = 6)) → a ≠ 111 + no → Km a k = Jm a k) ∧ Kc 9 8 = Int32.ofNat (no + 1) ∧ ∀ q', st' = some q' → ∃ q, ∃ f : Nat → Nat, st = some q ∧ q ≤ q' ∧ (f 0 < nc ∧ f 1 < 6 ∧ 1 ≤ f 2 ∧ f 2 ≤ 60 ∧ f 3 ≤ 999 ∧ 1 ≤ f 4 ∧ f 4 ≤ 24) ∧ ∀ j, j < 5 → Kc 14 (5 * no + j) = Int32.ofNat (f j) ∧ Km (111 + no) j = Int32.ofNat (f j) := by
  obtain ⟨s0, vc0, vm0, C0, M0, c0, m0, t0, f0, g0, d0⟩ := tt_number (loc := 0) (hic := Int32.ofNat nc - 1) (lom := 0) (him := Int32.ofNat nc - 1) h (fun q hq => ⟨0, nc, by decide, by omega, rfl, rfl, rfl, rfl⟩)
  have u0 : TT B n s0 (ab_up1 C0 14 (5 * no + 0) vc0) (ab_up1 M0 (111 + no) 0 vm0) := TT_mu (TT_cu t0 (by decide) (by decide)) (by omega) (by omega)
  obtain ⟨s1, vc1, vm1, C1, M1, c1, m1, t1, f1, g1, d1⟩ := tt_number (loc := 0) (hic := 5) (lom := 0) (him := 5) u0 (fun q hq => ⟨0, 6, by decide, by decide, rfl, rfl, rfl, rfl⟩)
  have u1 : TT B n s1 (ab_up1 C1 14 (5 * no + 1) vc1) (ab_up1 M1 (111 + no) 1 vm1) := TT_mu (TT_cu t1 (by decide) (by decide)) (by omega) (by omega)
  obtain ⟨s2, vc2, vm2, C2, M2, c2, m2, t2, f2, g2, d2⟩ := tt_number (loc := 1) (hic := 60) (lom := 1) (him := 60) u1 (fun q hq => ⟨1, 61, by decide, by decide, rfl, rfl, rfl, rfl⟩)
  have u2 : TT B n s2 (ab_up1 C2 14 (5 * no + 2) vc2) (ab_up1 M2 (111 + no) 2 vm2) := TT_mu (TT_cu t2 (by decide) (by decide)) (by omega) (by omega)
  obtain ⟨s3, vc3, vm3, C3, M3, c3, m3, t3, f3, g3, d3⟩ := tt_number (loc := 0) (hic := 999) (lom := 0) (him := 999) u2 (fun q hq => ⟨0, 1000, by decide, by decide, rfl, rfl, rfl, rfl⟩)
  have u3 : TT B n s3 (ab_up1 C3 14 (5 * no + 3) vc3) (ab_up1 M3 (111 + no) 3 vm3) := TT_mu (TT_cu t3 (by decide) (by decide)) (by omega) (by omega)
  obtain ⟨s4, vc4, vm4, C4, M4, c4, m4, t4, f4, g4, d4⟩ := tt_number (loc := 1) (hic := 24) (lom := 1) (him := 24) u3 (fun q hq => ⟨1, 25, by decide, by decide, rfl, rfl, rfl, rfl⟩)
  have ix : ∀ j : Nat, (5 : Int32) * Int32.ofNat no + Int32.ofNat j = Int32.ofNat (5 * no + j) := fun j => by rw [show (5 : Int32) * Int32.ofNat no = Int32.ofNat (5 * no) from i_mull (n := 5), i_add]
  refine ⟨s4, ab_up1 (ab_up1 C4 14 (5 * no + 4) vc4) 9 8 (Int32.ofNat (no + 1)), ab_up1 M4 (111 + no) 4 vm4, ?_, ?_, TT_mu (TT_cu (TT_cu t4 (by decide) (by decide)) (by decide) (by decide)) (by omega) (by omega), fun a k h1 h2 h3 => ?_, fun a k h1 h2 => ?_, up_eq, fun q' hq' => ?_⟩
  · unfold f_sho_readOrder57
    rw [e, show f_sho_needRoom52 (Int32.ofNat no) 8 Jc = _ from nR_ok (m := 8) hn (by decide), ob_some, e6, c0, ob_some]
    try dsimp only
    rw [e, show (5 : Int32) * Int32.ofNat no + 0 = Int32.ofNat (5 * no + 0) from ix 0, put_14 (by omega), ob_some, c1, ob_some]
    try dsimp only
    rw [show (5 : Int32) * Int32.ofNat no + 1 = Int32.ofNat (5 * no + 1) from ix 1, put_14 (by omega), ob_some, c2, ob_some]
    try dsimp only
    rw [show (5 : Int32) * Int32.ofNat no + 2 = Int32.ofNat (5 * no + 2) from ix 2, put_14 (by omega), ob_some, c3, ob_some]
    try dsimp only
    rw [show (5 : Int32) * Int32.ofNat no + 3 = Int32.ofNat (5 * no + 3) from ix 3, put_14 (by omega), ob_some, c4, ob_some]
    try dsimp only
    rw [show (5 : Int32) * Int32.ofNat no + 4 = Int32.ofNat (5 * no + 4) from ix 4, put_14 (by omega), ob_some, up_ne (by omega), f4 _ _ (by omega), up_ne (by omega), f3 _ _ (by omega), up_ne (by omega), f2 _ _ (by omega), up_ne (by omega), f1 _ _ (by omega), up_ne (by omega), f0 _ _ (by omega), e, i_addr]
  · have w : ∀ (M : MJ) (j : Nat) (x : Int32), j < 5 → wr M (111 + no) (Int32.ofNat j) x = some (ab_up1 M (111 + no) j x) := fun M j x hj => wrr_110 hn hj
    rw [rdp_110 hn, ob_some, m0, ob_some]
    try dsimp only
    rw [show wr M0 (111 + no) 0 vm0 = _ from w M0 0 _ (by decide), ob_some, m1, ob_some]
    try dsimp only
    rw [show wr M1 (111 + no) 1 vm1 = _ from w M1 1 _ (by decide), ob_some, m2, ob_some]
    try dsimp only
    rw [show wr M2 (111 + no) 2 vm2 = _ from w M2 2 _ (by decide), ob_some, m3, ob_some]
    try dsimp only
    rw [show wr M3 (111 + no) 3 vm3 = _ from w M3 3 _ (by decide), ob_some, m4, ob_some]
    try dsimp only
    rw [show wr M4 (111 + no) 4 vm4 = _ from w M4 4 _ (by decide), ob_some]
  · rw [up_ne h2, up_ne (by omega), f4 a k h1, up_ne (by omega), f3 a k h1, up_ne (by omega), f2 a k h1, up_ne (by omega), f1 a k h1, up_ne (by omega), f0 a k h1]
  · rw [up_ne (by omega), g4 a k h1, up_ne (by omega), g3 a k h1, up_ne (by omega), g2 a k h1, up_ne (by omega), g1 a k h1, up_ne (by omega), g0 a k h1]
  · obtain ⟨q3, v4, a4, b4, rfl, rfl, y4⟩ := d4 q' hq'
    obtain ⟨q2, v3, a3, b3, rfl, rfl, y3⟩ := d3 q3 a4
    obtain ⟨q1, v2, a2, b2, rfl, rfl, y2⟩ := d2 q2 a3
    obtain ⟨qq, v1, a1, b1, rfl, rfl, y1⟩ := d1 q1 a2
    obtain ⟨q0, v0, a0, b0, rfl, rfl, y0⟩ := d0 qq a1
    have z4 := y4 1 25 (by decide) (by decide) rfl rfl
    have z1 := y1 0 6 (by decide) (by decide) rfl rfl
    have z2 := y2 1 61 (by decide) (by decide) rfl rfl
    have z3 := y3 0 1000 (by decide) (by decide) rfl rfl
    have z0 := y0 0 nc (by decide) (by omega) rfl rfl
    refine ⟨q0, fun j => if j = 0 then v0 else if j = 1 then v1 else if j = 2 then v2 else if j = 3 then v3 else v4, a0, by omega, ⟨z0.2, z1.2, z2.1, by show v2 ≤ 60; omega, by show v3 ≤ 999; omega, z4.1, by show v4 ≤ 24; omega⟩, fun j hj => ?_⟩
    have hj5 : j = 0 ∨ j = 1 ∨ j = 2 ∨ j = 3 ∨ j = 4 := by omega
    rcases hj5 with rfl | rfl | rfl | rfl | rfl
    · constructor
      · rw [up_ne (by omega), up_ne (by omega), f4 _ _ (by omega), up_ne (by omega), f3 _ _ (by omega), up_ne (by omega), f2 _ _ (by omega), up_ne (by omega), f1 _ _ (by omega), up_eq]; rfl
      · rw [up_ne (by omega), g4 _ _ (by omega), up_ne (by omega), g3 _ _ (by omega), up_ne (by omega), g2 _ _ (by omega), up_ne (by omega), g1 _ _ (by omega), up_eq]; rfl
    · constructor
      · rw [up_ne (by omega), up_ne (by omega), f4 _ _ (by omega), up_ne (by omega), f3 _ _ (by omega), up_ne (by omega), f2 _ _ (by omega), up_eq]; rfl
      · rw [up_ne (by omega), g4 _ _ (by omega), up_ne (by omega), g3 _ _ (by omega), up_ne (by omega), g2 _ _ (by omega), up_eq]; rfl
    · constructor
      · rw [up_ne (by omega), up_ne (by omega), f4 _ _ (by omega), up_ne (by omega), f3 _ _ (by omega), up_eq]; rfl
      · rw [up_ne (by omega), g4 _ _ (by omega), up_ne (by omega), g3 _ _ (by omega), up_eq]; rfl
    · constructor
      · rw [up_ne (by omega), up_ne (by omega), f4 _ _ (by omega), up_eq]; rfl
      · rw [up_ne (by omega), g4 _ _ (by omega), up_eq]; rfl
    · constructor
      · rw [up_ne (by omega), up_eq]; rfl
      · rw [up_eq]; rfl
end CLAUSES
