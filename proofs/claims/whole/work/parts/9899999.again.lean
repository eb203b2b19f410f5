section AGSTEP
variable {B : Nat → Nat} {n : Nat}
def HCw (B : Nat → Nat) (n n1 n3 : Nat) (rc : Int32 → MJ → Option MJ) (rm : MJ → Option MJ) (d : Nat) : Prop := ∀ (q c : Nat) (Jc Jm : MJ), TT B n (some q) Jc Jm → Jm 47 4 = Int32.ofNat q → Jm 47 8 = Int32.ofNat (d + 1) → Jc 29 1 = Int32.ofNat c → Jm 47 34 = Int32.ofNat c → 4 * c ≤ q → shN n1 n3 Jc Jm → ∃ st Kc Km, (Option.bind (rc (Int32.ofNat (d + 1)) Jc) fun I6 => f_tap_sign58 (93 : Int32) I6) = some Kc ∧ (Option.bind (wh (nlM (fun _ s => rm s) 0) Jm) fun b24 => f_m_sign285 (93 : Int32) b24) = some Km ∧ TT B n st Kc Km ∧ fcV c Jc Kc ∧ fmV c Jm Km ∧ ∀ q', st = some q' → q < q' ∧ Km 47 8 = Int32.ofNat (d + 1) ∧ ∃ c', 4 * c' ≤ q' ∧ stN n1 n3 (d + 1) c c' Kc Km
/-- an again from its number to its closing sign -/
theorem again_mid {d c q n1 n3 : Nat} {rc : Int32 → MJ → Option MJ} {rm : MJ → Option MJ} {I2 K2 : MJ} (hc : c < 50) (HC : HCw B n n1 n3 rc rm d) (t : TT B n (some q) I2 K2) (h8 : K2 47 8 = Int32.ofNat (d + 1)) (c29 : I2 29 1 = Int32.ofNat (c + 1)) (m34 : K2 47 34 = Int32.ofNat (c + 1)) (h4c : 4 * (c + 1) ≤ q) (hS : shN n1 n3 I2 K2) : ∃ st C3 M3, (Option.bind (f_tap_number53 (0 : Int32) (20 : Int32) I2) fun w2 => Option.bind (f_pla_write97 (Int32.ofNat c) (1 : Int32) w2.1 w2.2) fun I3 => Option.bind (f_tap_sign58 (91 : Int32) I3) fun I4 => Option.bind (f_tap_isSound59 I4) fun v5 => Option.bind (α := MJ) (if v5 = 0 then some I4 else (Option.bind (rc (Int32.ofNat (d + 1)) I4) fun I9 => some I9)) fun b6 => f_tap_sign58 (93 : Int32) b6) = some C3 ∧ (Option.bind (f_m_number283 (0 : Int32) (20 : Int32) K2) fun w14 => Option.bind (wr w14.2 (496 + c) (1 : Int32) w14.1) fun I15 => Option.bind (f_m_sign285 (91 : Int32) I15) fun I16 => Option.bind (f_m_blanks270 I16) fun I17 => Option.bind (wh (nlM (fun _ s => rm s) 0) I17) fun b19 => f_m_sign285 (93 : Int32) b19) = some M3 ∧ TT B n st C3 M3 ∧ (∀ a j, ¬ (a = 1 ∧ (j = 2 ∨ j = 4 ∨ j = 5 ∨ j = 6)) → ¬ (a = 30 ∧ 4 * c + 1 ≤ j) → ¬ (a = 29 ∧ j = 1) → C3 a j = I2 a j) ∧ (∀ a j, ¬ (a = 47 ∧ (j = 4 ∨ j = 5 ∨ j = 6 ∨ j = 8 ∨ j = 34)) → ¬ (496 + (c + 1) ≤ a ∧ a < 576) → ¬ (a = 496 + c ∧ j = 1) → M3 a j = K2 a j) ∧ ∀ q', st = some q' → q < q' ∧ M3 47 8 = Int32.ofNat (d + 1) ∧ (∃ v, v ≤ 20 ∧ C3 30 (4 * c + 1) = Int32.ofNat v ∧ M3 (496 + c) 1 = Int32.ofNat v) ∧ ∃ c', 4 * c' ≤ q' ∧ stN n1 n3 (d + 1) (c + 1) c' C3 M3 := by
  obtain ⟨S1, S2, S3, S4⟩ := hS
  obtain ⟨s1, C1, M1, a1, b1, t1, f1, g1, v1⟩ := tt_stCell (k := c) (jc := 1) (jm := 1) (m := 21) (hic := 20) (him := 20) (by omega) (by decide) (by decide) (by decide) t rfl rfl
  obtain ⟨w1, a1a, a1b⟩ := b_inv a1
  obtain ⟨u1, b1a, b1b⟩ := b_inv b1
  obtain ⟨s2, C2, M2, a2, b2, t2, f2, g2, v2⟩ := tt_sign (c := 91) (by decide) t1
  obtain ⟨M3, b3, t3, g3, v3⟩ := tt_blanks t2
  have hC : ∀ R, (Option.bind (α := MJ) (if (if C2 1 5 = 0 then (1 : Int32) else 0) = 0 then some C2 else (Option.bind (rc (Int32.ofNat (d + 1)) C2) fun I9 => some I9)) fun b6 => f_tap_sign58 (93 : Int32) b6) = R → (Option.bind (f_tap_number53 (0 : Int32) (20 : Int32) I2) fun w2 => Option.bind (f_pla_write97 (Int32.ofNat c) (1 : Int32) w2.1 w2.2) fun I3 => Option.bind (f_tap_sign58 (91 : Int32) I3) fun I4 => Option.bind (f_tap_isSound59 I4) fun v5 => Option.bind (α := MJ) (if v5 = 0 then some I4 else (Option.bind (rc (Int32.ofNat (d + 1)) I4) fun I9 => some I9)) fun b6 => f_tap_sign58 (93 : Int32) b6) = R := fun R r => by
    rw [a1a, ob_some, show f_pla_write97 (Int32.ofNat c) 1 w1.1 w1.2 = some C1 from a1b, ob_some, show f_tap_sign58 91 C1 = some C2 from a2, ob_some, x_sound, ob_some]
    exact r
  have hM : ∀ R, (Option.bind (wh (nlM (fun _ s => rm s) 0) M3) fun b19 => f_m_sign285 (93 : Int32) b19) = R → (Option.bind (f_m_number283 (0 : Int32) (20 : Int32) K2) fun w14 => Option.bind (wr w14.2 (496 + c) (1 : Int32) w14.1) fun I15 => Option.bind (f_m_sign285 (91 : Int32) I15) fun I16 => Option.bind (f_m_blanks270 I16) fun I17 => Option.bind (wh (nlM (fun _ s => rm s) 0) I17) fun b19 => f_m_sign285 (93 : Int32) b19) = R := fun R r => by
    rw [b1a, ob_some, show wr u1.2 (496 + c) 1 u1.1 = some M1 from b1b, ob_some, show f_m_sign285 91 M1 = some M2 from b2, ob_some, b3, ob_some]
    exact r
  have fC : ∀ a j, ¬ (a = 1 ∧ (j = 2 ∨ j = 4 ∨ j = 5 ∨ j = 6)) → ¬ (a = 30 ∧ j = 4 * c + 1) → C2 a j = I2 a j := fun a j z1 z2 => by rw [f2 a j z1, f1 a j z1 z2]
  have fM : ∀ a j, ¬ (a = 47 ∧ (j = 4 ∨ j = 5 ∨ j = 6)) → ¬ (a = 496 + c ∧ j = 1) → M3 a j = K2 a j := fun a j z1 z2 => by rw [g3 a j z1, g2 a j z1, g1 a j z1 z2]
  cases s2 with
  | none =>
    obtain ⟨y1, y2⟩ := TT_none t3
    refine ⟨none, C2, M3, hC _ ?_, hM _ ?_, t3, fun a j z1 z2 z3 => fC a j z1 (by omega), fun a j z1 z2 z3 => fM a j (by omega) z3, fun q' e => by cases e⟩
    · rw [if_neg y1, if_pos rfl, ob_some, x_sign_f y1]
    · rw [wh_inr (nlM_f y2), ob_some, m_sign_f y2]
  | some q2 =>
    obtain ⟨q1, w2, w3⟩ := v2 q2 rfl
    obtain ⟨q0, v, w4, w5, w6, w7, w8⟩ := v1 q1 w2
    have := Option.some.inj w4
    obtain ⟨st, C4, M4, r1, r2, r3, r4, r5, r6⟩ := HC q2 (c + 1) C2 M3 t3 (v3 q2 rfl) (by rw [fM _ _ (by omega) (by omega)]; exact h8) (by rw [fC _ _ (by omega) (by omega)]; exact c29) (by rw [fM _ _ (by omega) (by omega)]; exact m34) (by omega) ⟨by rw [fC _ _ (by omega) (by omega)]; exact S1, by rw [fC _ _ (by omega) (by omega)]; exact S2, by rw [fM _ _ (by omega) (by omega)]; exact S3, by rw [fM _ _ (by omega) (by omega)]; exact S4⟩
    refine ⟨st, C4, M4, hC _ ?_, hM _ r2, r3, fun a j z1 z2 z3 => by rw [r4 a j z1 (by omega) z3, fC a j z1 (by omega)], fun a j z1 z2 z3 => by rw [r5 a j z1 z2, fM a j (by omega) z3], fun q' e => ?_⟩
    · rw [if_pos (TT_some t3).1, if_neg (show ¬ (1 : Int32) = 0 by decide), b_some]
      exact r1
    · obtain ⟨x1, x2, x3⟩ := r6 q' e
      refine ⟨by omega, x2, ⟨v, by omega, ?_, ?_⟩, x3⟩
      · rw [r4 _ _ (by omega) (by omega) (by omega), f2 _ _ (by omega)]; exact w7
      · rw [r5 _ _ (by omega) (by omega), g3 _ _ (by omega), g2 _ _ (by omega)]; exact w8
end AGSTEP
