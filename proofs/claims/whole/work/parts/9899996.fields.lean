/-! work: the numbers of a step that isn't an again -/
noncomputable def fdC (kd c : Int32) (I2 : MJ) : Option MJ :=
  (Option.bind (α := MJ)
  (if kd = (4 : Int32) then
  (Option.bind (f_tap_number53 (0 : Int32) ((I2 3 8) - (1 : Int32)) I2) fun w12 =>
  (Option.bind (f_pla_write97 c (1 : Int32) w12.1 w12.2) fun I13 =>
  some I13
  )
  )
  else
  (if kd = (5 : Int32) then
  some I2
  else
  (Option.bind (f_tap_number53 (0 : Int32) ((I2 3 6) - (1 : Int32)) I2) fun w14 =>
  (Option.bind (f_pla_write97 c (1 : Int32) w14.1 w14.2) fun I15 =>
  some I15
  )
  )
  )
  )
  fun b3 =>
  (Option.bind (α := MJ)
  (if kd = 0 then
  (Option.bind (f_tap_number53 (0 : Int32) (5 : Int32) b3) fun w5 =>
  (Option.bind (f_pla_write97 c (2 : Int32) w5.1 w5.2) fun I6 =>
  some I6
  )
  )
  else
  (if kd = (1 : Int32) then
  (Option.bind (f_tap_number53 (0 : Int32) (11 : Int32) b3) fun w7 =>
  (Option.bind (f_pla_write97 c (2 : Int32) w7.1 w7.2) fun I8 =>
  (Option.bind (f_tap_word45 2000006 I8) fun w9 =>
  (Option.bind (f_pla_write97 c (3 : Int32) w9.1 w9.2) fun I10 =>
  some I10
  )
  )
  )
  )
  else
  some b3
  )
  )
  fun b4 =>
  some b4
  )
  )
noncomputable def fdM {γ : Type} (kd : Int32) (r36 : Nat) (I37 : MJ) (R : MJ → Option γ) : Option γ :=
  (Option.bind (α := MJ)
  (if kd < (4 : Int32) then
  (Option.bind (f_m_number283 (0 : Int32) ((I37 51 1) - (1 : Int32)) I37) fun w64 =>
  (Option.bind (wr w64.2 r36 (1 : Int32) w64.1) fun I65 =>
  some I65
  )
  )
  else
  some I37
  )
  fun b38 =>
  (Option.bind (α := MJ)
  (if kd = 0 then
  (Option.bind (f_m_number283 (0 : Int32) (5 : Int32) b38) fun w62 =>
  (Option.bind (wr w62.2 r36 (2 : Int32) w62.1) fun I63 =>
  some I63
  )
  )
  else
  some b38
  )
  fun b39 =>
  (Option.bind (α := MJ)
  (if kd = (1 : Int32) then
  (Option.bind (f_m_number283 (0 : Int32) (11 : Int32) b39) fun w57 =>
  (Option.bind (wr w57.2 r36 (2 : Int32) w57.1) fun I58 =>
  (Option.bind (α := Int32 × MJ)
  (if (I58 47 5) = 0 then
  (Option.bind (f_m_skyHere281 I58) fun w61 =>
  some (w61.1, w61.2)
  )
  else
  some ((0 : Int32), I58)
  )
  fun b59 =>
  (Option.bind (wr b59.2 r36 (3 : Int32) b59.1) fun I60 =>
  some I60
  )
  )
  )
  )
  else
  some b39
  )
  fun b40 =>
  (Option.bind (α := MJ)
  (if kd = (4 : Int32) then
  (Option.bind (f_m_number283 (0 : Int32) ((b40 51 3) - (1 : Int32)) b40) fun w55 =>
  (Option.bind (wr w55.2 r36 (1 : Int32) w55.1) fun I56 =>
  some I56
  )
  )
  else
  some b40
  )
  R))))
/-- the numbers of a step of one kind -/
def fldR (n1 n3 kd k : Nat) (Jc Jm : MJ) : Prop := (kd < 4 → ∃ v, v < n1 ∧ Jc 30 (4 * k + 1) = Int32.ofNat v ∧ Jm (496 + k) 1 = Int32.ofNat v) ∧ (kd = 0 → ∃ v, v < 6 ∧ Jc 30 (4 * k + 2) = Int32.ofNat v ∧ Jm (496 + k) 2 = Int32.ofNat v) ∧ (kd = 1 → ∃ v w, v < 12 ∧ w < 6 ∧ Jc 30 (4 * k + 2) = Int32.ofNat v ∧ Jm (496 + k) 2 = Int32.ofNat v ∧ Jc 30 (4 * k + 3) = Int32.ofNat w ∧ Jm (496 + k) 3 = Int32.ofNat w) ∧ (kd = 4 → ∃ v, v < n3 ∧ Jc 30 (4 * k + 1) = Int32.ofNat v ∧ Jm (496 + k) 1 = Int32.ofNat v)
def fcSt (k : Nat) (I J : MJ) : Prop := ∀ a j, ¬ (a = 1 ∧ (j = 2 ∨ j = 4 ∨ j = 5 ∨ j = 6)) → ¬ (a = 30 ∧ 4 * k < j ∧ j < 4 * k + 4) → J a j = I a j
def fmSt (k : Nat) (I J : MJ) : Prop := ∀ a j, ¬ (a = 47 ∧ (j = 4 ∨ j = 5 ∨ j = 6)) → ¬ (a = 496 + k ∧ 1 ≤ j ∧ j ≤ 3) → J a j = I a j
section FIELDS
variable {B : Nat → Nat} {n : Nat}
theorem fields_it {kd k q n1 n3 : Nat} {Jc Jm : MJ} (hkd : kd < 6) (hk : k < 64) (h1 : n1 < 1000) (h3 : n3 < 1000) (t : TT B n (some q) Jc Jm) (c6 : Jc 3 6 = Int32.ofNat n1) (c8 : Jc 3 8 = Int32.ofNat n3) (m1 : Jm 51 1 = Int32.ofNat n1) (m3 : Jm 51 3 = Int32.ofNat n3) : ∃ st Kc Km, fdC (Int32.ofNat kd) (Int32.ofNat k) Jc = some Kc ∧ (∀ {γ : Type} (R : MJ → Option γ), fdM (Int32.ofNat kd) (496 + k) Jm R = R Km) ∧ TT B n st Kc Km ∧ fcSt k Jc Kc ∧ fmSt k Jm Km ∧ ∀ q', st = some q' → q ≤ q' ∧ fldR n1 n3 kd k Kc Km := by
  have hkk : kd = 0 ∨ kd = 1 ∨ kd = 2 ∨ kd = 3 ∨ kd = 4 ∨ kd = 5 := by omega
  rcases hkk with rfl | rfl | rfl | rfl | rfl | rfl
  · -- kind 0
    obtain ⟨s1, C1, M1, a1, b1, t1, f1, g1, v1⟩ := tt_stCell (k := k) (jc := 1) (jm := 1) (m := n1) (hic := (Jc 3 6 - 1)) (him := (Jm 51 1 - 1)) hk (by decide) (by decide) (by omega) t (by rw [c6]) (by rw [m1])
    obtain ⟨w1, a1a, a1b⟩ := b_inv a1
    obtain ⟨u1, b1a, b1b⟩ := b_inv b1
    obtain ⟨s2, C2, M2, a2, b2, t2, f2, g2, v2⟩ := tt_stCell (k := k) (jc := 2) (jm := 2) (m := 6) (hic := 5) (him := 5) hk (by decide) (by decide) (by decide) t1 rfl rfl
    obtain ⟨w2, a2a, a2b⟩ := b_inv a2
    obtain ⟨u2, b2a, b2b⟩ := b_inv b2
    refine ⟨s2, C2, M2, ?_, fun {γ} R => ?_, t2, fun a j z1 z2 => by rw [f2 a j z1 (by omega), f1 a j z1 (by omega)], fun a j z1 z2 => by rw [g2 a j z1 (by omega), g1 a j z1 (by omega)], fun q' e => ?_⟩
    · unfold fdC
      rw [if_neg (show ¬ Int32.ofNat 0 = (4 : Int32) by decide), if_neg (show ¬ Int32.ofNat 0 = (5 : Int32) by decide)]
      rw [show f_tap_number53 0 (Jc 3 6 - 1) Jc = some w1 from a1a, ob_some, show f_pla_write97 (Int32.ofNat k) 1 w1.1 w1.2 = some C1 from a1b, ob_some]
      rw [ob_some, if_pos (show Int32.ofNat 0 = (0 : Int32) from rfl)]
      rw [show f_tap_number53 0 5 C1 = some w2 from a2a, ob_some, show f_pla_write97 (Int32.ofNat k) 2 w2.1 w2.2 = some C2 from a2b, ob_some]
      rw [ob_some]
    · unfold fdM
      rw [if_pos (show Int32.ofNat 0 < (4 : Int32) by decide)]
      rw [show f_m_number283 0 (Jm 51 1 - 1) Jm = some u1 from b1a, ob_some, show wr u1.2 (496 + k) 1 u1.1 = some M1 from b1b, ob_some, ob_some]
      rw [if_pos (show Int32.ofNat 0 = (0 : Int32) from rfl)]
      rw [show f_m_number283 0 5 M1 = some u2 from b2a, ob_some, show wr u2.2 (496 + k) 2 u2.1 = some M2 from b2b, ob_some, ob_some]
      rw [if_neg (show ¬ Int32.ofNat 0 = (1 : Int32) by decide), ob_some]
      rw [if_neg (show ¬ Int32.ofNat 0 = (4 : Int32) by decide), ob_some]
    · obtain ⟨q1, x2, p2, o2, l2, y2, r2⟩ := v2 q' e
      obtain ⟨q0, x1, p1, o1, l1, y1, r1⟩ := v1 q1 p2
      have := Option.some.inj p1
      exact ⟨by omega, fun _ => ⟨x1, l1, by rw [f2 _ _ (by omega) (by omega)]; exact y1, by rw [g2 _ _ (by omega) (by omega)]; exact r1⟩, fun _ => ⟨x2, l2, y2, r2⟩, fun z => by omega, fun z => by omega⟩
  · -- kind 1
    obtain ⟨s1, C1, M1, a1, b1, t1, f1, g1, v1⟩ := tt_stCell (k := k) (jc := 1) (jm := 1) (m := n1) (hic := (Jc 3 6 - 1)) (him := (Jm 51 1 - 1)) hk (by decide) (by decide) (by omega) t (by rw [c6]) (by rw [m1])
    obtain ⟨w1, a1a, a1b⟩ := b_inv a1
    obtain ⟨u1, b1a, b1b⟩ := b_inv b1
    obtain ⟨s2, C2, M2, a2, b2, t2, f2, g2, v2⟩ := tt_stCell (k := k) (jc := 2) (jm := 2) (m := 12) (hic := 11) (him := 11) hk (by decide) (by decide) (by decide) t1 rfl rfl
    obtain ⟨w2, a2a, a2b⟩ := b_inv a2
    obtain ⟨u2, b2a, b2b⟩ := b_inv b2
    obtain ⟨s3, C3, M3, a3, b3, t3, f3, g3, v3⟩ := tt_skyCell hk t2
    obtain ⟨w3, a3a, a3b⟩ := b_inv a3
    obtain ⟨u3, b3a, b3b⟩ := b_inv b3
    refine ⟨s3, C3, M3, ?_, fun {γ} R => ?_, t3, fun a j z1 z2 => by rw [f3 a j z1 (by omega), f2 a j z1 (by omega), f1 a j z1 (by omega)], fun a j z1 z2 => by rw [g3 a j z1 (by omega), g2 a j z1 (by omega), g1 a j z1 (by omega)], fun q' e => ?_⟩
    · unfold fdC
      rw [if_neg (show ¬ Int32.ofNat 1 = (4 : Int32) by decide), if_neg (show ¬ Int32.ofNat 1 = (5 : Int32) by decide)]
      rw [show f_tap_number53 0 (Jc 3 6 - 1) Jc = some w1 from a1a, ob_some, show f_pla_write97 (Int32.ofNat k) 1 w1.1 w1.2 = some C1 from a1b, ob_some]
      rw [ob_some, if_neg (show ¬ Int32.ofNat 1 = (0 : Int32) by decide), if_pos (show Int32.ofNat 1 = (1 : Int32) from rfl)]
      rw [show f_tap_number53 0 11 C1 = some w2 from a2a, ob_some, show f_pla_write97 (Int32.ofNat k) 2 w2.1 w2.2 = some C2 from a2b, ob_some]
      rw [a3a, ob_some, show f_pla_write97 (Int32.ofNat k) 3 w3.1 w3.2 = some C3 from a3b, ob_some, ob_some]
    · unfold fdM
      rw [if_pos (show Int32.ofNat 1 < (4 : Int32) by decide)]
      rw [show f_m_number283 0 (Jm 51 1 - 1) Jm = some u1 from b1a, ob_some, show wr u1.2 (496 + k) 1 u1.1 = some M1 from b1b, ob_some, ob_some]
      rw [if_neg (show ¬ Int32.ofNat 1 = (0 : Int32) by decide), ob_some]
      rw [if_pos (show Int32.ofNat 1 = (1 : Int32) from rfl)]
      rw [show f_m_number283 0 11 M1 = some u2 from b2a, ob_some, show wr u2.2 (496 + k) 2 u2.1 = some M2 from b2b, ob_some, b3a, ob_some, show wr u3.2 (496 + k) 3 u3.1 = some M3 from b3b, ob_some, ob_some]
      rw [if_neg (show ¬ Int32.ofNat 1 = (4 : Int32) by decide), ob_some]
    · obtain ⟨q2, x3, p3, o3, l3, y3, r3⟩ := v3 q' e
      obtain ⟨q1, x2, p2, o2, l2, y2, r2⟩ := v2 q2 p3
      obtain ⟨q0, x1, p1, o1, l1, y1, r1⟩ := v1 q1 p2
      have := Option.some.inj p1
      exact ⟨by omega, fun _ => ⟨x1, l1, by rw [f3 _ _ (by omega) (by omega), f2 _ _ (by omega) (by omega)]; exact y1, by rw [g3 _ _ (by omega) (by omega), g2 _ _ (by omega) (by omega)]; exact r1⟩, fun z => by omega, fun _ => ⟨x2, x3, l2, l3, by rw [f3 _ _ (by omega) (by omega)]; exact y2, by rw [g3 _ _ (by omega) (by omega)]; exact r2, y3, r3⟩, fun z => by omega⟩
  · -- kind 2
    obtain ⟨s1, C1, M1, a1, b1, t1, f1, g1, v1⟩ := tt_stCell (k := k) (jc := 1) (jm := 1) (m := n1) (hic := (Jc 3 6 - 1)) (him := (Jm 51 1 - 1)) hk (by decide) (by decide) (by omega) t (by rw [c6]) (by rw [m1])
    obtain ⟨w1, a1a, a1b⟩ := b_inv a1
    obtain ⟨u1, b1a, b1b⟩ := b_inv b1
    refine ⟨s1, C1, M1, ?_, fun {γ} R => ?_, t1, fun a j z1 z2 => by rw [f1 a j z1 (by omega)], fun a j z1 z2 => by rw [g1 a j z1 (by omega)], fun q' e => ?_⟩
    · unfold fdC
      rw [if_neg (show ¬ Int32.ofNat 2 = (4 : Int32) by decide), if_neg (show ¬ Int32.ofNat 2 = (5 : Int32) by decide)]
      rw [show f_tap_number53 0 (Jc 3 6 - 1) Jc = some w1 from a1a, ob_some, show f_pla_write97 (Int32.ofNat k) 1 w1.1 w1.2 = some C1 from a1b, ob_some]
      rw [ob_some, if_neg (show ¬ Int32.ofNat 2 = (0 : Int32) by decide), if_neg (show ¬ Int32.ofNat 2 = (1 : Int32) by decide), ob_some]
    · unfold fdM
      rw [if_pos (show Int32.ofNat 2 < (4 : Int32) by decide)]
      rw [show f_m_number283 0 (Jm 51 1 - 1) Jm = some u1 from b1a, ob_some, show wr u1.2 (496 + k) 1 u1.1 = some M1 from b1b, ob_some, ob_some]
      rw [if_neg (show ¬ Int32.ofNat 2 = (0 : Int32) by decide), ob_some]
      rw [if_neg (show ¬ Int32.ofNat 2 = (1 : Int32) by decide), ob_some]
      rw [if_neg (show ¬ Int32.ofNat 2 = (4 : Int32) by decide), ob_some]
    · obtain ⟨q0, x1, p1, o1, l1, y1, r1⟩ := v1 q' e
      have := Option.some.inj p1
      exact ⟨by omega, fun _ => ⟨x1, l1, y1, r1⟩, fun z => by omega, fun z => by omega, fun z => by omega⟩
  · -- kind 3
    obtain ⟨s1, C1, M1, a1, b1, t1, f1, g1, v1⟩ := tt_stCell (k := k) (jc := 1) (jm := 1) (m := n1) (hic := (Jc 3 6 - 1)) (him := (Jm 51 1 - 1)) hk (by decide) (by decide) (by omega) t (by rw [c6]) (by rw [m1])
    obtain ⟨w1, a1a, a1b⟩ := b_inv a1
    obtain ⟨u1, b1a, b1b⟩ := b_inv b1
    refine ⟨s1, C1, M1, ?_, fun {γ} R => ?_, t1, fun a j z1 z2 => by rw [f1 a j z1 (by omega)], fun a j z1 z2 => by rw [g1 a j z1 (by omega)], fun q' e => ?_⟩
    · unfold fdC
      rw [if_neg (show ¬ Int32.ofNat 3 = (4 : Int32) by decide), if_neg (show ¬ Int32.ofNat 3 = (5 : Int32) by decide)]
      rw [show f_tap_number53 0 (Jc 3 6 - 1) Jc = some w1 from a1a, ob_some, show f_pla_write97 (Int32.ofNat k) 1 w1.1 w1.2 = some C1 from a1b, ob_some]
      rw [ob_some, if_neg (show ¬ Int32.ofNat 3 = (0 : Int32) by decide), if_neg (show ¬ Int32.ofNat 3 = (1 : Int32) by decide), ob_some]
    · unfold fdM
      rw [if_pos (show Int32.ofNat 3 < (4 : Int32) by decide)]
      rw [show f_m_number283 0 (Jm 51 1 - 1) Jm = some u1 from b1a, ob_some, show wr u1.2 (496 + k) 1 u1.1 = some M1 from b1b, ob_some, ob_some]
      rw [if_neg (show ¬ Int32.ofNat 3 = (0 : Int32) by decide), ob_some]
      rw [if_neg (show ¬ Int32.ofNat 3 = (1 : Int32) by decide), ob_some]
      rw [if_neg (show ¬ Int32.ofNat 3 = (4 : Int32) by decide), ob_some]
    · obtain ⟨q0, x1, p1, o1, l1, y1, r1⟩ := v1 q' e
      have := Option.some.inj p1
      exact ⟨by omega, fun _ => ⟨x1, l1, y1, r1⟩, fun z => by omega, fun z => by omega, fun z => by omega⟩
  · -- kind 4
    obtain ⟨s1, C1, M1, a1, b1, t1, f1, g1, v1⟩ := tt_stCell (k := k) (jc := 1) (jm := 1) (m := n3) (hic := (Jc 3 8 - 1)) (him := (Jm 51 3 - 1)) hk (by decide) (by decide) (by omega) t (by rw [c8]) (by rw [m3])
    obtain ⟨w1, a1a, a1b⟩ := b_inv a1
    obtain ⟨u1, b1a, b1b⟩ := b_inv b1
    refine ⟨s1, C1, M1, ?_, fun {γ} R => ?_, t1, fun a j z1 z2 => by rw [f1 a j z1 (by omega)], fun a j z1 z2 => by rw [g1 a j z1 (by omega)], fun q' e => ?_⟩
    · unfold fdC
      rw [if_pos (show Int32.ofNat 4 = (4 : Int32) from rfl)]
      rw [show f_tap_number53 0 (Jc 3 8 - 1) Jc = some w1 from a1a, ob_some, show f_pla_write97 (Int32.ofNat k) 1 w1.1 w1.2 = some C1 from a1b, ob_some]
      rw [ob_some, if_neg (show ¬ Int32.ofNat 4 = (0 : Int32) by decide), if_neg (show ¬ Int32.ofNat 4 = (1 : Int32) by decide), ob_some]
    · unfold fdM
      rw [if_neg (show ¬ Int32.ofNat 4 < (4 : Int32) by decide), ob_some]
      rw [if_neg (show ¬ Int32.ofNat 4 = (0 : Int32) by decide), ob_some]
      rw [if_neg (show ¬ Int32.ofNat 4 = (1 : Int32) by decide), ob_some]
      rw [if_pos (show Int32.ofNat 4 = (4 : Int32) from rfl)]
      rw [show f_m_number283 0 (Jm 51 3 - 1) Jm = some u1 from b1a, ob_some, show wr u1.2 (496 + k) 1 u1.1 = some M1 from b1b, ob_some, ob_some]
    · obtain ⟨q0, x1, p1, o1, l1, y1, r1⟩ := v1 q' e
      have := Option.some.inj p1
      exact ⟨by omega, fun z => by omega, fun z => by omega, fun z => by omega, fun _ => ⟨x1, l1, y1, r1⟩⟩
  · -- kind 5
    refine ⟨some q, Jc, Jm, ?_, fun {γ} R => ?_, t, fun a j z1 z2 => rfl, fun a j z1 z2 => rfl, fun q' e => ?_⟩
    · unfold fdC
      rw [if_neg (show ¬ Int32.ofNat 5 = (4 : Int32) by decide), if_pos (show Int32.ofNat 5 = (5 : Int32) from rfl), ob_some, if_neg (show ¬ Int32.ofNat 5 = (0 : Int32) by decide), if_neg (show ¬ Int32.ofNat 5 = (1 : Int32) by decide), ob_some]
    · unfold fdM
      rw [if_neg (show ¬ Int32.ofNat 5 < (4 : Int32) by decide), ob_some]
      rw [if_neg (show ¬ Int32.ofNat 5 = (0 : Int32) by decide), ob_some]
      rw [if_neg (show ¬ Int32.ofNat 5 = (1 : Int32) by decide), ob_some]
      rw [if_neg (show ¬ Int32.ofNat 5 = (4 : Int32) by decide), ob_some]
    · have := Option.some.inj e
      exact ⟨by omega, fun z => by omega, fun z => by omega, fun z => by omega, fun z => by omega⟩
end FIELDS
