/-! work: the steps as both keep them -/
/-- one step of both: kind, its numbers, and the place behind it (model: cell 4; class: cell 2 of an again) -/
def rowR (n1 n3 k c : Nat) (Jc Jm : MJ) : Prop := ∃ kd, kd < 7 ∧ Jc 30 (4 * k) = Int32.ofNat kd ∧ Jm (496 + k) 0 = Int32.ofNat kd ∧ (kd < 4 → ∃ v, v < n1 ∧ Jc 30 (4 * k + 1) = Int32.ofNat v ∧ Jm (496 + k) 1 = Int32.ofNat v) ∧ (kd = 0 → ∃ v, v < 6 ∧ Jc 30 (4 * k + 2) = Int32.ofNat v ∧ Jm (496 + k) 2 = Int32.ofNat v) ∧ (kd = 1 → ∃ v w, v < 12 ∧ w < 6 ∧ Jc 30 (4 * k + 2) = Int32.ofNat v ∧ Jm (496 + k) 2 = Int32.ofNat v ∧ Jc 30 (4 * k + 3) = Int32.ofNat w ∧ Jm (496 + k) 3 = Int32.ofNat w) ∧ (kd = 4 → ∃ v, v < n3 ∧ Jc 30 (4 * k + 1) = Int32.ofNat v ∧ Jm (496 + k) 1 = Int32.ofNat v) ∧ (kd = 6 → ∃ v, v ≤ 20 ∧ Jc 30 (4 * k + 1) = Int32.ofNat v ∧ Jm (496 + k) 1 = Int32.ofNat v) ∧ ∃ e, k < e ∧ e ≤ c ∧ Jm (496 + k) 4 = Int32.ofNat e ∧ (kd ≠ 6 → e = k + 1) ∧ (kd = 6 → Jc 30 (4 * k + 2) = Int32.ofNat e)
def fcW (I J : MJ) : Prop := ∀ a k, ¬ (a = 1 ∧ (k = 2 ∨ k = 4 ∨ k = 5 ∨ k = 6)) → a ≠ 30 → ¬ (a = 29 ∧ k = 1) → J a k = I a k
def fmW (I J : MJ) : Prop := ∀ a k, ¬ (a = 47 ∧ (k = 4 ∨ k = 5 ∨ k = 6 ∨ k = 8 ∨ k = 34)) → ¬ (496 ≤ a ∧ a < 576) → J a k = I a k
theorem fcW_1 {I J K : MJ} (h : fcW I J) (f : fr1 J K) : fcW I K := fun a k h1 h2 h3 => (f a k h1).trans (h a k h1 h2 h3)
theorem fmW_1 {I J K : MJ} (h : fmW I J) (f : fr47 J K) : fmW I K := fun a k h1 h2 => (f a k (by omega)).trans (h a k h1 h2)
theorem x_stCell {k j : Nat} {v : Int32} {J : MJ} (hk : k < 64) (hj : j < 4) : f_pla_write97 (Int32.ofNat k) (Int32.ofNat j) v J = some (ab_up1 J 30 (4 * k + j) v) := by
  unfold f_pla_write97
  rw [show (4 : Int32) * Int32.ofNat k = Int32.ofNat (4 * k) from i_mull, i_add, put_30 (by omega), ob_some]
section STEPS
variable {B : Nat → Nat} {n : Nat}
/-- a number of a step, read and kept by both -/
theorem tt_stCell {k jc jm m : Nat} {hic him : Int32} {st : Option Nat} {Jc Jm : MJ} (hk : k < 64) (hjc : jc < 4) (hjm : jm < 5) (hm : m < 100000) (t : TT B n st Jc Jm) (e1 : hic = Int32.ofNat m - 1) (e2 : him = Int32.ofNat m - 1) : ∃ st' Kc Km, (Option.bind (f_tap_number53 0 hic Jc) fun w => f_pla_write97 (Int32.ofNat k) (Int32.ofNat jc) w.1 w.2) = some Kc ∧ (Option.bind (f_m_number283 0 him Jm) fun w => wr w.2 (496 + k) (Int32.ofNat jm) w.1) = some Km ∧ TT B n st' Kc Km ∧ (∀ a j, ¬ (a = 1 ∧ (j = 2 ∨ j = 4 ∨ j = 5 ∨ j = 6)) → ¬ (a = 30 ∧ j = 4 * k + jc) → Kc a j = Jc a j) ∧ (∀ a j, ¬ (a = 47 ∧ (j = 4 ∨ j = 5 ∨ j = 6)) → ¬ (a = 496 + k ∧ j = jm) → Km a j = Jm a j) ∧ ∀ q', st' = some q' → ∃ q v, st = some q ∧ q < q' ∧ v < m ∧ Kc 30 (4 * k + jc) = Int32.ofNat v ∧ Km (496 + k) jm = Int32.ofNat v := by
  obtain ⟨st', vc, vm, J2, K2, c1, m1, t1, f1, f2, v1⟩ := tt_number (loc := 0) (hic := hic) (lom := 0) (him := him) t (fun _ _ => ⟨0, m, by decide, hm, rfl, rfl, e1, e2⟩)
  refine ⟨st', ab_up1 J2 30 (4 * k + jc) vc, ab_up1 K2 (496 + k) jm vm, ?_, ?_, TT_mu (TT_cu t1 (by decide) (by decide)) (by omega) (by omega), fun a j h1 h2 => by rw [up_ne h2, f1 a j h1], fun a j h1 h2 => by rw [up_ne h2, f2 a j h1], fun q' e => ?_⟩
  · rw [c1, ob_some]
    exact x_stCell hk hjc
  · rw [m1, ob_some]
    exact wrr_495 (by omega) hjm
  · obtain ⟨q, v, g1, g2, g3, g4, g5⟩ := v1 q' e
    have hv := g5 0 m (by decide) hm rfl e1
    exact ⟨q, v, g1, g2, hv.2, by rw [up_eq]; exact g3, by rw [up_eq]; exact g4⟩
/-- a kind of a step, read and kept by both -/
theorem tt_skyCell {k : Nat} {st : Option Nat} {Jc Jm : MJ} (hk : k < 64) (t : TT B n st Jc Jm) : ∃ st' Kc Km, (Option.bind (f_tap_word45 2000006 Jc) fun w => f_pla_write97 (Int32.ofNat k) (Int32.ofNat 3) w.1 w.2) = some Kc ∧ (Option.bind (α := Int32 × MJ) (if Jm 47 5 = 0 then (Option.bind (f_m_skyHere281 Jm) fun w30 => some (w30.1, w30.2)) else some ((0 : Int32), Jm)) fun b => wr b.2 (496 + k) (Int32.ofNat 3) b.1) = some Km ∧ TT B n st' Kc Km ∧ (∀ a j, ¬ (a = 1 ∧ (j = 2 ∨ j = 4 ∨ j = 5 ∨ j = 6)) → ¬ (a = 30 ∧ j = 4 * k + 3) → Kc a j = Jc a j) ∧ (∀ a j, ¬ (a = 47 ∧ (j = 4 ∨ j = 5 ∨ j = 6)) → ¬ (a = 496 + k ∧ j = 3) → Km a j = Jm a j) ∧ ∀ q', st' = some q' → ∃ q v, st = some q ∧ q ≤ q' ∧ v < 6 ∧ Kc 30 (4 * k + 3) = Int32.ofNat v ∧ Km (496 + k) 3 = Int32.ofNat v := by
  cases st with
  | some q =>
    obtain ⟨st', vc, vm, J2, K2, a1, a2, a3, a4, a5, a6⟩ := tt_sky xw_6 t
    refine ⟨st', ab_up1 J2 30 (4 * k + 3) vc, ab_up1 K2 (496 + k) 3 vm, ?_, ?_, TT_mu (TT_cu a3 (by decide) (by decide)) (by omega) (by omega), fun a j h1 h2 => by rw [up_ne h2, a4 a j h1], fun a j h1 h2 => by rw [up_ne h2, a5 a j h1], fun q' e => ?_⟩
    · rw [a1, ob_some]
      exact x_stCell hk (by decide)
    · rw [if_pos (TT_some t).2.1, a2, ob_some, ob_some]
      exact wrr_495 (by omega) (by decide)
    · obtain ⟨q0, v, g1, g2, g3, g4, g5⟩ := a6 q' e
      exact ⟨q0, v, g1, g2, g5, by rw [up_eq]; exact g3, by rw [up_eq]; exact g4⟩
  | none =>
    obtain ⟨b1, b2⟩ := TT_none t
    refine ⟨none, ab_up1 Jc 30 (4 * k + 3) (-1), ab_up1 Jm (496 + k) 3 0, ?_, ?_, TT_mu (TT_cu t (by decide) (by decide)) (by omega) (by omega), fun a j h1 h2 => up_ne h2, fun a j h1 h2 => up_ne h2, fun q' e => by cases e⟩
    · rw [x_word_f b1, ob_some]
      exact x_stCell hk (by decide)
    · rw [if_neg b2, ob_some]
      exact wrr_495 (by omega) (by decide)
end STEPS
