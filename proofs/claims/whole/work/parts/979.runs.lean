/-! the model's pieces: run by run -/
theorem cutF_run {bk : Nat → Nat} {nb : Nat} {K L : Nat → Int32} {s : Nat} : ∀ m, s + m < 12 → (∀ i, i ≤ m → K (s + i) = K s) → cutF bk nb K (12 - s) 1 L = cutF bk nb K (12 - s - m) (m + 1) L
  | 0, _, _ => rfl
  | m + 1, h, hk => by
    rw [cutF_run m (by omega) (fun i hi => hk i (by omega)), show 12 - s - m = (12 - s - (m + 1)) + 1 by omega]
    have a1 : 12 - (12 - s - (m + 1)) = s + (m + 1) := by omega
    refine if_pos ⟨?_, ?_⟩
    · omega
    · rw [a1, hk (m + 1) (Nat.le_refl _), show s + (m + 1) - 1 = s + m by omega, hk m (by omega)]
theorem cutF_end {bk : Nat → Nat} {nb : Nat} {K L : Nat → Int32} {s n : Nat} (h1 : 1 ≤ n) (h2 : s + n ≤ 12) (hk : ∀ i, i < n → K (s + i) = K s) (hn : ¬ (s + n < 12 ∧ K (s + n) = K s)) : cutF bk nb K (12 - s) 1 L = (match chF bk L (K s) (Int32.ofNat n) nb with
      | none => (false, L)
      | some c => cutF bk nb K (12 - (s + n)) 1 (fun b => if b = c then L b - Int32.ofNat n else L b)) := by
  rw [cutF_run (n - 1) (by omega) (fun i hi => hk i (by omega)), show 12 - s - (n - 1) = (12 - (s + n)) + 1 by omega, show n - 1 + 1 = n by omega]
  have a1 : 12 - (12 - (s + n)) = s + n := by omega
  have a2 : K (s + n - 1) = K s := by rw [show s + n - 1 = s + (n - 1) by omega]; exact hk (n - 1) (by omega)
  refine (if_neg ?_).trans ?_
  · rw [a1, a2]
    exact hn
  · rw [a1, a2]
    cases chF bk L (K s) (Int32.ofNat n) nb <;> rfl
/-- how long the kind of hour s runs -/
def rlF (K : Nat → Int32) (s : Nat) : Nat → Nat → Nat
  | 0, n => n
  | f + 1, n => if s + n < 12 ∧ K (s + n) = K s then rlF K s f (n + 1) else n
theorem rlF_ok {K : Nat → Int32} {s : Nat} : ∀ {f n : Nat}, 1 ≤ n → s + n ≤ 12 → 12 - (s + n) ≤ f → (∀ i, i < n → K (s + i) = K s) → 1 ≤ rlF K s f n ∧ s + rlF K s f n ≤ 12 ∧ (∀ i, i < rlF K s f n → K (s + i) = K s) ∧ ¬ (s + rlF K s f n < 12 ∧ K (s + rlF K s f n) = K s)
  | 0, n, h1, h2, h3, h4 => ⟨h1, h2, h4, fun h => by have := h.1; unfold rlF at this; omega⟩
  | f + 1, n, h1, h2, h3, h4 => by
    by_cases hc : s + n < 12 ∧ K (s + n) = K s
    · have hu : rlF K s (f + 1) n = rlF K s f (n + 1) := if_pos hc
      rw [hu]
      refine rlF_ok (by omega) (by omega) (by omega) (fun i hi => ?_)
      by_cases hin : i = n
      · rw [hin]; exact hc.2
      · exact h4 i (by omega)
    · have hu : rlF K s (f + 1) n = n := if_neg hc
      rw [hu]
      exact ⟨h1, h2, h4, hc⟩
section RUNS
variable {I : MJ}
theorem m_runAt {a : Nat} {K : Nat → Int32} {s : Nat} (hs : s < 12) (hk : ∀ j, j < 12 → rd I a (Int32.ofNat j) = some (K j)) : f_m_runAt308 a 0 (Int32.ofNat s) I = some (Int32.ofNat (rlF K s 11 1)) := by
  have loop : ∀ (f n : Nat), s + n ≤ 12 → 12 - (s + n) ≤ f → wh (β := Int32) (fun (s1 : Int32) =>
  (if (Int32.ofNat s + s1) < (12 : Int32) then
  (Option.bind (rd I a (((0 : Int32) + Int32.ofNat s) + s1)) fun v3 =>
  (Option.bind (rd I a ((0 : Int32) + Int32.ofNat s)) fun v4 =>
  (if v3 = v4 then
  some (.inl (s1 + (1 : Int32)))
  else
  some (.inr s1)
  )
  )
  )
  else
  some (.inr s1)
  )
  ) (Int32.ofNat n) = some (Int32.ofNat (rlF K s f n)) := by
    intro f
    induction f with
    | zero =>
      intro n h1 h2
      refine wh_inr ?_
      rw [if_neg (by rw [i_add, i_ltr (by omega) (by decide)]; omega)]
      rfl
    | succ f ih =>
      intro n h1 h2
      by_cases h3 : s + n < 12
      · by_cases h4 : K (s + n) = K s
        · have hu : rlF K s (f + 1) n = rlF K s f (n + 1) := if_pos ⟨h3, h4⟩
          rw [hu]
          refine (wh_inl ?_).trans (ih (n + 1) (by omega) (by omega))
          rw [if_pos (by rw [i_add, i_ltr (by omega) (by decide)]; exact h3), Int32.zero_add, i_add, hk (s + n) h3, ob_some, hk s hs, ob_some, if_pos h4, i_addr]
        · have hu : rlF K s (f + 1) n = n := if_neg (fun h => h4 h.2)
          rw [hu]
          refine wh_inr ?_
          rw [if_pos (by rw [i_add, i_ltr (by omega) (by decide)]; exact h3), Int32.zero_add, i_add, hk (s + n) h3, ob_some, hk s hs, ob_some, if_neg h4]
      · have hu : rlF K s (f + 1) n = n := if_neg (fun h => h3 h.1)
        rw [hu]
        refine wh_inr ?_
        rw [if_neg (by rw [i_add, i_ltr (by omega) (by decide)]; exact h3)]
  unfold f_m_runAt308
  refine (congrArg (fun z => Option.bind z _) (loop 11 1 (by omega) (by omega))).trans ?_
  rfl
end RUNS
