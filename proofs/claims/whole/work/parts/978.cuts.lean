/-! a pattern's pieces, cut one after another -/
/-- from hour 12 - f on, r hours of the kind before it already run: is there a bolt for each piece, and what is left -/
def cutF (bk : Nat → Nat) (nb : Nat) (K : Nat → Int32) : Nat → Nat → (Nat → Int32) → Bool × (Nat → Int32)
  | 0, _, L => (true, L)
  | f + 1, r, L => if 12 - f < 12 ∧ K (12 - f) = K (12 - f - 1) then cutF bk nb K f (r + 1) L
    else (match chF bk L (K (12 - f - 1)) (Int32.ofNat r) nb with
      | none => (false, L)
      | some c => cutF bk nb K f 1 (fun b => if b = c then L b - Int32.ofNat r else L b))
section CUTS
variable {I : MJ}
theorem x_cutF {nb : Nat} {bk : Nat → Nat} {K : Nat → Int32} {p : Int32} (hb : nb ≤ 10) (e : I 3 5 = Int32.ofNat nb) (h4 : ∀ b, b < nb → I 4 b = Int32.ofNat (bk b)) (hk : ∀ J : MJ, (∀ g k, g ≠ 18 → J g k = I g k) → ∀ j, j < 12 → f_pat_kindAt110 p (Int32.ofNat j) J = some (K j)) : ∀ (f r : Nat) (L : Nat → Int32) (J : MJ), r + f ≤ 13 → f ≤ 12 → (∀ g k, g ≠ 18 → J g k = I g k) → (∀ b, b < nb → J 18 (9 + b) = L b) → ∃ J2, wh (fun (s2 : Int32 × Int32 × MJ) =>
  (if (12 : Int32) < s2.2.1 then
  some (.inr ((1 : Int32), s2.2.2))
  else
  (Option.bind (f_pat_kindAt110 p (s2.2.1 - (1 : Int32)) s2.2.2) fun v3 =>
  (if s2.2.1 < (12 : Int32) then
  (Option.bind (f_pat_kindAt110 p s2.2.1 s2.2.2) fun v4 =>
  (if v4 = v3 then
  some (.inl ((s2.1 + (1 : Int32)), (s2.2.1 + (1 : Int32)), s2.2.2))
  else
  (Option.bind (f_sta_take111 17 v3 s2.1 s2.2.2) fun w5 =>
  (if w5.1 = 0 then
  some (.inr ((0 : Int32), w5.2))
  else
  some (.inl ((1 : Int32), (s2.2.1 + (1 : Int32)), w5.2))
  )
  )
  )
  )
  else
  (Option.bind (f_sta_take111 17 v3 s2.1 s2.2.2) fun w6 =>
  (if w6.1 = 0 then
  some (.inr ((0 : Int32), w6.2))
  else
  some (.inl ((1 : Int32), (s2.2.1 + (1 : Int32)), w6.2))
  )
  )
  )
  )
  )
  ) (Int32.ofNat r, Int32.ofNat (13 - f), J) = some ((if (cutF bk nb K f r L).1 then (1 : Int32) else 0), J2) ∧ (∀ g k, g ≠ 18 → J2 g k = I g k) ∧ (∀ b, b < nb → J2 18 (9 + b) = (cutF bk nb K f r L).2 b) ∧ (∀ k, k < 9 ∨ 9 + nb ≤ k → J2 18 k = J 18 k)
  | 0, r, L, J, _, _, hJ, hL => ⟨J, wh_inr (if_pos (show (12 : Int32) < Int32.ofNat 13 by decide)), hJ, hL, fun _ _ => rfl⟩
  | f + 1, r, L, J, hr, hf, hJ, hL => by
    have tk := x_take (I := J) (t := 17) (nb := nb) (bk := bk) (x := K (12 - f - 1)) (hrs := Int32.ofNat r) rfl (by decide) hb (by rw [hJ 3 5 (by decide)]; exact e) (fun b hb => by rw [hJ 4 b (by decide)]; exact h4 b hb)
    have cg : chF bk (fun b => J (17 + 1) (9 + b)) (K (12 - f - 1)) (Int32.ofNat r) nb = chF bk L (K (12 - f - 1)) (Int32.ofNat r) nb := chF_congr hL
    rw [cg] at tk
    have n1 : ¬ (12 : Int32) < Int32.ofNat (12 - f) := by rw [i_ltl (by omega) (by decide)]; omega
    have hs : Int32.ofNat (12 - f) - (1 : Int32) = Int32.ofNat (12 - f - 1) := i_subr (n := 1) (by show 1 ≤ 12 - f; omega)
    have hi : Int32.ofNat (12 - f) + (1 : Int32) = Int32.ofNat (13 - f) := by rw [i_addr]; exact congrArg Int32.ofNat (by omega)
    have hir : Int32.ofNat r + (1 : Int32) = Int32.ofNat (r + 1) := i_addr (n := 1)
    have e13 : 13 - (f + 1) = 12 - f := by omega
    have k1 := hk J hJ (12 - f - 1) (by omega)
    rw [e13]
    by_cases h1 : 12 - f < 12 ∧ K (12 - f) = K (12 - f - 1)
    · have hu : cutF bk nb K (f + 1) r L = cutF bk nb K f (r + 1) L := if_pos h1
      rw [hu]
      obtain ⟨J2, a1, a2, a3, a4⟩ := x_cutF hb e h4 hk f (r + 1) L J (by omega) (by omega) hJ hL
      refine ⟨J2, (wh_inl ?_).trans a1, a2, a3, a4⟩
      dsimp only
      rw [if_neg n1, hs, k1, ob_some, if_pos (by rw [i_ltr (by omega) (by decide)]; exact h1.1), hk J hJ (12 - f) h1.1, ob_some, if_pos h1.2, hir, hi]
    · cases hc : chF bk L (K (12 - f - 1)) (Int32.ofNat r) nb with
      | none =>
        have hu : cutF bk nb K (f + 1) r L = (false, L) := by
          unfold cutF
          rw [if_neg h1, hc]
        rw [hu]
        rw [hc] at tk
        refine ⟨J, wh_inr ?_, hJ, hL, fun _ _ => rfl⟩
        dsimp only
        rw [if_neg n1, hs, k1, ob_some]
        by_cases h2 : 12 - f < 12
        · rw [if_pos (by rw [i_ltr (by omega) (by decide)]; exact h2), hk J hJ (12 - f) h2, ob_some, if_neg (fun h => h1 ⟨h2, h⟩), tk, ob_some]
          rfl
        · rw [if_neg (by rw [i_ltr (by omega) (by decide)]; exact h2), tk, ob_some]
          rfl
      | some c =>
        have hcn := chF_lt hc
        have hu : cutF bk nb K (f + 1) r L = cutF bk nb K f 1 (fun b => if b = c then L b - Int32.ofNat r else L b) := by
          unfold cutF
          rw [if_neg h1, hc]
          cases f <;> rfl
        rw [hu]
        rw [hc] at tk
        have hJ' : ∀ g k, g ≠ 18 → ab_up1 J (17 + 1) (9 + c) (J (17 + 1) (9 + c) - Int32.ofNat r) g k = I g k := fun g k hg => by
          rw [up_ne (fun h => hg h.1)]
          exact hJ g k hg
        have hL' : ∀ b, b < nb → ab_up1 J (17 + 1) (9 + c) (J (17 + 1) (9 + c) - Int32.ofNat r) 18 (9 + b) = (if b = c then L b - Int32.ofNat r else L b) := fun b hb => by
          by_cases hbc : b = c
          · subst hbc
            rw [if_pos rfl, ← hL b hb]
            exact up_eq
          · rw [if_neg hbc, up_ne (fun h => hbc (by omega))]
            exact hL b hb
        obtain ⟨J2, a1, a2, a3, a4⟩ := x_cutF hb e h4 hk f 1 (fun b => if b = c then L b - Int32.ofNat r else L b) _ (by omega) (by omega) hJ' hL'
        refine ⟨J2, (wh_inl ?_).trans a1, a2, a3, fun k hk => by rw [a4 k hk, up_ne (fun h => by omega)]⟩
        dsimp only
        rw [if_neg n1, hs, k1, ob_some]
        by_cases h2 : 12 - f < 12
        · rw [if_pos (by rw [i_ltr (by omega) (by decide)]; exact h2), hk J hJ (12 - f) h2, ob_some, if_neg (fun h => h1 ⟨h2, h⟩), tk, ob_some, hi]
          rfl
        · rw [if_neg (by rw [i_ltr (by omega) (by decide)]; exact h2), tk, ob_some, hi]
          rfl
end CUTS
