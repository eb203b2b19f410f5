/-! pieces: the reference's sets of bolts, and the runs it lays -/
noncomputable def seB : Int32 × Int32 × MJ → Option ((Int32 × Int32 × MJ) ⊕ (Int32 × MJ)) := fun (s9 : Int32 × Int32 × MJ) =>
  (if s9.2.1 < ((1 : Int32) <<< ((s9.2.2 51 0) &&& 31)) then
  (Option.bind (α := Int32 × MJ)
  (if s9.1 = (-1 : Int32) then
  (Option.bind (f_m_packs356 16 (0 : Int32) s9.2.1 s9.2.2) fun w12 =>
  (Option.bind (α := Int32)
  (if w12.1 = 0 then
  some s9.1
  else
  (Option.bind (f_m_ones355 s9.2.1 w12.2) fun v14 =>
  some v14
  )
  )
  fun b13 =>
  some (b13, w12.2)
  )
  )
  else
  (Option.bind (f_m_ones355 s9.2.1 s9.2.2) fun v15 =>
  (if v15 < s9.1 then
  (Option.bind (f_m_packs356 16 (0 : Int32) s9.2.1 s9.2.2) fun w16 =>
  (Option.bind (α := Int32)
  (if w16.1 = 0 then
  some s9.1
  else
  (Option.bind (f_m_ones355 s9.2.1 w16.2) fun v18 =>
  some v18
  )
  )
  fun b17 =>
  some (b17, w16.2)
  )
  )
  else
  some (s9.1, s9.2.2)
  )
  )
  )
  fun b11 =>
  some (.inl (b11.1, (s9.2.1 + (1 : Int32)), b11.2))
  )
  else
  some (.inr (s9.1, s9.2.2))
  )
theorem shl_ok : ∀ n : Nat, n < 13 → ((1 : Int32) <<< (Int32.ofNat n &&& 31)) = Int32.ofNat (2 ^ n) ∧ 2 ^ n ≤ 4096 := by decide +kernel
/-- the best of the sets below S -/
def BST (F : Nat → Prop) (nb S : Nat) (best : Int32) : Prop := (best = -1 ∧ ∀ s, s < S → ¬ F s) ∨ ∃ s0, s0 < S ∧ F s0 ∧ best = Int32.ofNat (onesN nb s0) ∧ ∀ s, s < S → F s → onesN nb s0 ≤ onesN nb s
section SETS
variable {bk L : Nat → Nat} {nb : Nat} {RL : List (Nat × Nat)} {I : MJ}
theorem m_sets (hb : nb ≤ 10) (hR : RL.length ≤ 12) (hK : ∀ b, b < nb → bk b < 6) (hl : ∀ x, x ∈ RL → x.1 < 6 ∧ x.2 ≤ 12) (hc : pkC bk nb RL I) (hL : ∀ b, b < nb → L b ≤ 60 ∧ I 696 b = Int32.ofNat (L b)) : ∀ (t S : Nat) (best : Int32), S + t = 2 ^ nb → BST (fun s => PM (Qk bk nb s) RL L) nb S best → ∃ fin, wh seB (best, Int32.ofNat S, I) = some (fin, I) ∧ BST (fun s => PM (Qk bk nb s) RL L) nb (2 ^ nb) fin
  | 0, S, best, hS, hB => by
    have e : S = 2 ^ nb := by omega
    have hno : ¬ Int32.ofNat S < ((1 : Int32) <<< ((I 51 0) &&& 31)) := by
      rw [hc.1, (shl_ok nb (by omega)).1, e]
      exact Int32.lt_irrefl
    rw [← e]
    exact ⟨best, wh_inr (if_neg hno), hB⟩
  | t + 1, S, best, hS, hB => by
    have h4 := (shl_ok nb (by omega)).2
    have hSn : S < 2 ^ nb := by omega
    have e0 : Int32.ofNat S < ((1 : Int32) <<< ((I 51 0) &&& 31)) := by rw [hc.1, (shl_ok nb (by omega)).1]; exact lt_l hSn (by omega)
    obtain ⟨v, p1, p2⟩ := m_packs (bk := bk) (set := S) hb hSn hR hK hl 16 0 L I (by omega) (Nat.zero_le _) hc hL
    have p1' : f_m_packs356 16 (0 : Int32) (Int32.ofNat S) I = some (v, I) := p1
    rw [show RL.drop 0 = RL from rfl] at p2
    have o1 := m_ones (I := I) hb hSn
    have next : ∀ best', BST (fun s => PM (Qk bk nb s) RL L) nb (S + 1) best' → seB (best, Int32.ofNat S, I) = some (.inl (best', Int32.ofNat (S + 1), I)) → ∃ fin, wh seB (best, Int32.ofNat S, I) = some (fin, I) ∧ BST (fun s => PM (Qk bk nb s) RL L) nb (2 ^ nb) fin := fun best' hB' he => by
      obtain ⟨fin, f1, f2⟩ := m_sets hb hR hK hl hc hL t (S + 1) best' (by omega) hB'
      exact ⟨fin, (wh_inl he).trans f1, f2⟩
    have notF : ¬ PM (Qk bk nb S) RL L → BST (fun s => PM (Qk bk nb s) RL L) nb (S + 1) best := fun hn => by
      rcases hB with ⟨b1, b2⟩ | ⟨s0, b1, b2, b3, b4⟩
      · refine Or.inl ⟨b1, fun s hs => ?_⟩
        by_cases z : s = S
        · rw [z]; exact hn
        · exact b2 s (by omega)
      · refine Or.inr ⟨s0, by omega, b2, b3, fun s hs hF => ?_⟩
        by_cases z : s = S
        · rw [z] at hF
          exact absurd hF hn
        · exact b4 s (by omega) hF
    by_cases hb1 : best = -1
    · rcases p2 with ⟨rfl, p2⟩ | ⟨rfl, p2⟩
      · refine next (Int32.ofNat (onesN nb S)) (Or.inr ⟨S, by omega, p2, rfl, fun s hs hF => ?_⟩) ?_
        · rcases hB with ⟨b1, b2⟩ | ⟨s0, b1, b2, b3, b4⟩
          · by_cases z : s = S
            · rw [z]; exact Nat.le_refl _
            · exact absurd hF (b2 s (by omega))
          · rw [b3] at hb1
            have := onesN_le (nb := nb) (s := s0) hb
            rw [i_neg1 (by omega)] at hb1
            exact hb1.elim
        · unfold seB
          try dsimp only
          rw [if_pos e0, if_pos hb1, p1', ob_some, if_neg (show ¬ (1 : Int32) = 0 by decide), o1, ob_some, ob_some, ob_some, i_addr]
      · refine next best (notF p2) ?_
        unfold seB
        try dsimp only
        rw [if_pos e0, if_pos hb1, p1', ob_some, if_pos rfl, ob_some, ob_some, i_addr]
    · have hB2 := hB
      rcases hB2 with ⟨b1, b2⟩ | ⟨s0, b1, b2, b3, b4⟩
      · exact absurd b1 hb1
      · have w0 := onesN_le (nb := nb) (s := s0) hb
        have w1 := onesN_le (nb := nb) (s := S) hb
        by_cases hlt : onesN nb S < onesN nb s0
        · have lt : Int32.ofNat (onesN nb S) < best := by rw [b3]; exact lt_l hlt (by omega)
          rcases p2 with ⟨rfl, p2⟩ | ⟨rfl, p2⟩
          · refine next (Int32.ofNat (onesN nb S)) (Or.inr ⟨S, by omega, p2, rfl, fun s hs hF => ?_⟩) ?_
            · by_cases z : s = S
              · rw [z]; exact Nat.le_refl _
              · exact Nat.le_trans (Nat.le_of_lt hlt) (b4 s (by omega) hF)
            · unfold seB
              try dsimp only
              rw [if_pos e0, if_neg hb1, o1, ob_some, if_pos lt, p1', ob_some, if_neg (show ¬ (1 : Int32) = 0 by decide), o1, ob_some, ob_some, ob_some, i_addr]
          · refine next best (notF p2) ?_
            unfold seB
            try dsimp only
            rw [if_pos e0, if_neg hb1, o1, ob_some, if_pos lt, p1', ob_some, if_pos rfl, ob_some, ob_some, i_addr]
        · have nlt : ¬ Int32.ofNat (onesN nb S) < best := by rw [b3]; exact nlt_l hlt (by omega) (by omega)
          refine next best (Or.inr ⟨s0, by omega, b2, b3, fun s hs hF => ?_⟩) ?_
          · by_cases z : s = S
            · rw [z]; omega
            · exact b4 s (by omega) hF
          · unfold seB
            try dsimp only
            rw [if_pos e0, if_neg hb1, o1, ob_some, if_neg nlt, ob_some, i_addr]
end SETS
/-- a pattern's runs: kind and length -/
def prF (K : Nat → Nat) : Nat → Nat → List (Nat × Nat)
  | 0, _ => []
  | f + 1, s => if s < 12 then (K s, rlF (fun j => Int32.ofNat (K j)) s 11 1) :: prF K f (s + rlF (fun j => Int32.ofNat (K j)) s 11 1) else []
/-- the runs of a set of orders -/
def RLs (od : Nat → Nat → Nat) (pk : Nat → Nat → Nat) (s : Nat) : Nat → List (Nat × Nat)
  | 0 => []
  | o + 1 => if s.testBit o = true then RLs od pk s o ++ prF (pk (od o 1)) 12 0 else RLs od pk s o
theorem rl_ok {K : Nat → Nat} {s : Nat} (hK : ∀ j, j < 12 → K j < 6) (hs : s < 12) : 1 ≤ rlF (fun j => Int32.ofNat (K j)) s 11 1 ∧ s + rlF (fun j => Int32.ofNat (K j)) s 11 1 ≤ 12 ∧ (∀ i, i < rlF (fun j => Int32.ofNat (K j)) s 11 1 → K (s + i) = K s) ∧ (s + rlF (fun j => Int32.ofNat (K j)) s 11 1 < 12 → K (s + rlF (fun j => Int32.ofNat (K j)) s 11 1) ≠ K s) := by
  obtain ⟨r1, r2, r3, r4⟩ := rlF_ok (K := fun j => Int32.ofNat (K j)) (s := s) (f := 11) (n := 1) (Nat.le_refl _) (by omega) (by omega) (fun i hi => by rw [show i = 0 by omega]; rfl)
  refine ⟨r1, r2, fun i hi => ?_, fun h z => r4 ⟨h, congrArg Int32.ofNat z⟩⟩
  have h1 := hK (s + i) (by omega)
  have h2 := hK s hs
  exact (i_eq (by omega) (by omega)).mp (r3 i hi)
theorem prF_all {K : Nat → Nat} (hK : ∀ j, j < 12 → K j < 6) : ∀ (f s : Nat) (x : Nat × Nat), x ∈ prF K f s → x.1 < 6 ∧ 1 ≤ x.2 ∧ x.2 ≤ 12
  | 0, s, x, h => by cases h
  | f + 1, s, x, h => by
    unfold prF at h
    by_cases hs : s < 12
    · rw [if_pos hs] at h
      obtain ⟨r1, r2, -, -⟩ := rl_ok hK hs
      rcases List.mem_cons.mp h with rfl | h
      · exact ⟨hK s hs, r1, by (try dsimp only); omega⟩
      · exact prF_all hK f _ x h
    · rw [if_neg hs] at h
      cases h
theorem RLs_all {od pk : Nat → Nat → Nat} {s : Nat} : ∀ {o : Nat}, (∀ q, q < o → ∀ j, j < 12 → pk (od q 1) j < 6) → ∀ x, x ∈ RLs od pk s o → x.1 < 6 ∧ 1 ≤ x.2 ∧ x.2 ≤ 12
  | 0, _, x, h => by cases h
  | o + 1, hK, x, h => by
    have ih := RLs_all (od := od) (pk := pk) (s := s) (o := o) (fun q hq => hK q (by omega))
    unfold RLs at h
    split at h
    · rcases List.mem_append.mp h with h | h
      · exact ih x h
      · exact prF_all (hK o (by omega)) 12 0 x h
    · exact ih x h
/-- how many runs: as the counting readers say -/
def stN1 (K : Nat → Nat) (h : Nat) : Nat := if h = 0 then 1 else if K h = K (h - 1) then 0 else 1
theorem prF_len {K : Nat → Nat} (hK : ∀ j, j < 12 → K j < 6) : ∀ (f s : Nat), 12 - s ≤ f → s ≤ 12 → (s < 12 → stN1 K s = 1) → sN (stN1 K) 12 = sN (stN1 K) s + (prF K f s).length
  | 0, s, h1, h2, _ => by
    have e : s = 12 := by omega
    subst e
    rfl
  | f + 1, s, h1, h2, h3 => by
    by_cases hs : s < 12
    · obtain ⟨r1, r2, r3, r4⟩ := rl_ok hK hs
      have e : prF K (f + 1) s = (K s, rlF (fun j => Int32.ofNat (K j)) s 11 1) :: prF K f (s + rlF (fun j => Int32.ofNat (K j)) s 11 1) := if_pos hs
      rw [e]
      generalize rlF (fun j => Int32.ofNat (K j)) s 11 1 = r at *
      have h4 : ∀ i, i < r → sN (stN1 K) (s + (i + 1)) = sN (stN1 K) s + 1 := fun i => by
        induction i with
        | zero =>
          intro _
          show sN (stN1 K) s + stN1 K s = _
          rw [h3 hs]
        | succ i ih =>
          intro hi
          show sN (stN1 K) (s + (i + 1)) + stN1 K (s + (i + 1)) = _
          rw [ih (by omega)]
          unfold stN1
          rw [if_neg (by omega), if_pos]
          rw [r3 (i + 1) hi, show s + (i + 1) - 1 = s + i by omega, r3 i (by omega)]
      have h5 := h4 (r - 1) (by omega)
      rw [show s + (r - 1 + 1) = s + r by omega] at h5
      have h6 := prF_len hK f (s + r) (by omega) r2 fun hsr => by
        unfold stN1
        rw [if_neg (by omega), if_neg]
        rw [show s + r - 1 = s + (r - 1) by omega, r3 (r - 1) (by omega)]
        exact r4 hsr
      rw [h6, h5, List.length_cons]
      omega
    · have e : s = 12 := by omega
      subst e
      show _ = sN (stN1 K) 12 + (prF K (f + 1) 12).length
      unfold prF
      rw [if_neg hs]
      rfl
theorem runs_len {K : Nat → Nat} (hK : ∀ j, j < 12 → K j < 6) : runsF (fun h => Int32.ofNat (K h)) = Int32.ofNat (prF K 12 0).length ∧ (prF K 12 0).length ≤ 12 := by
  have h1 := prF_len hK 12 0 (by omega) (by omega) (fun _ => rfl)
  have h2 : sN (stN1 K) 12 ≤ 1 * 12 := sN_le fun k _ => by
    unfold stN1
    split
    · exact Nat.le_refl _
    · split
      · exact Nat.zero_le _
      · exact Nat.le_refl _
  have h3 : sN (stN1 K) 0 = 0 := rfl
  refine ⟨?_, by omega⟩
  rw [show (prF K 12 0).length = sN (stN1 K) 12 by omega, ← sm_sN]
  unfold runsF
  refine sm_congr fun h hh => ?_
  try dsimp only
  have hk := hK h hh
  unfold stN1
  rw [if_neg (show ¬ Int32.ofNat (K h) = 6 from neq_l (b := 6) (by omega) (by omega) (by decide))]
  by_cases h0 : h = 0
  · rw [if_pos h0, if_pos h0]
    rfl
  · rw [if_neg h0, if_neg h0]
    have hk' := hK (h - 1) (by omega)
    by_cases e : K h = K (h - 1)
    · rw [if_pos (congrArg Int32.ofNat e), if_pos e]
      rfl
    · rw [if_neg (neq_l e (by omega) (by omega)), if_neg e]
      rfl
