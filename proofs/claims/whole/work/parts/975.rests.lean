/-! two tailors: rests -/
/-- is p the best against q among the told? -/
noncomputable def bestF (tb : Nat) (g : Nat → Nat → Int32) (p q : Nat) : Int32 := @ite _ (∀ k, 0 ≤ k → k < 6 → ¬ (tb.testBit k = true ∧ g p q < g k q)) (Classical.propDecidable _) 1 0
noncomputable def restF (tb : Nat) (g : Nat → Nat → Int32) (p q : Nat) : Int32 := if tb.testBit p = true then (if tb.testBit q = true then (if bestF tb g p q = 0 then 0 else if bestF tb g q p = 0 then 0 else 1) else 0) else 0
theorem restF_01 (tb : Nat) (g : Nat → Nat → Int32) (p q : Nat) : restF tb g p q = 0 ∨ restF tb g p q = 1 := by
  unfold restF
  by_cases h1 : tb.testBit p = true
  · rw [if_pos h1]
    by_cases h2 : tb.testBit q = true
    · rw [if_pos h2]
      by_cases h3 : bestF tb g p q = 0
      · exact Or.inl (if_pos h3)
      · rw [if_neg h3]
        by_cases h4 : bestF tb g q p = 0
        · exact Or.inl (if_pos h4)
        · exact Or.inr (if_neg h4)
    · exact Or.inl (if_neg h2)
  · exact Or.inl (if_neg h1)
section REST
variable {I : MJ} {tb : Nat} {g : Nat → Nat → Int32}
theorem x_isBest (e19 : I 19 3 = Int32.ofNat tb) (ht : tb < 64) (hs : ∀ a b, a < 6 → b < 6 → tb.testBit a = true → tb.testBit b = true → f_fit_share243 (Int32.ofNat a) (Int32.ofNat b) I = some (g a b)) {p q : Nat} (hp : p < 6) (hq : q < 6) (tp : tb.testBit p = true) (tq : tb.testBit q = true) : f_fit_isBestAgainst242 (Int32.ofNat p) (Int32.ofNat q) I = some (bestF tb g p q) := by
  unfold f_fit_isBestAgainst242
  refine wh_all (fun k => ¬ (tb.testBit k = true ∧ g p q < g k q)) 0 6 (by omega) (1 : Int32) (0 : Int32) ?_ ?_ rfl
  · intro k _ hk h
    try dsimp only at h
    try dsimp only
    rw [if_pos (by rw [i_ltr (by omega) (by decide)]; exact hk), x_isTold e19 ht hk, ob_some]
    by_cases tk : tb.testBit k = true
    · rw [if_pos tk, if_neg (by decide), hs k q hk hq tk tq, ob_some, hs p q hp hq tp tq, ob_some, if_neg (fun e => h ⟨tk, e⟩)]
      exact congrArg some (congrArg Sum.inl (i_addr (n := 1)))
    · rw [if_neg tk, if_pos rfl]
      exact congrArg some (congrArg Sum.inl (i_addr (n := 1)))
  · intro k _ hk h
    try dsimp only at h
    have h2 : tb.testBit k = true ∧ g p q < g k q := Classical.not_not.mp h
    try dsimp only
    rw [if_pos (by rw [i_ltr (by omega) (by decide)]; exact hk), x_isTold e19 ht hk, ob_some, if_pos h2.1, if_neg (by decide), hs k q hk hq h2.1 tq, ob_some, hs p q hp hq tp tq, ob_some, if_pos h2.2]
theorem m_isBest (h135 : ∀ p, p < 6 → I 135 p = if tb.testBit p then 1 else 0) (hs : ∀ a b, a < 6 → b < 6 → f_m_getsOf373 (Int32.ofNat a) (Int32.ofNat b) I = some (g a b)) {p q : Nat} (hp : p < 6) (hq : q < 6) : f_m_isBest372 (Int32.ofNat p) (Int32.ofNat q) I = some (bestF tb g p q) := by
  unfold f_m_isBest372
  refine wh_all (fun k => ¬ (tb.testBit k = true ∧ g p q < g k q)) 0 6 (by omega) (1 : Int32) (0 : Int32) ?_ ?_ rfl
  · intro k _ hk h
    try dsimp only at h
    try dsimp only
    rw [if_pos (by rw [i_ltr (by omega) (by decide)]; exact hk), rdb_135 hk, ob_some, h135 k hk]
    by_cases tk : tb.testBit k = true
    · rw [if_pos tk, if_neg (by decide), hs k q hk hq, ob_some, hs p q hp hq, ob_some, if_neg (fun e => h ⟨tk, e⟩)]
      exact congrArg some (congrArg Sum.inl (i_addr (n := 1)))
    · rw [if_neg tk, if_pos rfl]
      exact congrArg some (congrArg Sum.inl (i_addr (n := 1)))
  · intro k _ hk h
    try dsimp only at h
    have h2 : tb.testBit k = true ∧ g p q < g k q := Classical.not_not.mp h
    try dsimp only
    rw [if_pos (by rw [i_ltr (by omega) (by decide)]; exact hk), rdb_135 hk, ob_some, h135 k hk, if_pos h2.1, if_neg (by decide), hs k q hk hq, ob_some, hs p q hp hq, ob_some, if_pos h2.2]
theorem x_rest (e19 : I 19 3 = Int32.ofNat tb) (ht : tb < 64) (hs : ∀ a b, a < 6 → b < 6 → tb.testBit a = true → tb.testBit b = true → f_fit_share243 (Int32.ofNat a) (Int32.ofNat b) I = some (g a b)) {p q : Nat} (hp : p < 6) (hq : q < 6) : f_fit_rest241 (Int32.ofNat p) (Int32.ofNat q) I = some (restF tb g p q) := by
  unfold f_fit_rest241 restF
  rw [x_isTold e19 ht hp, ob_some]
  by_cases tp : tb.testBit p = true
  · rw [if_pos tp, if_pos tp, if_neg (by decide), x_isTold e19 ht hq, ob_some]
    by_cases tq : tb.testBit q = true
    · rw [if_pos tq, if_pos tq, if_neg (by decide), x_isBest e19 ht hs hp hq tp tq, ob_some]
      by_cases h3 : bestF tb g p q = 0
      · rw [if_pos h3, if_pos h3]; rfl
      · rw [if_neg h3, if_neg h3, x_isBest e19 ht hs hq hp tq tp, ob_some]
        by_cases h4 : bestF tb g q p = 0
        · rw [if_pos h4, if_pos h4]; rfl
        · rw [if_neg h4, if_neg h4]; rfl
    · rw [if_neg tq, if_neg tq, if_pos rfl]; rfl
  · rw [if_neg tp, if_neg tp, if_pos rfl]; rfl
theorem x_rests {r : Nat → Nat → Int32} (hr : ∀ p q, p < 6 → q < 6 → f_fit_rest241 (Int32.ofNat p) (Int32.ofNat q) I = some (r p q)) : f_fit_rests240 I = some (sm (fun p => sm (fun q => if r p q = 0 then 0 else 1) 6) 6) := by
  unfold f_fit_rests240
  rw [wh_sum0 (fun p => sm (fun q => if r p q = 0 then 0 else 1) 6) 6 ?_ ?_]
  · rfl
  · intro p hp s
    dsimp only
    rw [if_pos (by rw [i_ltr (by omega) (by decide)]; exact hp), wh_sumS s (fun q => if r p q = 0 then 0 else 1) 6 ?_ ?_]
    · exact congrArg some (congrArg Sum.inl (Prod.ext rfl (i_addr (n := 1))))
    · intro q hq s2
      dsimp only
      rw [if_pos (by rw [i_ltr (by omega) (by decide)]; exact hq), hr p q hp hq, ob_some, o_ite, ob_some]
      exact congrArg some (congrArg Sum.inl (Prod.ext rfl (i_addr (n := 1))))
    · intro s2; rfl
  · intro s; rfl
end REST
/-- the first rest, as 10 times the one and the other; -1 without -/
def firstP (r : Nat → Nat → Int32) (i j : Nat) (v : Int32) : Prop := (v = -1 ∧ ∀ p q, p < 6 → q < 6 → (p < i ∨ (p = i ∧ q < j)) → r p q = 0) ∨ (∃ p q, p < 6 ∧ q < 6 ∧ (p < i ∨ (p = i ∧ q < j)) ∧ ¬ r p q = 0 ∧ v = Int32.ofNat (10 * p + q) ∧ ∀ p' q', p' < 6 → q' < 6 → (p' < p ∨ (p' = p ∧ q' < q)) → r p' q' = 0)
theorem firstP_eq {r : Nat → Nat → Int32} {v w : Int32} (h1 : firstP r 6 0 v) (h2 : firstP r 6 0 w) : v = w := by
  rcases h1 with ⟨a1, a2⟩ | ⟨p, q, a1, a2, a3, a4, a5, a6⟩ <;> rcases h2 with ⟨b1, b2⟩ | ⟨p', q', b1, b2, b3, b4, b5, b6⟩
  · rw [a1, b1]
  · exact absurd (a2 p' q' b1 b2 b3) b4
  · exact absurd (b2 p q a1 a2 a3) a4
  · have h1 : ¬ (p' < p ∨ (p' = p ∧ q' < q)) := fun h => b4 (a6 p' q' b1 b2 h)
    have h2 : ¬ (p < p' ∨ (p = p' ∧ q < q')) := fun h => a4 (b6 p q a1 a2 h)
    have h3 : p = p' := by omega
    have h4 : q = q' := by omega
    rw [a5, b5, h3, h4]
theorem i_10 : ∀ p : Nat, p < 6 → ∀ q : Nat, q < 6 → Int32.ofNat (10 * p + q) / 10 = Int32.ofNat p ∧ Int32.ofNat (10 * p + q) - Int32.ofNat (10 * p + q) / 10 * 10 = Int32.ofNat q ∧ ¬ Int32.ofNat (10 * p + q) = -1 := by decide +kernel
noncomputable def frI (s1 : Int32) (I : MJ) (s2 : Int32) : Option (Int32 ⊕ (Int32 ⊕ Int32)) :=
  (if s2 < (6 : Int32) then
  (Option.bind (f_fit_rest241 s1 s2 I) fun v3 =>
  (if v3 = 0 then
  some (.inl (s2 + (1 : Int32)))
  else
  some (.inr (.inr (((10 : Int32) * s1) + s2)))
  )
  )
  else
  some (.inr (.inl (s1 + (1 : Int32))))
  )

theorem x_firstRest {I : MJ} {r : Nat → Nat → Int32} (hr : ∀ p q, p < 6 → q < 6 → f_fit_rest241 (Int32.ofNat p) (Int32.ofNat q) I = some (r p q)) : ∃ v, f_fit_firstRest244 I = some v ∧ firstP r 6 0 v := by
  unfold f_fit_firstRest244
  refine wh_inv2 (fun (i : Nat) (s : Int32) => s = Int32.ofNat i ∧ ∀ p q, p < 6 → q < 6 → p < i → r p q = 0) (fun v => firstP r 6 0 v) 6 ?_ ?_ ⟨rfl, fun p q _ _ hp => absurd hp (Nat.not_lt_zero p)⟩
  · rintro i hi s ⟨rfl, h⟩
    have hin : ∃ c : Int32 ⊕ Int32, wh (frI (Int32.ofNat i) I) (0 : Int32) = some c ∧ ((c = .inl (Int32.ofNat (i + 1)) ∧ ∀ q, q < 6 → r i q = 0) ∨ (∃ v, c = .inr v ∧ firstP r 6 0 v)) := by
      refine wh_inv2 (fun (j : Nat) (s : Int32) => s = Int32.ofNat j ∧ ∀ q, q < 6 → q < j → r i q = 0) _ 6 ?_ ?_ ⟨rfl, fun q _ hq => absurd hq (Nat.not_lt_zero q)⟩
      · rintro j hj s ⟨rfl, h2⟩
        unfold frI
        rw [if_pos (by rw [i_ltr (by omega) (by decide)]; exact hj), hr i j hi hj, ob_some]
        by_cases h3 : r i j = 0
        · left
          rw [if_pos h3]
          refine ⟨_, rfl, i_addr (n := 1), fun q hq hqj => ?_⟩
          by_cases hq2 : q = j
          · rw [hq2]; exact h3
          · exact h2 q hq (by omega)
        · right
          rw [if_neg h3]
          refine ⟨_, rfl, Or.inr ⟨_, rfl, Or.inr ⟨i, j, hi, hj, by omega, h3, ?_, fun p' q' hp' hq' hlt => ?_⟩⟩⟩
          · rw [show (10 : Int32) * Int32.ofNat i = Int32.ofNat (10 * i) from i_mull (n := 10), i_add]
          · rcases hlt with hlt | ⟨rfl, hlt⟩
            · exact h p' q' hp' hq' hlt
            · exact h2 q' hq' hlt
      · rintro s ⟨rfl, h2⟩
        unfold frI
        rw [if_neg (by decide)]
        exact ⟨_, rfl, Or.inl ⟨by rw [show Int32.ofNat i + 1 = Int32.ofNat (i + 1) from i_addr (n := 1)], fun q hq => h2 q hq hq⟩⟩
    obtain ⟨c, h1, h2⟩ := hin
    rw [if_pos (by rw [i_ltr (by omega) (by decide)]; exact hi)]
    rcases h2 with ⟨rfl, h3⟩ | ⟨v, rfl, h3⟩
    · left
      refine ⟨_, h1, rfl, fun p q hp hq hpi => ?_⟩
      by_cases hpi2 : p = i
      · rw [hpi2]; exact h3 q hq
      · exact h p q hp hq (by omega)
    · right
      exact ⟨v, h1, h3⟩
  · rintro s ⟨rfl, h⟩
    exact ⟨-1, if_neg (by decide), Or.inl ⟨rfl, fun p q hp hq _ => h p q hp hq hp⟩⟩
