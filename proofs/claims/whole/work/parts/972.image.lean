/-! images -/
noncomputable def paA (p1 : Nat) (p2 : Int32) (s2 : Int32 × MJ) : Option ((Int32 × MJ) ⊕ MJ) :=
  (if s2.1 < (91 : Int32) then
  (Option.bind (rd s2.2 576 s2.1) fun v13 =>
  (Option.bind (f_m_puts382 p1 v13 p2 s2.2) fun w14 =>
  (Option.bind (wr w14.2 576 s2.1 w14.1) fun I15 =>
  some (.inl ((s2.1 + (1 : Int32)), I15))
  )
  )
  )
  else
  some (.inr s2.2)
  )

noncomputable def paC (p1 : Nat) (p2 c : Int32) (s6 : Int32 × MJ) : Option ((Int32 × MJ) ⊕ MJ) :=
  (if s6.1 < (91 : Int32) then
  (Option.bind (rdp 578 c) fun r8 =>
  (Option.bind (rdp 578 c) fun r9 =>
  (Option.bind (rd s6.2 r9 s6.1) fun v10 =>
  (Option.bind (f_m_puts382 p1 v10 p2 s6.2) fun w11 =>
  (Option.bind (wr w11.2 r8 s6.1 w11.1) fun I12 =>
  some (.inl ((s6.1 + (1 : Int32)), I12))
  )
  )
  )
  )
  )
  else
  some (.inr s6.2)
  )

noncomputable def paB (p1 : Nat) (p2 : Int32) (s4 : Int32 × MJ) : Option ((Int32 × MJ) ⊕ MJ) :=
  (if s4.1 < (16 : Int32) then
  (Option.bind (wh (β := MJ) (fun (s6 : Int32 × MJ) =>
  (if s6.1 < (91 : Int32) then
  (Option.bind (rdp 578 s4.1) fun r8 =>
  (Option.bind (rdp 578 s4.1) fun r9 =>
  (Option.bind (rd s6.2 r9 s6.1) fun v10 =>
  (Option.bind (f_m_puts382 p1 v10 p2 s6.2) fun w11 =>
  (Option.bind (wr w11.2 r8 s6.1 w11.1) fun I12 =>
  some (.inl ((s6.1 + (1 : Int32)), I12))
  )
  )
  )
  )
  )
  else
  some (.inr s6.2)
  )
  ) ((0 : Int32), s4.2)) fun b7 =>
  some (.inl ((s4.1 + (1 : Int32)), b7))
  )
  else
  some (.inr s4.2)
  )

/-- where the j-th number of an image stands in the model -/
def dA (j : Nat) : Nat := if j = 0 then 47 else if j < 92 then 576 else 579 + (j - 92) / 91
def dK (j : Nat) : Nat := if j = 0 then 40 else if j < 92 then j - 1 else (j - 92) % 91
theorem dA1 {i : Nat} (h : i < 91) : dA (1 + i) = 576 ∧ dK (1 + i) = i := by
  unfold dA dK
  rw [if_neg (by omega), if_pos (by omega), if_neg (by omega), if_pos (by omega)]
  omega
theorem dA2 {w i : Nat} (h : i < 91) : dA (92 + 91 * w + i) = 579 + w ∧ dK (92 + 91 * w + i) = i := by
  unfold dA dK
  rw [if_neg (by omega), if_neg (by omega), if_neg (by omega), if_neg (by omega)]
  omega
theorem d_cases (j : Nat) (hj : j < 1548) : (j = 0 ∧ dA j = 47 ∧ dK j = 40) ∨ (1 ≤ j ∧ j < 92 ∧ dA j = 576 ∧ dK j = j - 1) ∨ (92 ≤ j ∧ dA j = 579 + (j - 92) / 91 ∧ dK j = (j - 92) % 91) := by
  unfold dA dK
  by_cases h0 : j = 0
  · left; rw [if_pos h0, if_pos h0]; exact ⟨h0, rfl, rfl⟩
  · by_cases h1 : j < 92
    · right; left; rw [if_neg h0, if_pos h1, if_neg h0, if_pos h1]; exact ⟨by omega, h1, rfl, rfl⟩
    · right; right; rw [if_neg h0, if_neg h1, if_neg h0, if_neg h1]; exact ⟨by omega, rfl, rfl⟩
theorem d_inj {i j : Nat} (hi : i < 1548) (hj : j < 1548) (h1 : dA i = dA j) (h2 : dK i = dK j) : i = j := by
  rcases d_cases i hi with ⟨a1, a2, a3⟩ | ⟨a0, a1, a2, a3⟩ | ⟨a1, a2, a3⟩ <;> rcases d_cases j hj with ⟨b1, b2, b3⟩ | ⟨b0, b1, b2, b3⟩ | ⟨b1, b2, b3⟩ <;> rw [a2, b2] at h1 <;> rw [a3, b3] at h2 <;> omega
theorem d_ne {j : Nat} (hj : j < 1548) : dA j < 595 ∧ ¬ (dA j = 47 ∧ dK j = 43) := by
  rcases d_cases j hj with ⟨a1, a2, a3⟩ | ⟨a0, a1, a2, a3⟩ | ⟨a1, a2, a3⟩ <;> rw [a2, a3] <;> omega
theorem puts_w {M : MJ} {T s : Nat} {v : Int32} (hK : KS T = (100, 1548)) (hT : 596 ≤ T ∧ T < 599) (hs : s < 1548) (e : M 47 43 = Int32.ofNat s) : f_m_puts382 T v 0 M = some (v, ab_up1 (ab_up1 M T s v) 47 43 (Int32.ofNat (s + 1))) := by
  have e2 : (ab_up1 M T s v) 47 43 = Int32.ofNat s := by rw [up_ne (by omega), e]
  unfold f_m_puts382
  rw [if_pos rfl, e, wr_ok hK hs (by omega) (by decide), ob_some, ob_some, e2, show Int32.ofNat s + 1 = Int32.ofNat (s + 1) from i_addr (n := 1), show Int32.ofNat (s + 1) - 1 = Int32.ofNat s from i_sub (a := s + 1) (b := 1) (by omega), rd_ok hK hs (by omega) (by decide), ob_some, up_ne (by omega), up_eq]
theorem puts_r {M : MJ} {T s : Nat} {v : Int32} (hK : KS T = (100, 1548)) (hT : 596 ≤ T ∧ T < 599) (hs : s < 1548) (e : M 47 43 = Int32.ofNat s) : f_m_puts382 T v 1 M = some (M T s, ab_up1 M 47 43 (Int32.ofNat (s + 1))) := by
  unfold f_m_puts382
  rw [if_neg (by decide), ob_some, e, show Int32.ofNat s + 1 = Int32.ofNat (s + 1) from i_addr (n := 1), show Int32.ofNat (s + 1) - 1 = Int32.ofNat s from i_sub (a := s + 1) (b := 1) (by omega), rd_ok hK hs (by omega) (by decide), ob_some, up_ne (by omega)]
section PUTS
variable {T : Nat} {p2 : Int32} {Gd : Nat → MJ → Prop}
theorem paA_ok (hst : ∀ s M, s < 1548 → Gd s M → ∃ x M1, f_m_puts382 T (M (dA s) (dK s)) p2 M = some (x, M1) ∧ Gd (s + 1) (ab_up1 M1 (dA s) (dK s) x)) {M : MJ} (hM : Gd 1 M) : ∃ b : MJ, wh (paA T p2) ((0 : Int32), M) = some b ∧ Gd 92 b := by
  refine wh_inv (fun (i : Nat) (s : Int32 × MJ) => s.1 = Int32.ofNat i ∧ Gd (1 + i) s.2) (fun (b : MJ) => Gd 92 b) 91 ?_ ?_ ⟨rfl, hM⟩
  · rintro i hi ⟨a, N⟩ ⟨e1, e2⟩
    dsimp only at e1 e2
    subst e1
    obtain ⟨x, M1, h1, h2⟩ := hst (1 + i) N (by omega) e2
    rw [(dA1 hi).1, (dA1 hi).2] at h1 h2
    refine ⟨(Int32.ofNat (i + 1), ab_up1 M1 576 i x), ?_, rfl, by rw [show 1 + (i + 1) = 1 + i + 1 by omega]; exact h2⟩
    unfold paA
    dsimp only
    rw [if_pos (by rw [i_ltr (by omega) (by decide)]; exact hi), rd_576 hi, ob_some, h1, ob_some]
    dsimp only
    rw [wr_576 hi, ob_some]
    exact congrArg some (congrArg Sum.inl (Prod.ext (i_addr (n := 1)) rfl))
  · rintro ⟨a, N⟩ ⟨e1, e2⟩
    dsimp only at e1 e2
    subst e1
    exact ⟨N, if_neg (show ¬ Int32.ofNat 91 < (91 : Int32) from by decide), e2⟩
theorem paC_ok (hst : ∀ s M, s < 1548 → Gd s M → ∃ x M1, f_m_puts382 T (M (dA s) (dK s)) p2 M = some (x, M1) ∧ Gd (s + 1) (ab_up1 M1 (dA s) (dK s) x)) {M : MJ} {w : Nat} (hw : w < 16) (hM : Gd (92 + 91 * w) M) : ∃ b : MJ, wh (paC T p2 (Int32.ofNat w)) ((0 : Int32), M) = some b ∧ Gd (92 + 91 * (w + 1)) b := by
  refine wh_inv (fun (i : Nat) (s : Int32 × MJ) => s.1 = Int32.ofNat i ∧ Gd (92 + 91 * w + i) s.2) (fun (b : MJ) => Gd (92 + 91 * (w + 1)) b) 91 ?_ ?_ ⟨rfl, hM⟩
  · rintro i hi ⟨a, N⟩ ⟨e1, e2⟩
    dsimp only at e1 e2
    subst e1
    obtain ⟨x, M1, h1, h2⟩ := hst (92 + 91 * w + i) N (by omega) e2
    rw [(dA2 hi).1, (dA2 hi).2] at h1 h2
    refine ⟨(Int32.ofNat (i + 1), ab_up1 M1 (579 + w) i x), ?_, rfl, h2⟩
    unfold paC
    dsimp only
    rw [if_pos (by rw [i_ltr (by omega) (by decide)]; exact hi), rdp_578 hw, ob_some, ob_some, rdr_578 hw hi, ob_some, h1, ob_some]
    dsimp only
    rw [wrr_578 hw hi, ob_some]
    exact congrArg some (congrArg Sum.inl (Prod.ext (i_addr (n := 1)) rfl))
  · rintro ⟨a, N⟩ ⟨e1, e2⟩
    dsimp only at e1 e2
    subst e1
    exact ⟨N, if_neg (show ¬ Int32.ofNat 91 < (91 : Int32) from by decide), by rw [show 92 + 91 * (w + 1) = 92 + 91 * w + 91 by omega]; exact e2⟩
theorem paB_ok (hst : ∀ s M, s < 1548 → Gd s M → ∃ x M1, f_m_puts382 T (M (dA s) (dK s)) p2 M = some (x, M1) ∧ Gd (s + 1) (ab_up1 M1 (dA s) (dK s) x)) {M : MJ} (hM : Gd 92 M) : ∃ b : MJ, wh (paB T p2) ((0 : Int32), M) = some b ∧ Gd 1548 b := by
  refine wh_inv (fun (i : Nat) (s : Int32 × MJ) => s.1 = Int32.ofNat i ∧ Gd (92 + 91 * i) s.2) (fun (b : MJ) => Gd 1548 b) 16 ?_ ?_ ⟨rfl, hM⟩
  · rintro i hi ⟨a, N⟩ ⟨e1, e2⟩
    dsimp only at e1 e2
    subst e1
    obtain ⟨b, h1, h2⟩ := paC_ok hst hi e2
    refine ⟨(Int32.ofNat (i + 1), b), ?_, rfl, h2⟩
    unfold paB
    dsimp only
    rw [if_pos (by rw [i_ltr (by omega) (by decide)]; exact hi)]
    refine (congrArg (fun z => Option.bind z _) (show _ = some b from h1)).trans ?_
    exact congrArg some (congrArg Sum.inl (Prod.ext (i_addr (n := 1)) rfl))
  · rintro ⟨a, N⟩ ⟨e1, e2⟩
    dsimp only at e1 e2
    subst e1
    exact ⟨N, if_neg (show ¬ Int32.ofNat 16 < (16 : Int32) from by decide), e2⟩
theorem putsAll_ok (hst : ∀ s M, s < 1548 → Gd s M → ∃ x M1, f_m_puts382 T (M (dA s) (dK s)) p2 M = some (x, M1) ∧ Gd (s + 1) (ab_up1 M1 (dA s) (dK s) x)) {I : MJ} (hI : Gd 0 (ab_up1 I 47 43 0)) : ∃ b : MJ, f_m_putsAll381 T p2 I = some b ∧ Gd 1548 b := by
  obtain ⟨x, M1, h1, h2⟩ := hst 0 _ (by decide) hI
  obtain ⟨b1, h3, h4⟩ := paA_ok hst h2
  obtain ⟨b2, h5, h6⟩ := paB_ok hst h4
  refine ⟨b2, ?_, h6⟩
  unfold f_m_putsAll381
  rw [show f_m_puts382 T (I 47 40) p2 (ab_up1 I 47 43 0) = some (x, M1) from h1, ob_some]
  refine (congrArg (fun z => Option.bind z _) (show _ = some b1 from h3)).trans ?_
  exact (congrArg (fun z => Option.bind z _) (show _ = some b2 from h5)).trans rfl
end PUTS
/-- what an image's writing does -/
theorem putsAll_w {T : Nat} (hK : KS T = (100, 1548)) (hT : 596 ≤ T ∧ T < 599) (I : MJ) : ∃ b : MJ, f_m_putsAll381 T 0 I = some b ∧ (∀ a k, a ≠ T → ¬ (a = 47 ∧ k = 43) → b a k = I a k) ∧ (∀ j, j < 1548 → b T j = I (dA j) (dK j)) := by
  obtain ⟨b, h1, h2, h3, h4⟩ := putsAll_ok (T := T) (p2 := 0) (I := I) (Gd := fun s M => M 47 43 = Int32.ofNat s ∧ (∀ a k, a ≠ T → ¬ (a = 47 ∧ k = 43) → M a k = I a k) ∧ (∀ j, j < s → M T j = I (dA j) (dK j))) (by
    rintro s M hs ⟨m1, m2, m3⟩
    have hd := d_ne hs
    refine ⟨_, _, puts_w hK hT hs m1, ?_, fun a k h1 h2 => ?_, fun j hj => ?_⟩
    · rw [up_ne (by omega), up_eq]
    · by_cases h3 : a = dA s ∧ k = dK s
      · rw [h3.1, h3.2, up_eq, m2 _ _ (by omega) hd.2]
      · rw [up_ne h3, up_ne h2, up_ne (by omega), m2 a k h1 h2]
    · rw [up_ne (by omega), up_ne (by omega)]
      by_cases h3 : j = s
      · subst h3
        rw [up_eq, m2 _ _ (by omega) hd.2]
      · rw [up_ne (by omega), m3 j (by omega)]) ⟨up_eq, fun a k _ h => up_ne h, fun j hj => absurd hj (Nat.not_lt_zero j)⟩
  exact ⟨b, h1, h3, h4⟩
theorem putsAll_r {T : Nat} (hK : KS T = (100, 1548)) (hT : 596 ≤ T ∧ T < 599) (I : MJ) : ∃ b : MJ, f_m_putsAll381 T 1 I = some b ∧ (∀ j, j < 1548 → b (dA j) (dK j) = I T j) ∧ (∀ a k, ¬ (a = 47 ∧ k = 43) → (∀ j, j < 1548 → ¬ (a = dA j ∧ k = dK j)) → b a k = I a k) := by
  obtain ⟨b, h1, h2, h3, h4⟩ := putsAll_ok (T := T) (p2 := 1) (I := I) (Gd := fun s M => M 47 43 = Int32.ofNat s ∧ (∀ j, j < s → j < 1548 → M (dA j) (dK j) = I T j) ∧ (∀ a k, ¬ (a = 47 ∧ k = 43) → (∀ j, j < s → j < 1548 → ¬ (a = dA j ∧ k = dK j)) → M a k = I a k)) (by
    rintro s M hs ⟨m1, m2, m3⟩
    have hd := d_ne hs
    have eT : M T s = I T s := m3 T s (by omega) (fun j _ hj e => by have := d_ne hj; omega)
    refine ⟨_, _, puts_r hK hT hs m1, ?_, fun j hj hj2 => ?_, fun a k h1 h2 => ?_⟩
    · rw [up_ne (by omega), up_eq]
    · by_cases h3 : j = s
      · subst h3
        rw [up_eq, eT]
      · rw [up_ne (fun e => h3 (d_inj hj2 hs e.1 e.2)), up_ne (d_ne hj2).2, m2 j (by omega) hj2]
    · rw [up_ne (h2 s (by omega) hs), up_ne h1, m3 a k h1 (fun j hj hj2 => h2 j (by omega) hj2)]) ⟨up_eq, fun j hj => absurd hj (Nat.not_lt_zero j), fun a k h _ => up_ne h⟩
  exact ⟨b, h1, fun j hj => h3 j hj hj, fun a k h5 h6 => h4 a k h5 (fun j _ hj => h6 j hj)⟩
