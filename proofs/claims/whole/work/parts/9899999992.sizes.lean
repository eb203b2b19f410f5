/-! pieces: the class gathers a kind's bolts, the largest first; a run more -/
noncomputable def gsB (i : Int32) : Int32 × MJ → Option ((Int32 × MJ) ⊕ (Int32 × MJ)) := fun (s5 : Int32 × MJ) =>
  (if 0 < s5.1 then
  (Option.bind (f_x_at16 45 (s5.1 - (1 : Int32)) s5.2) fun v9 =>
  (Option.bind (f_sta_leftOn143 15 i s5.2) fun v10 =>
  (if v9 < v10 then
  (Option.bind (f_x_at16 45 (s5.1 - (1 : Int32)) s5.2) fun v11 =>
  (Option.bind (f_x_put15 45 s5.1 v11 s5.2) fun I12 =>
  some (.inl ((s5.1 + (-1 : Int32)), I12))
  )
  )
  else
  some (.inr (s5.1, s5.2))
  )
  )
  )
  else
  some (.inr (s5.1, s5.2))
  )
theorem x_leftOn {J : MJ} {b : Nat} (hb : b < 10) : f_sta_leftOn143 15 (Int32.ofNat b) J = some (J 16 (9 + b)) := by
  unfold f_sta_leftOn143
  rw [show (9 : Int32) + Int32.ofNat b = Int32.ofNat (9 + b) from i_addl (n := 9), show f_x_at16 (15 + 1) (Int32.ofNat (9 + b)) J = some (J 16 (9 + b)) from at_16 (by omega), ob_some]
section SIZES
variable {bk L σ τ : Nat → Nat} {i P : Nat}
/-- the cells while a bolt looks for its place -/
def cel (L σ : Nat → Nat) (P q : Nat) (J : MJ) : Prop := (∀ p, p < q → J 45 p = Int32.ofNat (L (σ p))) ∧ ∀ p, q < p → p ≤ P → J 45 p = Int32.ofNat (L (σ (p - 1)))
theorem x_ins (hi : i < 10) (hP : P < 10) (hL : ∀ p, p < P → L (σ p) ≤ 60) (hLi : L i ≤ 60) : ∀ (q : Nat) (J : MJ), q ≤ P → cel L σ P q J → J 16 (9 + i) = Int32.ofNat (L i) → (∀ p, q ≤ p → p < P → L (σ p) ≤ L i) → ∃ q' J2, wh (gsB (Int32.ofNat i)) (Int32.ofNat q, J) = some (Int32.ofNat q', J2) ∧ q' ≤ q ∧ (∀ a k, a ≠ 45 → J2 a k = J a k) ∧ cel L σ P q' J2 ∧ (∀ p, q' ≤ p → p < P → L (σ p) ≤ L i) ∧ (0 < q' → L i ≤ L (σ (q' - 1)))
  | 0, J, hq, hc, h16, hle => by
    refine ⟨0, J, wh_inr ?_, Nat.le_refl _, fun _ _ _ => rfl, hc, hle, fun z => absurd z (by decide)⟩
    unfold gsB
    try dsimp only
    rw [if_neg (show ¬ (0 : Int32) < Int32.ofNat 0 by decide)]
  | q + 1, J, hq, hc, h16, hle => by
    have e1 : Int32.ofNat (q + 1) - (1 : Int32) = Int32.ofNat q := by rw [i_subr (n := 1) (by show 1 ≤ q + 1; omega)]; rfl
    have e2 : f_x_at16 45 (Int32.ofNat q) J = some (Int32.ofNat (L (σ q))) := by rw [at_ok (a := 45) (n := 10) rfl (by decide) (by decide) (by omega), hc.1 q (by omega)]
    have e3 : f_sta_leftOn143 15 (Int32.ofNat i) J = some (Int32.ofNat (L i)) := by rw [x_leftOn hi, h16]
    have hq60 := hL q (by omega)
    by_cases hlt : L (σ q) < L i
    · obtain ⟨q', J2, g1, g2, g3, g4, g5, g6⟩ := x_ins hi hP hL hLi q (ab_up1 J 45 (q + 1) (Int32.ofNat (L (σ q)))) (by omega) ⟨fun p hp => by rw [up_ne (by omega)]; exact hc.1 p (by omega), fun p h1 h2 => by
        by_cases z : p = q + 1
        · subst z
          rw [up_eq, Nat.add_sub_cancel]
        · rw [up_ne (fun y => z y.2)]
          exact hc.2 p (by omega) h2⟩ (by rw [up_ne (by omega)]; exact h16) (fun p h1 h2 => by
        by_cases z : p = q
        · rw [z]; omega
        · exact hle p (by omega) h2)
      refine ⟨q', J2, (wh_inl ?_).trans g1, by omega, fun a k ha => by rw [g3 a k ha, up_ne (fun z => ha z.1)], g4, g5, g6⟩
      unfold gsB
      try dsimp only
      rw [if_pos (show (0 : Int32) < Int32.ofNat (q + 1) from lt_l (a := 0) (by omega) (by omega)), e1, e2, ob_some, e3, ob_some, if_pos (lt_l hlt (by omega)), ob_some, put_ok (a := 45) (n := 10) rfl (by decide) (by decide) (by omega), ob_some, i_dec (show 1 ≤ q + 1 by omega), Nat.add_sub_cancel]
    · refine ⟨q + 1, J, wh_inr ?_, Nat.le_refl _, fun _ _ _ => rfl, hc, hle, fun _ => by rw [Nat.add_sub_cancel]; omega⟩
      unfold gsB
      try dsimp only
      rw [if_pos (show (0 : Int32) < Int32.ofNat (q + 1) from lt_l (a := 0) (by omega) (by omega)), e1, e2, ob_some, e3, ob_some, if_neg (nlt_l hlt (by omega) (by omega))]
end SIZES
theorem srt_le {bk L : Nat → Nat} {nb k P : Nat} {σ τ : Nat → Nat} (h : SRT bk L nb k σ τ P) : P ≤ nb := by
  obtain ⟨a1, a2, a3, a4⟩ := h
  have h1 := a3 fun _ => 1
  have h2 : sN (fun p => (fun _ : Nat => 1) (σ p)) P = P := by
    clear h1 a1 a2 a3 a4
    induction P with
    | zero => rfl
    | succ P ih =>
      show sN (fun p => (fun _ : Nat => 1) (σ p)) P + 1 = P + 1
      rw [ih]
  have h3 : sN (fun b => if bk b = k then (fun _ : Nat => 1) b else 0) nb ≤ 1 * nb := sN_le fun b _ => ite_01
  rw [h1, h2] at h3
  omega
def fS (I J : MJ) : Prop := ∀ a k, ¬ (a = 43 ∧ k = 7) → a ≠ 45 → J a k = I a k
theorem x_gatherSizes {bk L : Nat → Nat} {nb x : Nat} {I : MJ} (hb : nb ≤ 10) (hx : x < 6) (hbk : ∀ b, b < nb → bk b < 6) (hL : ∀ b, b < nb → L b ≤ 60) (e5 : I 3 5 = Int32.ofNat nb) (h4 : ∀ b, b < nb → I 4 b = Int32.ofNat (bk b)) (h16 : ∀ b, b < nb → I 16 (9 + b) = Int32.ofNat (L b)) : ∃ J σ τ P, f_tas_gatherSizes210 (Int32.ofNat x) I = some J ∧ fS I J ∧ SRT bk L nb x σ τ P ∧ J 43 7 = Int32.ofNat P ∧ ∀ p, p < P → J 45 p = Int32.ofNat (L (σ p)) := by
  have main : ∃ J, f_tas_gatherSizes210 (Int32.ofNat x) I = some J ∧ ∃ σ τ P, fS I J ∧ SRT bk L nb x σ τ P ∧ J 43 7 = Int32.ofNat P ∧ ∀ p, p < P → J 45 p = Int32.ofNat (L (σ p)) := by
    unfold f_tas_gatherSizes210
    refine bindx (wh_inv (fun i st => ∃ J : MJ, st = (Int32.ofNat i, J) ∧ ∃ σ τ P, fS I J ∧ SRT bk L i x σ τ P ∧ J 43 7 = Int32.ofNat P ∧ ∀ p, p < P → J 45 p = Int32.ofNat (L (σ p))) _ nb ?_ ?_ ⟨_, rfl, fun _ => 0, fun _ => 0, 0, fun a k z1 z2 => up_ne z1, SRT_0, up_eq, fun p hp => absurd hp (Nat.not_lt_zero p)⟩)
    · intro i hi st hst
      obtain ⟨J, rfl, σ, τ, P, j1, j2, j3, j4⟩ := hst
      have hPi := srt_le j2
      have hki := hbk i hi
      have e16 : ∀ M : MJ, (∀ a k, a ≠ 45 → M a k = J a k) → M 16 (9 + i) = Int32.ofNat (L i) := fun M hM => by rw [hM _ _ (by decide), j1 _ _ (by omega) (by decide)]; exact h16 i hi
      try dsimp only
      unfold f_sho_boltKind147
      rw [if_pos (show Int32.ofNat i < J 3 5 by rw [j1 3 5 (by omega) (by decide), e5]; exact lt_l hi (by omega)), at_4 (by omega), ob_some, ob_some, j1 4 i (by omega) (by decide), h4 i hi]
      by_cases hk : bk i = x
      · obtain ⟨q, J2, g1, g2, g3, g4, g5, g6⟩ := x_ins (L := L) (σ := σ) (i := i) (P := P) (by omega) (by omega) (fun p hp => hL _ (by have := (j2.1 p hp).1; omega)) (hL i hi) P J (Nat.le_refl P) ⟨fun p hp => j4 p hp, fun p h1 h2 => by omega⟩ (e16 J (fun _ _ _ => rfl)) (fun p h1 h2 => by omega)
        have inner : (Option.bind (wh (gsB (Int32.ofNat i)) (Int32.ofNat P, J)) fun b6 => Option.bind (f_sta_leftOn143 15 (Int32.ofNat i) b6.2) fun v7 => Option.bind (f_x_put15 45 b6.1 v7 b6.2) fun I8 => some (ab_up1 I8 43 7 ((I8 43 7) + (1 : Int32)))) = some (ab_up1 (ab_up1 J2 45 q (Int32.ofNat (L i))) 43 7 (Int32.ofNat (P + 1))) := by
          rw [g1, ob_some]
          try dsimp only
          rw [x_leftOn (by omega), e16 J2 g3, ob_some, put_ok (a := 45) (n := 10) rfl (by decide) (by decide) (by omega), ob_some, up_ne (by omega), g3 43 7 (by decide), j3, i_addr]
        rw [if_pos (by rw [hk]), j3]
        refine ⟨(Int32.ofNat (i + 1), ab_up1 (ab_up1 J2 45 q (Int32.ofNat (L i))) 43 7 (Int32.ofNat (P + 1))), (congrArg (fun z => Option.bind z _) (show _ = some _ from inner)).trans (by rw [ob_some, i_addr]), _, rfl, _, _, P + 1, fun a k z1 z2 => by rw [up_ne z1, up_ne (fun z => z2 z.1), g3 a k z2, j1 a k z1 z2], SRT_ins j2 hk g2 (fun p hp => Nat.le_trans (g6 (by omega)) (j2.2.2.2 p (q - 1) (by omega) (by omega))) g5, up_eq, fun p hp => ?_⟩
        · rw [up_ne (by omega)]
          by_cases c1 : p < q
          · rw [if_pos c1, up_ne (by omega)]
            exact g4.1 p c1
          · rw [if_neg c1]
            by_cases c2 : p = q
            · subst c2
              rw [if_pos rfl, up_eq]
            · rw [if_neg c2, up_ne (fun z => c2 z.2)]
              exact g4.2 p (by omega) (by omega)
      · rw [if_neg (neq_l hk (by omega) (by omega)), ob_some]
        exact ⟨_, rfl, J, Prod.ext i_addr rfl, σ, τ, P, j1, SRT_no j2 hk, j3, j4⟩
    · intro st hst
      obtain ⟨J, rfl, σ, τ, P, j1, j2, j3, j4⟩ := hst
      try dsimp only
      rw [if_neg (show ¬ Int32.ofNat nb < J 3 5 by rw [j1 3 5 (by omega) (by decide), e5]; exact Int32.lt_irrefl)]
      exact ⟨_, rfl, _, rfl, σ, τ, P, j1, j2, j3, j4⟩
  obtain ⟨J, h1, σ, τ, P, h2⟩ := main
  exact ⟨J, σ, τ, P, h1, h2⟩
theorem i_divn {m n : Nat} (hm : m < 2147483648) (hn : n < 2147483648) : Int32.ofNat m / Int32.ofNat n = Int32.ofNat (m / n) := by
  apply Int32.toInt_inj.mp
  rw [Int32.toInt_div_of_ne_right _ _ (fun h => by rw [i_neg1 (by omega)] at h; exact h), Int32.toInt_ofNat_of_lt (by omega), Int32.toInt_ofNat_of_lt (by omega), Int32.toInt_ofNat_of_lt (Nat.lt_of_le_of_lt (Nat.div_le_self m n) (by omega))]
  exact (Int.ofNat_tdiv m n).symm
theorem x_addRun {I : MJ} {sz : Nat → Nat} {P u l : Nat} (H : szP sz P) (hu : u ≤ 1000000) (hl : l ≤ 12) (e7 : I 43 7 = Int32.ofNat P) (h45 : ∀ p, p < P → I 45 p = Int32.ofNat (sz p)) : f_tas_addRun212 (Int32.ofNat u) (Int32.ofNat l) I = some (Int32.ofNat (aR sz P u l)) := by
  obtain ⟨h1, h2, h3⟩ := H
  have ed : Int32.ofNat u / (64 : Int32) = Int32.ofNat (u / 64) := i_divn (n := 64) (by omega) (by decide)
  have em : Int32.ofNat u - Int32.ofNat (u / 64) * (64 : Int32) + Int32.ofNat l = Int32.ofNat (u % 64 + l) := by
    rw [i_mulr, i_sub (by show u / 64 * 64 ≤ u; omega), i_add, show u - u / 64 * 64 = u % 64 by omega]
  have e1 : Int32.ofNat (u / 64) + (1 : Int32) = Int32.ofNat (u / 64 + 1) := i_addr
  have e2 : Int32.ofNat (u / 64 + 1) * (64 : Int32) + Int32.ofNat l = Int32.ofNat ((u / 64 + 1) * 64 + l) := by
    rw [i_mulr, i_add]
  have at45 : ∀ p, p < P → f_x_at16 45 (Int32.ofNat p) I = some (Int32.ofNat (sz p)) := fun p hp => by rw [at_ok (a := 45) (n := 10) rfl (by decide) (by decide) (by omega), h45 p hp]
  have next : (Option.bind (α := Int32) (if Int32.ofNat (u / 64 + 1) < Int32.ofNat P then (Option.bind (f_x_at16 45 (Int32.ofNat (u / 64 + 1)) I) fun v4 => (if v4 < Int32.ofNat l then some (0 : Int32) else some (1 : Int32))) else some (0 : Int32)) fun b2 => (Option.bind (α := Int32) (if b2 = 0 then some (1000000 : Int32) else some (Int32.ofNat ((u / 64 + 1) * 64 + l))) fun b3 => some b3)) = some (Int32.ofNat (if u / 64 + 1 < P ∧ l ≤ sz (u / 64 + 1) then (u / 64 + 1) * 64 + l else 1000000)) := by
    by_cases c1 : u / 64 + 1 < P
    · rw [if_pos (lt_l c1 (by omega)), at45 _ c1, ob_some]
      have := h2 _ c1
      by_cases c2 : sz (u / 64 + 1) < l
      · rw [if_pos (lt_l c2 (by omega)), ob_some, if_pos rfl, ob_some, if_neg (fun z => by have := z.2; omega)]
        rfl
      · rw [if_neg (nlt_l c2 (by omega) (by omega)), ob_some, if_neg (by decide), ob_some, if_pos ⟨c1, by omega⟩]
    · rw [if_neg (nlt_l c1 (by omega) (by omega)), ob_some, if_pos rfl, ob_some, if_neg (fun z => c1 z.1)]
      rfl
  unfold f_tas_addRun212 aR
  rw [e7, ed, em, e1, e2]
  by_cases c0 : u = 1000000
  · rw [if_pos (show Int32.ofNat u = 1000000 by rw [c0]; rfl), if_pos c0]
    rfl
  · rw [if_neg (show ¬ Int32.ofNat u = 1000000 from neq_l (b := 1000000) c0 (by omega) (by decide)), if_neg c0]
    by_cases c1 : u / 64 < P
    · rw [if_pos (lt_l c1 (by omega)), at45 _ c1, ob_some]
      have := h2 _ c1
      by_cases c2 : sz (u / 64) < u % 64 + l
      · rw [if_pos (lt_l c2 (by omega)), if_neg (show ¬ (u / 64 < P ∧ u % 64 + l ≤ sz (u / 64)) from fun z => by have := z.2; omega)]
        exact next
      · rw [if_neg (nlt_l c2 (by omega) (by omega)), if_pos ⟨c1, by omega⟩, i_add]
    · rw [if_neg (nlt_l c1 (by omega) (by omega)), if_neg (show ¬ (u / 64 < P ∧ u % 64 + l ≤ sz (u / 64)) from fun z => c1 z.1)]
      exact next
