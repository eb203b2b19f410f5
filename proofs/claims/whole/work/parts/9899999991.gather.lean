/-! pieces: the class gathers a kind's runs -/
def AL (J : MJ) (l : List Nat) : Prop := J 43 6 = Int32.ofNat l.length ∧ ∀ j, j < l.length → J 44 j = Int32.ofNat (l.getD j 0)
def fG (I J : MJ) : Prop := ∀ a k, ¬ (a = 43 ∧ k = 6) → a ≠ 44 → J a k = I a k
theorem AL_push {J : MJ} {l : List Nat} {x : Nat} (h : AL J l) : AL (ab_up1 (ab_up1 J 44 l.length (Int32.ofNat x)) 43 6 (Int32.ofNat (l.length + 1))) (l ++ [x]) := by
  have hl : (l ++ [x]).length = l.length + 1 := List.length_append
  refine ⟨by rw [up_eq, hl], fun j hj => ?_⟩
  rw [hl] at hj
  by_cases e : j = l.length
  · subst e
    rw [gd_app2, up_ne (by omega), up_eq]
  · have hj' : j < l.length := by omega
    rw [gd_app1 hj', up_ne (by omega), up_ne (fun z => e z.2)]
    exact h.2 j hj'
noncomputable def acB (p1 p2 : Int32) : Int32 × Int32 × MJ → Option ((Int32 × Int32 × MJ) ⊕ MJ) := fun (s1 : Int32 × Int32 × MJ) =>
  (if (12 : Int32) < s1.2.1 then
  some (.inr s1.2.2)
  else
  (Option.bind (α := Int32 × MJ)
  (if s1.2.1 < (12 : Int32) then
  (Option.bind (f_x_at16 20 (p1 + s1.2.1) s1.2.2) fun v4 =>
  (if v4 = p2 then
  some ((s1.1 + (1 : Int32)), s1.2.2)
  else
  (if 0 < s1.1 then
  (if (s1.2.2 43 6) < (12 : Int32) then
  (Option.bind (f_x_put15 44 (s1.2.2 43 6) s1.1 s1.2.2) fun I5 =>
  some ((0 : Int32), (ab_up1 I5 43 6 ((I5 43 6) + (1 : Int32))))
  )
  else
  some (s1.1, s1.2.2)
  )
  else
  some (s1.1, s1.2.2)
  )
  )
  )
  else
  (if 0 < s1.1 then
  (if (s1.2.2 43 6) < (12 : Int32) then
  (Option.bind (f_x_put15 44 (s1.2.2 43 6) s1.1 s1.2.2) fun I6 =>
  some ((0 : Int32), (ab_up1 I6 43 6 ((I6 43 6) + (1 : Int32))))
  )
  else
  some (s1.1, s1.2.2)
  )
  else
  some (s1.1, s1.2.2)
  )
  )
  fun b3 =>
  some (.inl (b3.1, (s1.2.1 + (1 : Int32)), b3.2))
  )
  )
theorem acB_eq {p1 p2 : Int32} {I : MJ} : f_tas_addRuns209 p1 p2 I = wh (acB p1 p2) ((0 : Int32), (0 : Int32), I) := by
  unfold f_tas_addRuns209
  exact b_some
section ADDRUNS
variable {I : MJ} {p x : Nat} {K : Nat → Nat}
theorem ac_at {h : Nat} {J : MJ} (hp : p < 6) (hk : ∀ j, j < 12 → I 20 (12 * p + j) = Int32.ofNat (K j)) (hF : fG I J) (hh : h < 12) : f_x_at16 20 (Int32.ofNat (12 * p) + Int32.ofNat h) J = some (Int32.ofNat (K h)) := by
  rw [i_add, at_ok (a := 20) (n := 72) rfl (by decide) (by decide) (by omega), hF 20 _ (by omega) (by omega), hk h hh]
theorem ac_same {h q : Nat} {J : MJ} (hp : p < 6) (hk : ∀ j, j < 12 → I 20 (12 * p + j) = Int32.ofNat (K j)) (hF : fG I J) (hh : h < 12) (e : K h = x) : acB (Int32.ofNat (12 * p)) (Int32.ofNat x) (Int32.ofNat q, Int32.ofNat h, J) = some (.inl (Int32.ofNat (q + 1), Int32.ofNat (h + 1), J)) := by
  unfold acB
  try dsimp only
  rw [if_neg (show ¬ (12 : Int32) < Int32.ofNat h from nlt_l (a := 12) (by omega) (by omega) (by omega)), if_pos (show Int32.ofNat h < (12 : Int32) from lt_l (b := 12) hh (by omega)), ac_at hp hk hF hh, ob_some, if_pos (by rw [e]), ob_some, i_addr, i_addr]
theorem ac_zero {h : Nat} {J : MJ} (hp : p < 6) (hx : x < 6) (hK : ∀ j, j < 12 → K j < 6) (hk : ∀ j, j < 12 → I 20 (12 * p + j) = Int32.ofNat (K j)) (hF : fG I J) (hh : h ≤ 12) (e : h < 12 → K h ≠ x) : acB (Int32.ofNat (12 * p)) (Int32.ofNat x) (Int32.ofNat 0, Int32.ofNat h, J) = some (.inl (Int32.ofNat 0, Int32.ofNat (h + 1), J)) := by
  unfold acB
  try dsimp only
  rw [if_neg (show ¬ (12 : Int32) < Int32.ofNat h from nlt_l (a := 12) (by omega) (by omega) (by omega))]
  by_cases h12 : h < 12
  · have := hK h h12
    rw [if_pos (show Int32.ofNat h < (12 : Int32) from lt_l (b := 12) h12 (by omega)), ac_at hp hk hF h12, ob_some, if_neg (neq_l (e h12) (by omega) (by omega)), if_neg (show ¬ (0 : Int32) < Int32.ofNat 0 by decide), ob_some, i_addr]
  · rw [if_neg (show ¬ Int32.ofNat h < (12 : Int32) from nlt_l (b := 12) h12 (by omega) (by omega)), if_neg (show ¬ (0 : Int32) < Int32.ofNat 0 by decide), ob_some, i_addr]
theorem ac_flush {h q : Nat} {J : MJ} {l : List Nat} (hp : p < 6) (hx : x < 6) (hK : ∀ j, j < 12 → K j < 6) (hk : ∀ j, j < 12 → I 20 (12 * p + j) = Int32.ofNat (K j)) (hF : fG I J) (hA : AL J l) (hh : h ≤ 12) (e : h < 12 → K h ≠ x) (hq : q ≤ 12) (hl : 0 < q → l.length < 12) : ∃ J2, acB (Int32.ofNat (12 * p)) (Int32.ofNat x) (Int32.ofNat q, Int32.ofNat h, J) = some (.inl (Int32.ofNat 0, Int32.ofNat (h + 1), J2)) ∧ fG I J2 ∧ AL J2 (l ++ if 0 < q then [q] else []) := by
  by_cases h0 : 0 < q
  · have hl12 := hl h0
    refine ⟨ab_up1 (ab_up1 J 44 l.length (Int32.ofNat q)) 43 6 (Int32.ofNat (l.length + 1)), ?_, fun a k z1 z2 => by rw [up_ne z1, up_ne (fun z => z2 z.1)]; exact hF a k z1 z2, by rw [if_pos h0]; exact AL_push hA⟩
    unfold acB
    try dsimp only
    rw [if_neg (show ¬ (12 : Int32) < Int32.ofNat h from nlt_l (a := 12) (by omega) (by omega) (by omega))]
    by_cases h12 : h < 12
    · have := hK h h12
      rw [if_pos (show Int32.ofNat h < (12 : Int32) from lt_l (b := 12) h12 (by omega)), ac_at hp hk hF h12, ob_some, if_neg (neq_l (e h12) (by omega) (by omega)), if_pos (show (0 : Int32) < Int32.ofNat q from lt_l (a := 0) h0 (by omega)), if_pos (show J 43 6 < (12 : Int32) by rw [hA.1]; exact lt_l (b := 12) hl12 (by omega)), hA.1, put_ok (a := 44) (n := 12) rfl (by decide) (by decide) hl12, ob_some, up_ne (by omega), hA.1, ob_some, i_addr, i_addr]
      rfl
    · rw [if_neg (show ¬ Int32.ofNat h < (12 : Int32) from nlt_l (b := 12) h12 (by omega) (by omega)), if_pos (show (0 : Int32) < Int32.ofNat q from lt_l (a := 0) h0 (by omega)), if_pos (show J 43 6 < (12 : Int32) by rw [hA.1]; exact lt_l (b := 12) hl12 (by omega)), hA.1, put_ok (a := 44) (n := 12) rfl (by decide) (by decide) hl12, ob_some, up_ne (by omega), hA.1, ob_some, i_addr, i_addr]
      rfl
  · have e0 : q = 0 := by omega
    subst e0
    exact ⟨J, ac_zero hp hx hK hk hF hh e, hF, by rw [if_neg h0, List.append_nil]; exact hA⟩
theorem x_addRuns (hp : p < 6) (hx : x < 6) (hK : ∀ j, j < 12 → K j < 6) (hk : ∀ j, j < 12 → I 20 (12 * p + j) = Int32.ofNat (K j)) : ∀ (f s q : Nat) (l : List Nat) (J : MJ), 12 - s ≤ f → s ≤ 12 → q ≤ 12 → (0 < q → s < 12 → K s ≠ x) → fG I J → AL J l → l.length + (if 0 < q then 1 else 0) + (lens x (prF K f s)).length ≤ 12 → ∃ J2, wh (acB (Int32.ofNat (12 * p)) (Int32.ofNat x)) (Int32.ofNat q, Int32.ofNat s, J) = some J2 ∧ fG I J2 ∧ AL J2 (l ++ (if 0 < q then [q] else []) ++ lens x (prF K f s)) := by
  have fin : ∀ (q : Nat) (l : List Nat) (J : MJ), q ≤ 12 → fG I J → AL J l → l.length + (if 0 < q then 1 else 0) ≤ 12 → ∃ J2, wh (acB (Int32.ofNat (12 * p)) (Int32.ofNat x)) (Int32.ofNat q, Int32.ofNat 12, J) = some J2 ∧ fG I J2 ∧ AL J2 (l ++ (if 0 < q then [q] else []) ++ []) := fun q l J hq hF hA hl => by
    obtain ⟨J2, g1, g2, g3⟩ := ac_flush (h := 12) hp hx hK hk hF hA (Nat.le_refl _) (fun z => absurd z (by decide)) hq (fun z => by rw [if_pos z] at hl; omega)
    refine ⟨J2, (wh_inl g1).trans (wh_inr ?_), g2, by rw [List.append_nil]; exact g3⟩
    unfold acB
    try dsimp only
    rw [if_pos (show (12 : Int32) < Int32.ofNat (12 + 1) by decide)]
  intro f
  induction f with
  | zero =>
    intro s q l J h1 h2 hq h3 hF hA hl
    have e : s = 12 := by omega
    subst e
    exact fin q l J hq hF hA (by omega)
  | succ f ih =>
    intro s q l J h1 h2 hq h3 hF hA hl
    by_cases hs : s < 12
    · obtain ⟨r1, r2, r3, r4⟩ := rl_ok hK hs
      have e : prF K (f + 1) s = (K s, rlF (fun j => Int32.ofNat (K j)) s 11 1) :: prF K f (s + rlF (fun j => Int32.ofNat (K j)) s 11 1) := if_pos hs
      rw [e] at hl ⊢
      generalize rlF (fun j => Int32.ofNat (K j)) s 11 1 = r at *
      have eL : lens x ((K s, r) :: prF K f (s + r)) = if K s = x then r :: lens x (prF K f (s + r)) else lens x (prF K f (s + r)) := rfl
      rw [eL] at hl ⊢
      by_cases hkx : K s = x
      · have hq0 : ¬ 0 < q := fun z => h3 z hs hkx
        have eq0 : q = 0 := by omega
        subst eq0
        rw [if_neg hq0, if_pos hkx, List.length_cons] at hl
        rw [if_neg hq0, if_pos hkx, List.append_nil]
        have run : ∀ i, i ≤ r → wh (acB (Int32.ofNat (12 * p)) (Int32.ofNat x)) (Int32.ofNat 0, Int32.ofNat s, J) = wh (acB (Int32.ofNat (12 * p)) (Int32.ofNat x)) (Int32.ofNat i, Int32.ofNat (s + i), J) := fun i => by
          induction i with
          | zero => exact fun _ => rfl
          | succ i ih2 =>
            intro hi
            rw [ih2 (by omega), wh_inl (ac_same hp hk hF (h := s + i) (by omega) (by rw [r3 i (by omega)]; exact hkx))]
            rfl
        obtain ⟨J2, g1, g2, g3⟩ := ih (s + r) r l J (by omega) r2 (by omega) (fun _ z y => r4 z (y.trans hkx.symm)) hF hA (by rw [if_pos (show 0 < r by omega)]; omega)
        refine ⟨J2, (run r (Nat.le_refl r)).trans g1, g2, ?_⟩
        rw [if_pos (show 0 < r by omega), List.append_assoc] at g3
        exact g3
      · rw [if_neg hkx] at hl ⊢
        obtain ⟨J1, a1, a2, a3⟩ := ac_flush (h := s) hp hx hK hk hF hA (by omega) (fun _ => hkx) hq (fun z => by rw [if_pos z] at hl; omega)
        have run : ∀ i, 1 ≤ i → i ≤ r → wh (acB (Int32.ofNat (12 * p)) (Int32.ofNat x)) (Int32.ofNat q, Int32.ofNat s, J) = wh (acB (Int32.ofNat (12 * p)) (Int32.ofNat x)) (Int32.ofNat 0, Int32.ofNat (s + i), J1) := fun i => by
          induction i with
          | zero => exact fun z => absurd z (by decide)
          | succ i ih2 =>
            intro _ hi
            by_cases i0 : i = 0
            · subst i0
              exact wh_inl a1
            · rw [ih2 (by omega) (by omega), wh_inl (ac_zero hp hx hK hk a2 (h := s + i) (by omega) (fun _ => by rw [r3 i (by omega)]; exact hkx))]
              rfl
        have hl1 : (l ++ if 0 < q then [q] else []).length = l.length + if 0 < q then 1 else 0 := by
          rw [List.length_append]
          by_cases z : 0 < q
          · rw [if_pos z, if_pos z]
            rfl
          · rw [if_neg z, if_neg z]
            rfl
        obtain ⟨J2, g1, g2, g3⟩ := ih (s + r) 0 (l ++ if 0 < q then [q] else []) J1 (by omega) r2 (by omega) (fun z => absurd z (by decide)) a2 a3 (by rw [hl1, if_neg (show ¬ 0 < 0 by decide)]; omega)
        refine ⟨J2, (run r r1 (Nat.le_refl r)).trans g1, g2, ?_⟩
        rw [if_neg (show ¬ 0 < 0 by decide), List.append_nil] at g3
        exact g3
    · have e : s = 12 := by omega
      subst e
      have e2 : prF K (f + 1) 12 = [] := if_neg (by decide)
      rw [e2]
      exact fin q l J hq hF hA (by omega)
end ADDRUNS
section GATHER
variable {no s x : Nat} {od pk : Nat → Nat → Nat} {I : MJ}
theorem x_gatherRuns (hs : s < 256) (hn : no ≤ 8) (hx : x < 6) (hod : ∀ o, o < no → od o 1 < 6) (hpk : ∀ p h, p < 6 → h < 12 → pk p h < 6) (e8 : I 3 8 = Int32.ofNat no) (h8 : ∀ o j, o < no → j < 5 → I 8 (5 * o + j) = Int32.ofNat (od o j)) (g6 : ∀ p h, p < 6 → h < 12 → I 20 (12 * p + h) = Int32.ofNat (pk p h)) (hlen : (RLs od pk s no).length ≤ 12) : ∃ J, f_tas_gatherRuns208 (Int32.ofNat s) (Int32.ofNat x) I = some J ∧ fG I J ∧ AL J (lens x (RLs od pk s no)) := by
  unfold f_tas_gatherRuns208
  refine bindx (wh_inv (fun o st => ∃ J : MJ, st = (Int32.ofNat o, J) ∧ fG I J ∧ AL J (lens x (RLs od pk s o))) _ no ?_ ?_ ⟨_, rfl, fun a k z1 z2 => up_ne z1, up_eq, fun j hj => absurd hj (Nat.not_lt_zero j)⟩)
  · intro o ho st hst
    obtain ⟨J, rfl, j1, j2⟩ := hst
    have ho1 := hod o ho
    have hKp : ∀ j, j < 12 → pk (od o 1) j < 6 := fun j hj => hpk _ j ho1 hj
    try dsimp only
    rw [if_pos (show Int32.ofNat o < J 3 8 by rw [j1 3 8 (by omega) (by omega), e8]; exact lt_l ho (by omega)), x_holds, ob_some, bitF_nat (by omega) (by omega)]
    by_cases hb : s.testBit o = true
    · have eR : RLs od pk s (o + 1) = RLs od pk s o ++ prF (pk (od o 1)) 12 0 := if_pos hb
      have hm := RLs_mono (od := od) (pk := pk) (s := s) (show o + 1 ≤ no by omega)
      have hll : (lens x (RLs od pk s o) ++ lens x (prF (pk (od o 1)) 12 0)).length ≤ 12 := by
        rw [← lens_app, ← eR]
        exact Nat.le_trans lens_len (by omega)
      rw [List.length_append] at hll
      obtain ⟨J2, k1, k2, k3⟩ := x_addRuns (I := I) (p := od o 1) (x := x) (K := pk (od o 1)) ho1 hx hKp (fun j hj => g6 _ j ho1 hj) 12 0 0 (lens x (RLs od pk s o)) J (by omega) (by omega) (by omega) (fun z => absurd z (by decide)) j1 j2 (by rw [if_neg (show ¬ 0 < 0 by decide)]; omega)
      rw [if_pos hb, if_neg (show ¬ (1 : Int32) = 0 by decide), x_patternOf ho hn (fun o j ho hj => by rw [j1 8 _ (by omega) (by omega)]; exact h8 o j ho hj), ob_some, show (12 : Int32) * Int32.ofNat (od o 1) = Int32.ofNat (12 * od o 1) from i_mull (n := 12), acB_eq, show wh (acB (Int32.ofNat (12 * od o 1)) (Int32.ofNat x)) ((0 : Int32), (0 : Int32), J) = some J2 from k1, ob_some, ob_some]
      refine ⟨_, rfl, J2, Prod.ext i_addr rfl, k2, ?_⟩
      rw [if_neg (show ¬ 0 < 0 by decide), List.append_nil] at k3
      rw [eR, lens_app]
      exact k3
    · have eR : RLs od pk s (o + 1) = RLs od pk s o := if_neg hb
      rw [if_neg hb, if_pos rfl, ob_some]
      exact ⟨_, rfl, J, Prod.ext i_addr rfl, j1, by rw [eR]; exact j2⟩
  · intro st hst
    obtain ⟨J, rfl, j1, j2⟩ := hst
    try dsimp only
    rw [if_neg (show ¬ Int32.ofNat no < J 3 8 by rw [j1 3 8 (by omega) (by omega), e8]; exact Int32.lt_irrefl)]
    exact ⟨_, rfl, _, rfl, j1, j2⟩
end GATHER
