/-! pieces: the runs of a set of orders, laid by the reference, counted by the class -/
def AM (J : MJ) (l : List (Nat × Nat)) : Prop := J 47 53 = Int32.ofNat l.length ∧ ∀ j, j < l.length → J 694 j = Int32.ofNat (l.getD j (0, 0)).1 ∧ J 695 j = Int32.ofNat (l.getD j (0, 0)).2
def fL (I J : MJ) : Prop := ∀ a k, ¬ (a = 47 ∧ k = 53) → a ≠ 694 → a ≠ 695 → J a k = I a k
theorem AM_push {J : MJ} {l : List (Nat × Nat)} {x y : Nat} (h : AM J l) : AM (ab_up1 (ab_up1 (ab_up1 J 694 l.length (Int32.ofNat x)) 695 l.length (Int32.ofNat y)) 47 53 (Int32.ofNat (l.length + 1))) (l ++ [(x, y)]) := by
  have hl : (l ++ [(x, y)]).length = l.length + 1 := List.length_append
  refine ⟨by rw [up_eq, hl], fun j hj => ?_⟩
  rw [hl] at hj
  by_cases e : j = l.length
  · subst e
    rw [gd_app2]
    exact ⟨by rw [up_ne (by omega), up_ne (by omega), up_eq], by rw [up_ne (by omega), up_eq]⟩
  · have hj' : j < l.length := by omega
    rw [gd_app1 hj']
    exact ⟨by rw [up_ne (by omega), up_ne (by omega), up_ne (fun z => e z.2)]; exact (h.2 j hj').1, by rw [up_ne (by omega), up_ne (fun z => e z.2), up_ne (by omega)]; exact (h.2 j hj').2⟩
noncomputable def lrB (p : Option Nat) : Int32 × MJ → Option ((Int32 × MJ) ⊕ MJ) := fun (s8 : Int32 × MJ) =>
  (if s8.1 < (12 : Int32) then
  (Option.bind p fun r10 =>
  (Option.bind (rd s8.2 r10 s8.1) fun v11 =>
  (Option.bind (wr s8.2 694 (s8.2 47 53) v11) fun I12 =>
  (Option.bind p fun r13 =>
  (Option.bind (f_m_runAt308 r13 (0 : Int32) s8.1 I12) fun v14 =>
  (Option.bind (wr I12 695 (I12 47 53) v14) fun I15 =>
  (Option.bind p fun r16 =>
  (Option.bind (f_m_runAt308 r16 (0 : Int32) s8.1 (ab_up1 I15 47 53 ((I15 47 53) + (1 : Int32)))) fun v17 =>
  some (.inl ((s8.1 + v17), (ab_up1 I15 47 53 ((I15 47 53) + (1 : Int32)))))
  )
  )
  )
  )
  )
  )
  )
  )
  else
  some (.inr s8.2)
  )
theorem m_layR {I : MJ} {p : Nat} {K : Nat → Nat} (hp : p < 6) (hK : ∀ j, j < 12 → K j < 6) (hk : ∀ j, j < 12 → I (129 + p) j = Int32.ofNat (K j)) : ∀ (f s : Nat) (l : List (Nat × Nat)) (J : MJ), 12 - s ≤ f → s ≤ 12 → fL I J → AM J l → l.length + (prF K f s).length ≤ 12 → ∃ J2, wh (lrB (some (129 + p))) (Int32.ofNat s, J) = some J2 ∧ fL I J2 ∧ AM J2 (l ++ prF K f s)
  | 0, s, l, J, h1, h2, hF, hA, _ => by
    have e : s = 12 := by omega
    subst e
    refine ⟨J, wh_inr (by unfold lrB; exact if_neg (show ¬ Int32.ofNat 12 < (12 : Int32) by decide)), hF, ?_⟩
    show AM J (l ++ [])
    rw [List.append_nil]
    exact hA
  | f + 1, s, l, J, h1, h2, hF, hA, hlen => by
    by_cases hs : s < 12
    · obtain ⟨r1, r2, r3, r4⟩ := rl_ok hK hs
      have e : prF K (f + 1) s = (K s, rlF (fun j => Int32.ofNat (K j)) s 11 1) :: prF K f (s + rlF (fun j => Int32.ofNat (K j)) s 11 1) := if_pos hs
      have hrd : ∀ M : MJ, fL I M → ∀ j, j < 12 → rd M (129 + p) (Int32.ofNat j) = some (Int32.ofNat (K j)) := fun M hM j hj => by
        rw [rd_ok (a := 129 + p) (KS_128 p hp) hj (by omega) (by decide), hM _ _ (by omega) (by omega) (by omega), hk j hj]
      have hra : ∀ M : MJ, fL I M → f_m_runAt308 (129 + p) 0 (Int32.ofNat s) M = some (Int32.ofNat (rlF (fun j => Int32.ofNat (K j)) s 11 1)) := fun M hM => m_runAt (I := M) (a := 129 + p) (K := fun j => Int32.ofNat (K j)) hs (hrd M hM)
      rw [e] at hlen ⊢
      rw [List.length_cons] at hlen
      generalize rlF (fun j => Int32.ofNat (K j)) s 11 1 = r at *
      have hl12 : l.length < 12 := by omega
      have n53 : J 47 53 = Int32.ofNat l.length := hA.1
      have F1 : fL I (ab_up1 J 694 l.length (Int32.ofNat (K s))) := fun a k z1 z2 z3 => by rw [up_ne (fun z => z2 z.1)]; exact hF a k z1 z2 z3
      have F3 : fL I (ab_up1 (ab_up1 (ab_up1 J 694 l.length (Int32.ofNat (K s))) 695 l.length (Int32.ofNat r)) 47 53 (Int32.ofNat (l.length + 1))) := fun a k z1 z2 z3 => by rw [up_ne z1, up_ne (fun z => z3 z.1)]; exact F1 a k z1 z2 z3
      obtain ⟨J2, g1, g2, g3⟩ := m_layR hp hK hk f (s + r) (l ++ [(K s, r)]) _ (by omega) r2 F3 (AM_push hA) (by rw [show (l ++ [(K s, r)]).length = l.length + 1 from List.length_append]; omega)
      refine ⟨J2, (wh_inl ?_).trans g1, g2, ?_⟩
      · unfold lrB
        try dsimp only
        rw [if_pos (show Int32.ofNat s < (12 : Int32) from lt_l (b := 12) hs (by omega)), ob_some, hrd J hF s hs, ob_some, n53, wr_ok (a := 694) (n := 12) rfl hl12 (by decide) (by decide), ob_some, ob_some, hra _ F1, ob_some, up_ne (by omega), n53, wr_ok (a := 695) (n := 12) rfl hl12 (by decide) (by decide), ob_some, ob_some, up_ne (by omega), up_ne (by omega), n53, show Int32.ofNat l.length + (1 : Int32) = Int32.ofNat (l.length + 1) from i_addr, hra _ F3, ob_some, i_add]
      · rw [List.append_assoc] at g3
        exact g3
    · have e : s = 12 := by omega
      subst e
      refine ⟨J, wh_inr (by unfold lrB; exact if_neg (show ¬ Int32.ofNat 12 < (12 : Int32) by decide)), hF, ?_⟩
      have e2 : prF K (f + 1) 12 = [] := if_neg (by decide)
      rw [e2, List.append_nil]
      exact hA
/-- all patterns told, and 12 runs at most -/
def OKp (od pk : Nat → Nat → Nat) (tb s o : Nat) : Prop := (∀ q, q < o → s.testBit q = true → tb.testBit (od q 1) = true) ∧ (RLs od pk s o).length ≤ 12
theorem RLs_mono {od pk : Nat → Nat → Nat} {s o : Nat} : ∀ {o' : Nat}, o ≤ o' → (RLs od pk s o).length ≤ (RLs od pk s o').length
  | 0, h => by rw [show o = 0 by omega]; exact Nat.le_refl _
  | o' + 1, h => by
    by_cases e : o = o' + 1
    · rw [e]; exact Nat.le_refl _
    · have := RLs_mono (od := od) (pk := pk) (s := s) (o := o) (o' := o') (by omega)
      show _ ≤ (if s.testBit o' = true then RLs od pk s o' ++ prF (pk (od o' 1)) 12 0 else RLs od pk s o').length
      split
      · rw [List.length_append]; omega
      · exact this
theorem OKp_mono {od pk : Nat → Nat → Nat} {tb s o o' : Nat} (h : OKp od pk tb s o') (ho : o ≤ o') : OKp od pk tb s o := ⟨fun q hq => h.1 q (by omega), Nat.le_trans (RLs_mono ho) h.2⟩
section LAYS
variable {no tb s : Nat} {od pk : Nat → Nat → Nat} {I : MJ}
theorem m_laysRuns (hs : s < 256) (hn : no ≤ 8) (hod : ∀ o, o < no → od o 1 < 6) (hpk : ∀ p h, p < 6 → h < 12 → pk p h < 6) (e3 : I 51 3 = Int32.ofNat no) (h120 : ∀ o j, o < no → j < 5 → I (120 + o) j = Int32.ofNat (od o j)) (h135 : ∀ p, p < 6 → I 135 p = if tb.testBit p then 1 else 0) (g5 : ∀ p h, p < 6 → h < 12 → I (129 + p) h = Int32.ofNat (pk p h)) : ∃ c : Int32 × MJ, f_m_laysRuns354 (Int32.ofNat s) I = some c ∧ fL I c.2 ∧ ((c.1 = 1 ∧ AM c.2 (RLs od pk s no) ∧ OKp od pk tb s no) ∨ (c.1 = 0 ∧ ¬ OKp od pk tb s no)) := by
  unfold f_m_laysRuns354
  refine wh_inv2 (fun o st => ∃ J : MJ, st = (Int32.ofNat o, J) ∧ fL I J ∧ AM J (RLs od pk s o) ∧ OKp od pk tb s o) _ no ?_ ?_ ⟨_, rfl, fun a k z1 z2 z3 => up_ne z1, ⟨up_eq, fun j hj => absurd hj (Nat.not_lt_zero j)⟩, fun q hq => absurd hq (Nat.not_lt_zero q), Nat.zero_le _⟩
  · intro o ho st hst
    obtain ⟨J, rfl, j1, j2, j3⟩ := hst
    have ho1 := hod o ho
    have hKp : ∀ j, j < 12 → pk (od o 1) j < 6 := fun j hj => hpk _ j ho1 hj
    try dsimp only
    rw [if_pos (show Int32.ofNat o < J 51 3 by rw [j1 51 3 (by omega) (by omega) (by omega), e3]; exact lt_l ho (by omega)), rdp_119 (by omega), ob_some, show rd J (120 + o) (1 : Int32) = some (J (120 + o) 1) from rdr_119 (w := o) (k := 1) (by omega) (by decide), ob_some, j1 (120 + o) 1 (by omega) (by omega) (by omega), h120 o 1 ho (by decide), m_has, ob_some, bitF_nat (by omega) (by omega)]
    by_cases hb : s.testBit o = true
    · have eR : RLs od pk s (o + 1) = RLs od pk s o ++ prF (pk (od o 1)) 12 0 := if_pos hb
      rw [if_pos hb, if_neg (show ¬ (1 : Int32) = 0 by decide), rdb_135 ho1, ob_some, j1 135 (od o 1) (by omega) (by omega) (by omega), h135 _ ho1]
      by_cases ht : tb.testBit (od o 1) = true
      · obtain ⟨u1, u2⟩ := runs_len hKp
        have hru : f_m_runsOf291 (129 + od o 1) (0 : Int32) J = some (Int32.ofNat (prF (pk (od o 1)) 12 0).length) := by
          rw [← u1, show f_m_runsOf291 (129 + od o 1) (0 : Int32) J = some (runsF (fun h => J (129 + od o 1) (0 + h))) from m_runsOf (f := 0) (KS_128 _ ho1) (by omega) (by decide) (by decide)]
          refine congrArg some (runsF_congr fun k hk => ?_)
          rw [Nat.zero_add, j1 _ _ (by omega) (by omega) (by omega), g5 _ k ho1 hk]
        rw [if_pos ht, if_neg (show ¬ (1 : Int32) = 0 by decide), rdp_128 ho1, ob_some, hru, ob_some]
        have hl := j3.2
        by_cases h12 : 12 < (RLs od pk s o).length + (prF (pk (od o 1)) 12 0).length
        · rw [if_pos (show (12 : Int32) < J 47 53 + Int32.ofNat (prF (pk (od o 1)) 12 0).length by rw [j2.1, i_add]; exact lt_l (a := 12) h12 (by omega))]
          refine Or.inr ⟨_, rfl, j1, Or.inr ⟨rfl, fun z => ?_⟩⟩
          have := (OKp_mono z (show o + 1 ≤ no by omega)).2
          rw [eR, List.length_append] at this
          omega
        · rw [if_neg (show ¬ (12 : Int32) < J 47 53 + Int32.ofNat (prF (pk (od o 1)) 12 0).length by rw [j2.1, i_add]; exact nlt_l (a := 12) h12 (by omega) (by omega))]
          obtain ⟨J2, k1, k2, k3⟩ := m_layR (I := I) (p := od o 1) (K := pk (od o 1)) ho1 hKp (fun j hj => g5 _ j ho1 hj) 12 0 (RLs od pk s o) J (by omega) (by omega) j1 j2 (by omega)
          refine Or.inl ⟨(Int32.ofNat (o + 1), J2), ?_, J2, rfl, k2, by rw [eR]; exact k3, ?_, ?_⟩
          · exact (congrArg (fun z => Option.bind z _) (show _ = some J2 from k1)).trans (by rw [ob_some, i_addr])
          · intro q hq hqb
            by_cases z : q = o
            · rw [z]; exact ht
            · exact j3.1 q (by omega) hqb
          · rw [eR, List.length_append]
            omega
      · rw [if_neg ht, if_pos rfl]
        exact Or.inr ⟨_, rfl, j1, Or.inr ⟨rfl, fun z => ht (z.1 o ho hb)⟩⟩
    · have eR : RLs od pk s (o + 1) = RLs od pk s o := if_neg hb
      rw [if_neg hb, if_pos rfl]
      refine Or.inl ⟨_, rfl, J, Prod.ext i_addr rfl, j1, by rw [eR]; exact j2, fun q hq hqb => ?_, by rw [eR]; exact j3.2⟩
      by_cases z : q = o
      · rw [z] at hqb
        exact absurd hqb hb
      · exact j3.1 q (by omega) hqb
  · intro st hst
    obtain ⟨J, rfl, j1, j2, j3⟩ := hst
    try dsimp only
    rw [if_neg (show ¬ Int32.ofNat no < J 51 3 by rw [j1 51 3 (by omega) (by omega) (by omega), e3]; exact Int32.lt_irrefl)]
    exact ⟨_, rfl, j1, Or.inl ⟨rfl, j2, j3⟩⟩
theorem x_patternOf {o : Nat} (ho : o < no) (hn : no ≤ 8) (h8 : ∀ o j, o < no → j < 5 → I 8 (5 * o + j) = Int32.ofNat (od o j)) : f_tas_patternOf206 (Int32.ofNat o) I = some (Int32.ofNat (od o 1)) := by
  unfold f_tas_patternOf206
  rw [show f_sho_orderPart123 (Int32.ofNat o) (1 : Int32) I = some (Int32.ofNat (od o 1)) from x_orderPart (j := 1) ho hn (by decide) h8, ob_some]
theorem x_canBePacked (hs : s < 256) (hn : no ≤ 8) (hod : ∀ o, o < no → od o 1 < 6) (hpk : ∀ p h, p < 6 → h < 12 → pk p h < 6) (e8 : I 3 8 = Int32.ofNat no) (h8 : ∀ o j, o < no → j < 5 → I 8 (5 * o + j) = Int32.ofNat (od o j)) (ht : tb < 64) (e19 : I 19 3 = Int32.ofNat tb) (g6 : ∀ p h, p < 6 → h < 12 → I 20 (12 * p + h) = Int32.ofNat (pk p h)) : ∃ v, f_tas_canBePacked205 (Int32.ofNat s) I = some v ∧ ((v = 1 ∧ OKp od pk tb s no) ∨ (v = 0 ∧ ¬ OKp od pk tb s no)) := by
  unfold f_tas_canBePacked205
  refine wh_inv2 (fun o st => st = (Int32.ofNat (RLs od pk s o).length, Int32.ofNat o) ∧ (RLs od pk s o).length ≤ 12 * o ∧ ∀ q, q < o → s.testBit q = true → tb.testBit (od q 1) = true) _ no ?_ ?_ ⟨rfl, Nat.zero_le _, fun q hq => absurd hq (Nat.not_lt_zero q)⟩
  · intro o ho st hst
    obtain ⟨rfl, j2, j3⟩ := hst
    have ho1 := hod o ho
    have hKp : ∀ j, j < 12 → pk (od o 1) j < 6 := fun j hj => hpk _ j ho1 hj
    try dsimp only
    rw [if_pos (show Int32.ofNat o < I 3 8 by rw [e8]; exact lt_l ho (by omega)), x_holds, ob_some, bitF_nat (by omega) (by omega)]
    by_cases hb : s.testBit o = true
    · have eR : RLs od pk s (o + 1) = RLs od pk s o ++ prF (pk (od o 1)) 12 0 := if_pos hb
      rw [if_pos hb, if_neg (show ¬ (1 : Int32) = 0 by decide), x_patternOf ho hn h8, ob_some, x_isTold e19 ht ho1, ob_some]
      by_cases htd : tb.testBit (od o 1) = true
      · obtain ⟨u1, u2⟩ := runs_len hKp
        have hru : f_x_runsOf79 20 (Int32.ofNat (12 * od o 1)) I = some (Int32.ofNat (prF (pk (od o 1)) 12 0).length) := by
          rw [← u1, x_runsOf (a := 20) (n := 72) (f := 12 * od o 1) rfl (by decide) (by decide) (by omega)]
          exact congrArg some (runsF_congr fun k hk => g6 _ k ho1 hk)
        rw [if_pos htd, if_neg (show ¬ (1 : Int32) = 0 by decide), ob_some, show (12 : Int32) * Int32.ofNat (od o 1) = Int32.ofNat (12 * od o 1) from i_mull (n := 12), hru, ob_some, i_add, i_addr]
        refine Or.inl ⟨_, rfl, ?_, ?_, fun q hq hqb => ?_⟩
        · rw [eR, List.length_append]
        · rw [eR, List.length_append]
          omega
        · by_cases z : q = o
          · rw [z]; exact htd
          · exact j3 q (by omega) hqb
      · rw [if_neg htd, if_pos rfl]
        exact Or.inr ⟨_, rfl, Or.inr ⟨rfl, fun z => htd (z.1 o ho hb)⟩⟩
    · have eR : RLs od pk s (o + 1) = RLs od pk s o := if_neg hb
      rw [if_neg hb, if_pos rfl, i_addr]
      refine Or.inl ⟨_, rfl, by rw [eR], by rw [eR]; omega, fun q hq hqb => ?_⟩
      by_cases z : q = o
      · rw [z] at hqb
        exact absurd hqb hb
      · exact j3 q (by omega) hqb
  · intro st hst
    obtain ⟨rfl, j2, j3⟩ := hst
    try dsimp only
    rw [if_neg (show ¬ Int32.ofNat no < I 3 8 by rw [e8]; exact Int32.lt_irrefl)]
    by_cases h12 : 12 < (RLs od pk s no).length
    · rw [if_pos (show (12 : Int32) < Int32.ofNat _ from lt_l (a := 12) h12 (by omega)), ob_some, nar_0]
      exact ⟨0, rfl, Or.inr ⟨rfl, fun z => by have := z.2; omega⟩⟩
    · rw [if_neg (show ¬ (12 : Int32) < Int32.ofNat _ from nlt_l (a := 12) h12 (by omega) (by omega)), ob_some, nar_1]
      exact ⟨1, rfl, Or.inl ⟨rfl, j3, by omega⟩⟩
end LAYS
