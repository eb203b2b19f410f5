/-! law: products and sums -/
noncomputable def prC (rc : Int32 → MJ → Option MJ) (p2 : Int32) : Int32 × MJ → Option ((Int32 × MJ) ⊕ MJ) := fun (s2 : Int32 × MJ) =>
  (if s2.1 < (150 : Int32) then
  (Option.bind (f_tap_isNext73 (42 : Int32) s2.2) fun w4 =>
  (if w4.1 = 0 then
  (Option.bind (f_tap_isNext73 (47 : Int32) w4.2) fun w5 =>
  (if w5.1 = 0 then
  (Option.bind (f_tap_isNext73 (37 : Int32) w5.2) fun w6 =>
  (if w6.1 = 0 then
  some (.inr w6.2)
  else
  (Option.bind (f_tap_isNext73 (42 : Int32) w6.2) fun w7 =>
  (Option.bind (α := Int32 × MJ)
  (if w7.1 = 0 then
  (Option.bind (f_tap_isNext73 (47 : Int32) w7.2) fun w13 =>
  (if w13.1 = 0 then
  some ((37 : Int32), w13.2)
  else
  some ((47 : Int32), w13.2)
  )
  )
  else
  some ((42 : Int32), w7.2)
  )
  fun b8 =>
  (Option.bind (f_tap_sign58 b8.1 b8.2) fun I9 =>
  (Option.bind (F_mot_readUnit85 rc p2 I9) fun I10 =>
  (Option.bind (α := Int32)
  (if b8.1 = (42 : Int32) then
  some (-11 : Int32)
  else
  (if b8.1 = (47 : Int32) then
  some (-12 : Int32)
  else
  some (-13 : Int32)
  )
  )
  fun b11 =>
  (Option.bind (f_mot_write86 b11 I10) fun I12 =>
  some (.inl ((s2.1 + (1 : Int32)), I12))
  )
  )
  )
  )
  )
  )
  )
  )
  else
  (Option.bind (f_tap_isNext73 (42 : Int32) w5.2) fun w14 =>
  (Option.bind (α := Int32 × MJ)
  (if w14.1 = 0 then
  (Option.bind (f_tap_isNext73 (47 : Int32) w14.2) fun w20 =>
  (if w20.1 = 0 then
  some ((37 : Int32), w20.2)
  else
  some ((47 : Int32), w20.2)
  )
  )
  else
  some ((42 : Int32), w14.2)
  )
  fun b15 =>
  (Option.bind (f_tap_sign58 b15.1 b15.2) fun I16 =>
  (Option.bind (F_mot_readUnit85 rc p2 I16) fun I17 =>
  (Option.bind (α := Int32)
  (if b15.1 = (42 : Int32) then
  some (-11 : Int32)
  else
  (if b15.1 = (47 : Int32) then
  some (-12 : Int32)
  else
  some (-13 : Int32)
  )
  )
  fun b18 =>
  (Option.bind (f_mot_write86 b18 I17) fun I19 =>
  some (.inl ((s2.1 + (1 : Int32)), I19))
  )
  )
  )
  )
  )
  )
  )
  )
  else
  (Option.bind (f_tap_isNext73 (42 : Int32) w4.2) fun w21 =>
  (Option.bind (α := Int32 × MJ)
  (if w21.1 = 0 then
  (Option.bind (f_tap_isNext73 (47 : Int32) w21.2) fun w27 =>
  (if w27.1 = 0 then
  some ((37 : Int32), w27.2)
  else
  some ((47 : Int32), w27.2)
  )
  )
  else
  some ((42 : Int32), w21.2)
  )
  fun b22 =>
  (Option.bind (f_tap_sign58 b22.1 b22.2) fun I23 =>
  (Option.bind (F_mot_readUnit85 rc p2 I23) fun I24 =>
  (Option.bind (α := Int32)
  (if b22.1 = (42 : Int32) then
  some (-11 : Int32)
  else
  (if b22.1 = (47 : Int32) then
  some (-12 : Int32)
  else
  some (-13 : Int32)
  )
  )
  fun b25 =>
  (Option.bind (f_mot_write86 b25 I24) fun I26 =>
  some (.inl ((s2.1 + (1 : Int32)), I26))
  )
  )
  )
  )
  )
  )
  )
  )
  else
  some (.inr s2.2)
  )
  
noncomputable def suC (rc : Int32 → MJ → Option MJ) (p2 : Int32) : Int32 × MJ → Option ((Int32 × MJ) ⊕ MJ) := fun (s2 : Int32 × MJ) =>
  (if s2.1 < (150 : Int32) then
  (Option.bind (f_tap_isNext73 (43 : Int32) s2.2) fun w4 =>
  (if w4.1 = 0 then
  (Option.bind (f_tap_isNext73 (45 : Int32) w4.2) fun w5 =>
  (if w5.1 = 0 then
  some (.inr w5.2)
  else
  (Option.bind (f_tap_isNext73 (43 : Int32) w5.2) fun w6 =>
  (Option.bind (α := Int32)
  (if w6.1 = 0 then
  some (45 : Int32)
  else
  some (43 : Int32)
  )
  fun b7 =>
  (Option.bind (f_tap_sign58 b7 w6.2) fun I8 =>
  (Option.bind (F_mot_readProduct84 rc p2 I8) fun I9 =>
  (Option.bind (α := Int32)
  (if w6.1 = 0 then
  some (-10 : Int32)
  else
  some (-9 : Int32)
  )
  fun b10 =>
  (Option.bind (f_mot_write86 b10 I9) fun I11 =>
  some (.inl ((s2.1 + (1 : Int32)), I11))
  )
  )
  )
  )
  )
  )
  )
  )
  else
  (Option.bind (f_tap_isNext73 (43 : Int32) w4.2) fun w12 =>
  (Option.bind (α := Int32)
  (if w12.1 = 0 then
  some (45 : Int32)
  else
  some (43 : Int32)
  )
  fun b13 =>
  (Option.bind (f_tap_sign58 b13 w12.2) fun I14 =>
  (Option.bind (F_mot_readProduct84 rc p2 I14) fun I15 =>
  (Option.bind (α := Int32)
  (if w12.1 = 0 then
  some (-10 : Int32)
  else
  some (-9 : Int32)
  )
  fun b16 =>
  (Option.bind (f_mot_write86 b16 I15) fun I17 =>
  some (.inl ((s2.1 + (1 : Int32)), I17))
  )
  )
  )
  )
  )
  )
  )
  )
  else
  some (.inr s2.2)
  )
  
noncomputable def prM (rm : MJ → Option MJ) : MJ → Option (MJ ⊕ MJ) := fun (s2 : MJ) =>
  (if (s2 47 5) = 0 then
  (Option.bind (f_m_takesSign298 (42 : Int32) s2) fun w3 =>
  (Option.bind (α := Int32 × MJ)
  (if w3.1 = 0 then
  (Option.bind (f_m_takesSign298 (47 : Int32) w3.2) fun w7 =>
  (if w7.1 = 0 then
  (Option.bind (f_m_takesSign298 (37 : Int32) w7.2) fun w8 =>
  (if w8.1 = 0 then
  some ((-1 : Int32), w8.2)
  else
  some ((6 : Int32), w8.2)
  )
  )
  else
  some ((5 : Int32), w7.2)
  )
  )
  else
  some ((4 : Int32), w3.2)
  )
  fun b4 =>
  (if b4.1 = (-1 : Int32) then
  some (.inr b4.2)
  else
  (Option.bind (F_m_one295 rm b4.2) fun I5 =>
  (Option.bind (f_m_notes296 b4.1 (0 : Int32) I5) fun I6 =>
  some (.inl I6)
  )
  )
  )
  )
  )
  else
  some (.inr s2)
  )
  
noncomputable def suM (rm : MJ → Option MJ) : MJ → Option (MJ ⊕ MJ) := fun (s2 : MJ) =>
  (if (s2 47 5) = 0 then
  (Option.bind (f_m_takesSign298 (43 : Int32) s2) fun w3 =>
  (Option.bind (α := Int32 × MJ)
  (if w3.1 = 0 then
  (Option.bind (f_m_takesSign298 (45 : Int32) w3.2) fun w7 =>
  (if w7.1 = 0 then
  some ((-1 : Int32), w7.2)
  else
  some ((3 : Int32), w7.2)
  )
  )
  else
  some ((2 : Int32), w3.2)
  )
  fun b4 =>
  (if b4.1 = (-1 : Int32) then
  some (.inr b4.2)
  else
  (Option.bind (F_m_product294 rm b4.2) fun I5 =>
  (Option.bind (f_m_notes296 b4.1 (0 : Int32) I5) fun I6 =>
  some (.inl I6)
  )
  )
  )
  )
  )
  else
  some (.inr s2)
  )
  
theorem prC_f {rc : Int32 → MJ → Option MJ} {p2 : Int32} {s : Int32 × MJ} (h : ¬ s.2 1 5 = 0) : prC rc p2 s = some (.inr s.2) := by
  unfold prC
  rw [x_isNext_f h, ob_some, if_pos rfl, x_isNext_f h, ob_some, if_pos rfl, x_isNext_f h, ob_some, if_pos rfl]
  split <;> rfl
theorem suC_f {rc : Int32 → MJ → Option MJ} {p2 : Int32} {s : Int32 × MJ} (h : ¬ s.2 1 5 = 0) : suC rc p2 s = some (.inr s.2) := by
  unfold suC
  rw [x_isNext_f h, ob_some, if_pos rfl, x_isNext_f h, ob_some, if_pos rfl]
  split <;> rfl
theorem prM_f {rm : MJ → Option MJ} {J : MJ} (h : ¬ J 47 5 = 0) : prM rm J = some (.inr J) := by
  unfold prM
  rw [if_neg h]
theorem suM_f {rm : MJ → Option MJ} {J : MJ} (h : ¬ J 47 5 = 0) : suM rm J = some (.inr J) := by
  unfold suM
  rw [if_neg h]
section CHAIN
variable {B : Nat → Nat} {n : Nat}
def UNI (B : Nat → Nat) (n d hb : Nat) (UC UM : MJ → Option MJ) : Prop := ∀ (q c h : Nat) (Jc Jm : MJ), TT B n (some q) Jc Jm → Jm 47 8 = Int32.ofNat d → LL c h Jc Jm → c ≤ q → h ≤ hb → ∃ st Kc Km, UC Jc = some Kc ∧ UM Jm = some Km ∧ TT B n st Kc Km ∧ fcL Jc Kc ∧ fmL Jm Km ∧ ∀ q', st = some q' → q < q' ∧ Km 47 8 = Int32.ofNat d ∧ ∃ c', LL c' (h + 1) Kc Km ∧ c' + q ≤ q' + c
def STP (B : Nat → Nat) (n : Nat) (UC UM : MJ → Option MJ) (SC : Int32 × MJ → Option ((Int32 × MJ) ⊕ MJ)) (SM : MJ → Option (MJ ⊕ MJ)) : Prop := ∀ (i q : Nat) (Jc Jm : MJ), i < 150 → TT B n (some q) Jc Jm → (∃ (J' K' : MJ) (x how : Int32), TT B n (some (sk B n (q + 1))) J' K' ∧ q < n ∧ fr1 Jc J' ∧ fr47 Jm K' ∧ codeR x how 0 ∧ ¬ (how = 0 ∨ how = 1) ∧ (∀ R, (Option.bind (UC J') fun I => Option.bind (f_mot_write86 x I) fun I' => some (.inl (Int32.ofNat (i + 1), I'))) = R → SC (Int32.ofNat i, Jc) = R) ∧ (∀ R, (Option.bind (UM K') fun I5 => Option.bind (f_m_notes296 how 0 I5) fun I6 => some (.inl I6)) = R → SM Jm = R)) ∨ (∃ J' K' : MJ, TT B n (some q) J' K' ∧ fr1 Jc J' ∧ fr47 Jm K' ∧ SC (Int32.ofNat i, Jc) = some (.inr J') ∧ SM Jm = some (.inr K'))
theorem chain_run {d hb : Nat} {UC UM : MJ → Option MJ} {SC : Int32 × MJ → Option ((Int32 × MJ) ⊕ MJ)} {SM : MJ → Option (MJ ⊕ MJ)} (hn : n ≤ 150) (hb5 : hb ≤ 50) (U : UNI B n d hb UC UM) (S : STP B n UC UM SC SM) (fC : ∀ s : Int32 × MJ, ¬ s.2 1 5 = 0 → SC s = some (.inr s.2)) (fM : ∀ J : MJ, ¬ J 47 5 = 0 → SM J = some (.inr J)) : ∀ (f i q c h : Nat) (Jc Jm : MJ), n - q < f → i + 1 ≤ q → TT B n (some q) Jc Jm → Jm 47 8 = Int32.ofNat d → LL c (h + 1) Jc Jm → c ≤ q → h + 1 ≤ hb → ∃ st Kc Km, wh SC (Int32.ofNat i, Jc) = some Kc ∧ wh SM Jm = some Km ∧ TT B n st Kc Km ∧ fcL Jc Kc ∧ fmL Jm Km ∧ ∀ q', st = some q' → q ≤ q' ∧ Km 47 8 = Int32.ofNat d ∧ ∃ c', LL c' (h + 1) Kc Km ∧ c' + q ≤ q' + c
  | 0, i, q, c, h, Jc, Jm, hf, _, _, _, _, _, _ => by omega
  | f + 1, i, q, c, h, Jc, Jm, hf, hi, t, h8, H, hcq, hh => by
    have hqn := (TT_some t).2.2
    rcases S i q Jc Jm (by omega) t with ⟨J1, K1, x, how, a1, a2, a3, a4, a5, a6, a7, a8⟩ | ⟨J1, K1, a1, a2, a3, a4, a5⟩
    · have hsq := sk_le (B := B) (n := n) (p := q + 1) (by omega)
      obtain ⟨st, J2, K2, b1, b2, b3, b4, b5, b6⟩ := U _ c (h + 1) J1 K1 a1 (by rw [a4 _ _ (by omega)]; exact h8) (LL_1 (by omega) H a3 a4) (by omega) hh
      cases st with
      | none =>
        obtain ⟨u1, u2⟩ := TT_none b3
        obtain ⟨J3, w1, w2⟩ := x_write_any (x := x) (J := J2)
        have t3 := TT_wc b3 w2
        have u3 := (TT_none t3).1
        refine ⟨none, J3, K2, (wh_inl (a7 _ (by rw [b1, ob_some, w1, ob_some]))).trans (wh_inr (fC _ u3)), (wh_inl (a8 _ (by rw [b2, ob_some, m_notes_f u2, ob_some]))).trans (wh_inr (fM _ u2)), t3, fun a j z1 z2 z3 => by rw [w2 a j z2 z3, b4 a j z1 z2 z3, a3 a j z1], fun a j z1 z2 => by rw [b5 a j z1 z2, a4 a j (by omega)], fun q' e => by cases e⟩
      | some q2 =>
        obtain ⟨z1, z2, c', z3, z4⟩ := b6 q2 rfl
        have hq2 := (TT_some b3).2.2
        have hL := LL_put (x := x) (how := how) (v := 0) (h' := h + 1) z3 (by omega) a5 (by rw [if_neg a6]; omega) (by omega)
        obtain ⟨st4, J4, K4, r1, r2, r3, r4, r5, r6⟩ := chain_run hn hb5 U S fC fM f (i + 1) q2 (c' + 1) h (wtC c' x J2) (wtM c' how 0 K2) (by omega) (by omega) (wtT b3 (by omega)) (by unfold wtM; rw [up_ne (by omega), up_ne (by omega), up_ne (by omega)]; exact z2) hL (by omega) hh
        refine ⟨st4, J4, K4, (wh_inl (a7 _ (by rw [b1, ob_some, x_write z3.1 (by omega), ob_some]))).trans r1, (wh_inl (a8 _ (by rw [b2, ob_some, m_notes (TT_some b3).2.1 z3.2.1 (by omega), ob_some]))).trans r2, r3, fcL_2 (fcL_2 (fcL_2 (fcL_1 fcL_rf a3) b4) wtC_f) r4, fmL_2 (fmL_2 (fmL_2 (fmL_1 fmL_rf a4) b5) (wtM_f (by omega))) r5, fun q' e => ?_⟩
        obtain ⟨y1, y2, c'', y3, y4⟩ := r6 q' e
        exact ⟨by omega, y2, c'', y3, by omega⟩
    · refine ⟨some q, J1, K1, wh_inr a4, wh_inr a5, a1, fcL_1 fcL_rf a2, fmL_1 fmL_rf a3, fun q' e => ?_⟩
      have := Option.some.inj e
      exact ⟨by omega, by rw [a3 _ _ (by omega)]; exact h8, c, LL_1 (by omega) H a2 a3, by omega⟩
theorem chain_it {d hb : Nat} {UC UM : MJ → Option MJ} {SC : Int32 × MJ → Option ((Int32 × MJ) ⊕ MJ)} {SM : MJ → Option (MJ ⊕ MJ)} (hn : n ≤ 150) (hb5 : hb + 1 ≤ 50) (U : UNI B n d (hb + 1) UC UM) (S : STP B n UC UM SC SM) (fC : ∀ s : Int32 × MJ, ¬ s.2 1 5 = 0 → SC s = some (.inr s.2)) (fM : ∀ J : MJ, ¬ J 47 5 = 0 → SM J = some (.inr J)) : UNI B n d hb (fun J => Option.bind (UC J) fun I1 => wh SC ((0 : Int32), I1)) (fun J => Option.bind (UM J) fun I1 => wh SM I1) := fun q c h Jc Jm t h8 H hcq hh => by
  obtain ⟨st, J1, K1, a1, a2, a3, a4, a5, a6⟩ := U q c h Jc Jm t h8 H hcq (by omega)
  try dsimp only
  rw [a1, a2, ob_some, ob_some]
  cases st with
  | none =>
    obtain ⟨u1, u2⟩ := TT_none a3
    exact ⟨none, J1, K1, wh_inr (fC _ u1), wh_inr (fM _ u2), a3, a4, a5, fun q' e => by cases e⟩
  | some q1 =>
    obtain ⟨z1, z2, c', z3, z4⟩ := a6 q1 rfl
    obtain ⟨st2, J2, K2, b1, b2, b3, b4, b5, b6⟩ := chain_run hn hb5 U S fC fM (n - q1 + 1) 0 q1 c' h J1 K1 (by omega) (by omega) a3 z2 z3 (by omega) (by omega)
    refine ⟨st2, J2, K2, b1, b2, b3, fcL_2 a4 b4, fmL_2 a5 b5, fun q' e => ?_⟩
    obtain ⟨y1, y2, c'', y3, y4⟩ := b6 q' e
    exact ⟨by omega, y2, c'', y3, by omega⟩
/-- a sign that may follow -/
theorem nx {c q : Nat} {J : MJ} (hc : c < 128) (h : cR B n J q) : (q < n ∧ B q = c → ∃ J', f_tap_isNext73 (Int32.ofNat c) J = some (1, J') ∧ cR B n J' q ∧ fr1 J J') ∧ (¬ (q < n ∧ B q = c) → ∃ J', f_tap_isNext73 (Int32.ofNat c) J = some (0, J') ∧ cR B n J' q ∧ fr1 J J') := by
  obtain ⟨J', a1, a2, a3, -⟩ := x_isNext hc h
  constructor
  · intro z
    rw [if_pos z] at a1
    exact ⟨J', a1, a2, a3⟩
  · intro z
    rw [if_neg z] at a1
    exact ⟨J', a1, a2, a3⟩
theorem tk {c q : Nat} {J : MJ} (hc : c < 128) (h : mR B n J q) : (q < n ∧ B q = c → ∃ J', f_m_takesSign298 (Int32.ofNat c) J = some (1, J') ∧ mR B n J' (sk B n (q + 1)) ∧ fr47 J J') ∧ (¬ (q < n ∧ B q = c) → ∃ J', f_m_takesSign298 (Int32.ofNat c) J = some (0, J') ∧ mR B n J' q ∧ fr47 J J') := by
  obtain ⟨J', a1, a2, a3⟩ := m_takesSign hc h
  constructor
  · intro z
    rw [if_pos z] at a1 a3
    exact ⟨J', a1, a3, a2⟩
  · intro z
    rw [if_neg z] at a1 a3
    exact ⟨J', a1, a3, a2⟩
theorem sg {c q : Nat} {J : MJ} (hc : c < 128) (h : cR B n J q) (z : q < n ∧ B q = c) : ∃ J', f_tap_sign58 (Int32.ofNat c) J = some J' ∧ cR B n J' (sk B n (q + 1)) ∧ fr1 J J' := by
  obtain ⟨J', a1, a2, a3⟩ := x_sign hc h
  exact ⟨J', a1, (a3.resolve_right (fun y => y.1 z)).2.2, a2⟩
theorem prod_stp {d : Nat} {rc : Int32 → MJ → Option MJ} {rm : MJ → Option MJ} : STP B n (F_mot_readUnit85 rc (Int32.ofNat d)) (F_m_one295 rm) (prC rc (Int32.ofNat d)) (prM rm) := fun i q Jc Jm hi t => by
  have hc := t.1
  have hm := t.2
  by_cases h42 : q < n ∧ B q = 42
  · refine Or.inl ?_
    obtain ⟨J1, e1, c1, f1⟩ := (nx (c := 42) (by decide) hc).1 h42
    obtain ⟨J2, e2, c2, f2⟩ := (nx (c := 42) (by decide) c1).1 h42
    obtain ⟨Js, es, gs, fs⟩ := sg (c := 42) (by decide) c2 h42
    obtain ⟨K1, m1, n1, l1⟩ := (tk (c := 42) (by decide) hm).1 h42
    refine ⟨Js, K1, -11, 4, ⟨gs, n1⟩, h42.1, fr1_tr (fr1_tr (fr1_tr fr1_rf f1) f2) fs, (fr47_tr fr47_rf l1), by exact Or.inr (Or.inr (Or.inr (Or.inr (Or.inl ⟨rfl, rfl⟩)))), by decide, fun R r => ?_, fun R r => ?_⟩
    · unfold prC
      try dsimp only
      rw [if_pos (show Int32.ofNat i < (150 : Int32) from lt_l (b := 150) hi (by decide))]
      rw [show f_tap_isNext73 42 Jc = _ from e1, ob_some]
      try dsimp only
      rw [if_neg (show ¬ (1 : Int32) = 0 by decide)]
      rw [show f_tap_isNext73 42 J1 = _ from e2, ob_some]
      try dsimp only
      rw [if_neg (show ¬ (1 : Int32) = 0 by decide)]
      try rw [ob_some]
      try dsimp only
      rw [show f_tap_sign58 42 J2 = some Js from es, ob_some, ← r, i_addr]
      rfl
    · unfold prM
      rw [if_pos hm.2.1]
      rw [show f_m_takesSign298 42 Jm = _ from m1, ob_some]
      try dsimp only
      rw [if_neg (show ¬ (1 : Int32) = 0 by decide)]
      rw [ob_some]
      try dsimp only
      rw [if_neg (show ¬ (4 : Int32) = -1 by decide)]
      exact r
  by_cases h47 : q < n ∧ B q = 47
  · refine Or.inl ?_
    obtain ⟨J1, e1, c1, f1⟩ := (nx (c := 42) (by decide) hc).2 h42
    obtain ⟨J2, e2, c2, f2⟩ := (nx (c := 47) (by decide) c1).1 h47
    obtain ⟨J3, e3, c3, f3⟩ := (nx (c := 42) (by decide) c2).2 h42
    obtain ⟨J4, e4, c4, f4⟩ := (nx (c := 47) (by decide) c3).1 h47
    obtain ⟨Js, es, gs, fs⟩ := sg (c := 47) (by decide) c4 h47
    obtain ⟨K1, m1, n1, l1⟩ := (tk (c := 42) (by decide) hm).2 h42
    obtain ⟨K2, m2, n2, l2⟩ := (tk (c := 47) (by decide) n1).1 h47
    refine ⟨Js, K2, -12, 5, ⟨gs, n2⟩, h47.1, fr1_tr (fr1_tr (fr1_tr (fr1_tr (fr1_tr fr1_rf f1) f2) f3) f4) fs, (fr47_tr (fr47_tr fr47_rf l1) l2), by exact Or.inr (Or.inr (Or.inr (Or.inr (Or.inr (Or.inl ⟨rfl, rfl⟩))))), by decide, fun R r => ?_, fun R r => ?_⟩
    · unfold prC
      try dsimp only
      rw [if_pos (show Int32.ofNat i < (150 : Int32) from lt_l (b := 150) hi (by decide))]
      rw [show f_tap_isNext73 42 Jc = _ from e1, ob_some]
      try dsimp only
      rw [if_pos rfl]
      rw [show f_tap_isNext73 47 J1 = _ from e2, ob_some]
      try dsimp only
      rw [if_neg (show ¬ (1 : Int32) = 0 by decide)]
      rw [show f_tap_isNext73 42 J2 = _ from e3, ob_some]
      try dsimp only
      rw [if_pos rfl]
      rw [show f_tap_isNext73 47 J3 = _ from e4, ob_some]
      try dsimp only
      rw [if_neg (show ¬ (1 : Int32) = 0 by decide)]
      try rw [ob_some]
      try dsimp only
      rw [show f_tap_sign58 47 J4 = some Js from es, ob_some, ← r, i_addr]
      rfl
    · unfold prM
      rw [if_pos hm.2.1]
      rw [show f_m_takesSign298 42 Jm = _ from m1, ob_some]
      try dsimp only
      rw [if_pos rfl]
      rw [show f_m_takesSign298 47 K1 = _ from m2, ob_some]
      try dsimp only
      rw [if_neg (show ¬ (1 : Int32) = 0 by decide)]
      rw [ob_some]
      try dsimp only
      rw [if_neg (show ¬ (5 : Int32) = -1 by decide)]
      exact r
  by_cases h37 : q < n ∧ B q = 37
  · refine Or.inl ?_
    obtain ⟨J1, e1, c1, f1⟩ := (nx (c := 42) (by decide) hc).2 h42
    obtain ⟨J2, e2, c2, f2⟩ := (nx (c := 47) (by decide) c1).2 h47
    obtain ⟨J3, e3, c3, f3⟩ := (nx (c := 37) (by decide) c2).1 h37
    obtain ⟨J4, e4, c4, f4⟩ := (nx (c := 42) (by decide) c3).2 h42
    obtain ⟨J5, e5, c5, f5⟩ := (nx (c := 47) (by decide) c4).2 h47
    obtain ⟨Js, es, gs, fs⟩ := sg (c := 37) (by decide) c5 h37
    obtain ⟨K1, m1, n1, l1⟩ := (tk (c := 42) (by decide) hm).2 h42
    obtain ⟨K2, m2, n2, l2⟩ := (tk (c := 47) (by decide) n1).2 h47
    obtain ⟨K3, m3, n3, l3⟩ := (tk (c := 37) (by decide) n2).1 h37
    refine ⟨Js, K3, -13, 6, ⟨gs, n3⟩, h37.1, fr1_tr (fr1_tr (fr1_tr (fr1_tr (fr1_tr (fr1_tr fr1_rf f1) f2) f3) f4) f5) fs, (fr47_tr (fr47_tr (fr47_tr fr47_rf l1) l2) l3), by exact Or.inr (Or.inr (Or.inr (Or.inr (Or.inr (Or.inr (Or.inl ⟨rfl, rfl⟩)))))), by decide, fun R r => ?_, fun R r => ?_⟩
    · unfold prC
      try dsimp only
      rw [if_pos (show Int32.ofNat i < (150 : Int32) from lt_l (b := 150) hi (by decide))]
      rw [show f_tap_isNext73 42 Jc = _ from e1, ob_some]
      try dsimp only
      rw [if_pos rfl]
      rw [show f_tap_isNext73 47 J1 = _ from e2, ob_some]
      try dsimp only
      rw [if_pos rfl]
      rw [show f_tap_isNext73 37 J2 = _ from e3, ob_some]
      try dsimp only
      rw [if_neg (show ¬ (1 : Int32) = 0 by decide)]
      rw [show f_tap_isNext73 42 J3 = _ from e4, ob_some]
      try dsimp only
      rw [if_pos rfl]
      rw [show f_tap_isNext73 47 J4 = _ from e5, ob_some]
      try dsimp only
      rw [if_pos rfl]
      try rw [ob_some]
      try dsimp only
      rw [show f_tap_sign58 37 J5 = some Js from es, ob_some, ← r, i_addr]
      rfl
    · unfold prM
      rw [if_pos hm.2.1]
      rw [show f_m_takesSign298 42 Jm = _ from m1, ob_some]
      try dsimp only
      rw [if_pos rfl]
      rw [show f_m_takesSign298 47 K1 = _ from m2, ob_some]
      try dsimp only
      rw [if_pos rfl]
      rw [show f_m_takesSign298 37 K2 = _ from m3, ob_some]
      try dsimp only
      rw [if_neg (show ¬ (1 : Int32) = 0 by decide)]
      rw [ob_some]
      try dsimp only
      rw [if_neg (show ¬ (6 : Int32) = -1 by decide)]
      exact r
  · refine Or.inr ?_
    obtain ⟨J1, e1, c1, f1⟩ := (nx (c := 42) (by decide) hc).2 h42
    obtain ⟨K1, m1, n1, l1⟩ := (tk (c := 42) (by decide) hm).2 h42
    obtain ⟨J2, e2, c2, f2⟩ := (nx (c := 47) (by decide) c1).2 h47
    obtain ⟨K2, m2, n2, l2⟩ := (tk (c := 47) (by decide) n1).2 h47
    obtain ⟨J3, e3, c3, f3⟩ := (nx (c := 37) (by decide) c2).2 h37
    obtain ⟨K3, m3, n3, l3⟩ := (tk (c := 37) (by decide) n2).2 h37
    refine ⟨J3, K3, ⟨c3, n3⟩, (fr1_tr (fr1_tr (fr1_tr fr1_rf f1) f2) f3), (fr47_tr (fr47_tr (fr47_tr fr47_rf l1) l2) l3), ?_, ?_⟩
    · unfold prC
      try dsimp only
      rw [if_pos (show Int32.ofNat i < (150 : Int32) from lt_l (b := 150) hi (by decide))]
      rw [show f_tap_isNext73 42 Jc = _ from e1, ob_some]
      try dsimp only
      rw [if_pos rfl]
      rw [show f_tap_isNext73 47 J1 = _ from e2, ob_some]
      try dsimp only
      rw [if_pos rfl]
      rw [show f_tap_isNext73 37 J2 = _ from e3, ob_some]
      try dsimp only
      rw [if_pos rfl]
    · unfold prM
      rw [if_pos hm.2.1]
      rw [show f_m_takesSign298 42 Jm = _ from m1, ob_some]
      try dsimp only
      rw [if_pos rfl]
      rw [show f_m_takesSign298 47 K1 = _ from m2, ob_some]
      try dsimp only
      rw [if_pos rfl]
      rw [show f_m_takesSign298 37 K2 = _ from m3, ob_some]
      try dsimp only
      rw [if_pos rfl]
      rw [ob_some]
      try dsimp only
      rw [if_pos rfl]
theorem sum_stp {d : Nat} {rc : Int32 → MJ → Option MJ} {rm : MJ → Option MJ} : STP B n (F_mot_readProduct84 rc (Int32.ofNat d)) (F_m_product294 rm) (suC rc (Int32.ofNat d)) (suM rm) := fun i q Jc Jm hi t => by
  have hc := t.1
  have hm := t.2
  by_cases h43 : q < n ∧ B q = 43
  · refine Or.inl ?_
    obtain ⟨J1, e1, c1, f1⟩ := (nx (c := 43) (by decide) hc).1 h43
    obtain ⟨J2, e2, c2, f2⟩ := (nx (c := 43) (by decide) c1).1 h43
    obtain ⟨Js, es, gs, fs⟩ := sg (c := 43) (by decide) c2 h43
    obtain ⟨K1, m1, n1, l1⟩ := (tk (c := 43) (by decide) hm).1 h43
    refine ⟨Js, K1, -9, 2, ⟨gs, n1⟩, h43.1, fr1_tr (fr1_tr (fr1_tr fr1_rf f1) f2) fs, (fr47_tr fr47_rf l1), by exact Or.inr (Or.inr (Or.inl ⟨rfl, rfl⟩)), by decide, fun R r => ?_, fun R r => ?_⟩
    · unfold suC
      try dsimp only
      rw [if_pos (show Int32.ofNat i < (150 : Int32) from lt_l (b := 150) hi (by decide))]
      rw [show f_tap_isNext73 43 Jc = _ from e1, ob_some]
      try dsimp only
      rw [if_neg (show ¬ (1 : Int32) = 0 by decide)]
      rw [show f_tap_isNext73 43 J1 = _ from e2, ob_some]
      try dsimp only
      rw [if_neg (show ¬ (1 : Int32) = 0 by decide)]
      try rw [ob_some]
      try dsimp only
      rw [show f_tap_sign58 43 J2 = some Js from es, ob_some, ← r, i_addr]
      rfl
    · unfold suM
      rw [if_pos hm.2.1]
      rw [show f_m_takesSign298 43 Jm = _ from m1, ob_some]
      try dsimp only
      rw [if_neg (show ¬ (1 : Int32) = 0 by decide)]
      rw [ob_some]
      try dsimp only
      rw [if_neg (show ¬ (2 : Int32) = -1 by decide)]
      exact r
  by_cases h45 : q < n ∧ B q = 45
  · refine Or.inl ?_
    obtain ⟨J1, e1, c1, f1⟩ := (nx (c := 43) (by decide) hc).2 h43
    obtain ⟨J2, e2, c2, f2⟩ := (nx (c := 45) (by decide) c1).1 h45
    obtain ⟨J3, e3, c3, f3⟩ := (nx (c := 43) (by decide) c2).2 h43
    obtain ⟨Js, es, gs, fs⟩ := sg (c := 45) (by decide) c3 h45
    obtain ⟨K1, m1, n1, l1⟩ := (tk (c := 43) (by decide) hm).2 h43
    obtain ⟨K2, m2, n2, l2⟩ := (tk (c := 45) (by decide) n1).1 h45
    refine ⟨Js, K2, -10, 3, ⟨gs, n2⟩, h45.1, fr1_tr (fr1_tr (fr1_tr (fr1_tr fr1_rf f1) f2) f3) fs, (fr47_tr (fr47_tr fr47_rf l1) l2), by exact Or.inr (Or.inr (Or.inr (Or.inl ⟨rfl, rfl⟩))), by decide, fun R r => ?_, fun R r => ?_⟩
    · unfold suC
      try dsimp only
      rw [if_pos (show Int32.ofNat i < (150 : Int32) from lt_l (b := 150) hi (by decide))]
      rw [show f_tap_isNext73 43 Jc = _ from e1, ob_some]
      try dsimp only
      rw [if_pos rfl]
      rw [show f_tap_isNext73 45 J1 = _ from e2, ob_some]
      try dsimp only
      rw [if_neg (show ¬ (1 : Int32) = 0 by decide)]
      rw [show f_tap_isNext73 43 J2 = _ from e3, ob_some]
      try dsimp only
      rw [if_pos rfl]
      try rw [ob_some]
      try dsimp only
      rw [show f_tap_sign58 45 J3 = some Js from es, ob_some, ← r, i_addr]
      rfl
    · unfold suM
      rw [if_pos hm.2.1]
      rw [show f_m_takesSign298 43 Jm = _ from m1, ob_some]
      try dsimp only
      rw [if_pos rfl]
      rw [show f_m_takesSign298 45 K1 = _ from m2, ob_some]
      try dsimp only
      rw [if_neg (show ¬ (1 : Int32) = 0 by decide)]
      rw [ob_some]
      try dsimp only
      rw [if_neg (show ¬ (3 : Int32) = -1 by decide)]
      exact r
  · refine Or.inr ?_
    obtain ⟨J1, e1, c1, f1⟩ := (nx (c := 43) (by decide) hc).2 h43
    obtain ⟨K1, m1, n1, l1⟩ := (tk (c := 43) (by decide) hm).2 h43
    obtain ⟨J2, e2, c2, f2⟩ := (nx (c := 45) (by decide) c1).2 h45
    obtain ⟨K2, m2, n2, l2⟩ := (tk (c := 45) (by decide) n1).2 h45
    refine ⟨J2, K2, ⟨c2, n2⟩, (fr1_tr (fr1_tr fr1_rf f1) f2), (fr47_tr (fr47_tr fr47_rf l1) l2), ?_, ?_⟩
    · unfold suC
      try dsimp only
      rw [if_pos (show Int32.ofNat i < (150 : Int32) from lt_l (b := 150) hi (by decide))]
      rw [show f_tap_isNext73 43 Jc = _ from e1, ob_some]
      try dsimp only
      rw [if_pos rfl]
      rw [show f_tap_isNext73 45 J1 = _ from e2, ob_some]
      try dsimp only
      rw [if_pos rfl]
    · unfold suM
      rw [if_pos hm.2.1]
      rw [show f_m_takesSign298 43 Jm = _ from m1, ob_some]
      try dsimp only
      rw [if_pos rfl]
      rw [show f_m_takesSign298 45 K1 = _ from m2, ob_some]
      try dsimp only
      rw [if_pos rfl]
      rw [ob_some]
      try dsimp only
      rw [if_pos rfl]
theorem prod_it {d : Nat} {rc : Int32 → MJ → Option MJ} {rm : MJ → Option MJ} (hd : d ≤ 6) (hn : n ≤ 150) (HC : d < 6 → HCl B n rc rm d) : UNI B n d (3 * d + 1) (F_mot_readProduct84 rc (Int32.ofNat d)) (F_m_product294 rm) := fun q c h Jc Jm t h8 H hcq hh => by
  obtain ⟨st, Kc, Km, a1, a2, a3⟩ := chain_it hn (by omega) (fun q c h Jc Jm t h8 H hcq hh => unit_it hd hn HC t h8 H hcq hh) prod_stp (fun s h => prC_f h) (fun J h => prM_f h) q c h Jc Jm t h8 H hcq hh
  refine ⟨st, Kc, Km, ?_, ?_, a3⟩
  · refine Eq.trans ?_ a1
    show F_mot_readProduct84 rc (Int32.ofNat d) Jc = Option.bind (F_mot_readUnit85 rc (Int32.ofNat d) Jc) fun I1 => wh (prC rc (Int32.ofNat d)) ((0 : Int32), I1)
    unfold F_mot_readProduct84
    cases F_mot_readUnit85 rc (Int32.ofNat d) Jc with
    | none => rfl
    | some I1 => exact b_some
  · exact a2
theorem sum_it {d : Nat} {rc : Int32 → MJ → Option MJ} {rm : MJ → Option MJ} (hd : d ≤ 6) (hn : n ≤ 150) (HC : d < 6 → HCl B n rc rm d) : UNI B n d (3 * d) (F_mot_readSum83 rc (Int32.ofNat d)) (F_m_sum293 rm) := fun q c h Jc Jm t h8 H hcq hh => by
  obtain ⟨st, Kc, Km, a1, a2, a3⟩ := chain_it hn (by omega) (prod_it hd hn HC) sum_stp (fun s h => suC_f h) (fun J h => suM_f h) q c h Jc Jm t h8 H hcq hh
  refine ⟨st, Kc, Km, ?_, ?_, a3⟩
  · refine Eq.trans ?_ a1
    show F_mot_readSum83 rc (Int32.ofNat d) Jc = Option.bind (F_mot_readProduct84 rc (Int32.ofNat d) Jc) fun I1 => wh (suC rc (Int32.ofNat d)) ((0 : Int32), I1)
    unfold F_mot_readSum83
    cases F_mot_readProduct84 rc (Int32.ofNat d) Jc with
    | none => rfl
    | some I1 => exact b_some
  · exact a2
theorem HCl_all (hn : n ≤ 150) : ∀ (k d : Nat), d < 6 → 6 ≤ k + d → HCl B n (f_mot_readSum83 k) (f_m_sum293 k) d
  | 0, d, h1, h2 => by omega
  | k + 1, d, h1, h2 => ⟨fun J h => by
      show F_m_sum293 (f_m_sum293 k) J = some J
      unfold F_m_sum293
      have e1 : F_m_one295 (f_m_sum293 k) J = some J := by
        unfold F_m_one295
        rw [if_neg h]
      have e2 : F_m_product294 (f_m_sum293 k) J = some J := by
        unfold F_m_product294
        rw [e1, ob_some]
        exact wh_inr (prM_f h)
      rw [e2, ob_some]
      exact wh_inr (suM_f h), fun q c h Jc Jm t h8 H hcq hh => sum_it (rc := f_mot_readSum83 k) (rm := f_m_sum293 k) (by omega) hn (fun z => HCl_all hn k (d + 1) z (by omega)) q c h Jc Jm t h8 H hcq hh⟩
end CHAIN
