/-! work: the loop of the top -/
noncomputable def wpM (rm : MJ → Option MJ) : MJ → Option (MJ ⊕ MJ) := fun (s5 : MJ) =>
  (if (s5 47 5) = 0 then
  (if (s5 47 4) < (s5 47 2) then
  (Option.bind (rm s5) fun I11 =>
  (Option.bind (f_m_blanks270 I11) fun I12 =>
  some (.inl I12)
  )
  )
  else
  some (.inr s5)
  )
  else
  some (.inr s5)
  )
theorem wpM_f {rm : MJ → Option MJ} {J : MJ} (h : ¬ J 47 5 = 0) : wpM rm J = some (.inr J) := by
  unfold wpM
  rw [if_neg h]
section WTOP
variable {B : Nat → Nat} {n : Nat}
theorem wtop_run {n1 n3 : Nat} {rc : Int32 → MJ → Option MJ} {rm : MJ → Option MJ} (hn : n ≤ 200) (h1 : n1 < 1000) (h3 : n3 < 1000) (HC : HCw B n n1 n3 rc rm 0) : ∀ (f i q c : Nat) (Jc Jm : MJ), n - q < f → i ≤ q → TT B n (some q) Jc Jm → Jm 47 4 = Int32.ofNat q → Jm 47 8 = Int32.ofNat 0 → Jc 29 1 = Int32.ofNat c → Jm 47 34 = Int32.ofNat c → 4 * c ≤ q → shN n1 n3 Jc Jm → ∃ st Kc Km, wh (swC rc (Int32.ofNat 0)) (Int32.ofNat i, Jc) = some Kc ∧ wh (wpM (F_m_readsStep300 rm)) Jm = some Km ∧ TT B n st Kc Km ∧ fcV c Jc Kc ∧ fmV c Jm Km ∧ ∀ q', st = some q' → ∃ c', 4 * c' ≤ q' ∧ q' ≤ n ∧ stN n1 n3 0 c c' Kc Km
  | 0, i, q, c, Jc, Jm, hf, _, _, _, _, _, _, _, _ => by omega
  | f + 1, i, q, c, Jc, Jm, hf, hi, h, h4, h8, c29, m34, h4c, hS => by
    have hqn := (TT_some h).2.2
    obtain ⟨J1, x1, x2, x3, -⟩ := x_more h.1
    by_cases hq : q < n
    · rw [if_pos hq] at x1
      have t : TT B n (some q) J1 Jm := ⟨x2, h.2⟩
      obtain ⟨st, Kc, Km, a1, a2, a3, a4, a5, a6⟩ := step_it (d := 0) hn h1 h3 (by omega) (fun _ => HC) t h8 (by rw [x3 _ _ (by omega)]; exact c29) m34 h4c (shN_c (c := c) (c' := c) hS (fcV_1 fcV_rf x3) fmV_rf)
      obtain ⟨Km', b1, b2, b3, b4⟩ := tt_blanks a3
      have e1 : swC rc (Int32.ofNat 0) (Int32.ofNat i, Jc) = some (.inl (Int32.ofNat (i + 1), Kc)) := by
        unfold swC
        try dsimp only
        rw [if_neg (show ¬ (200 : Int32) < Int32.ofNat i from nlt_l (a := 200) (by omega) (by decide) (by omega)), x1, ob_some, if_neg (show ¬ (1 : Int32) = 0 by decide), if_neg (show ¬ (0 : Int32) < Int32.ofNat 0 by decide), b_assoc, a1, ob_some, i_addr]
      have e2 : wpM (F_m_readsStep300 rm) Jm = some (.inl Km') := by
        unfold wpM
        rw [if_pos (TT_some h).2.1, if_pos (by rw [h4, h.2.1.2.1]; exact lt_l hq (by omega)), a2, ob_some, b1, ob_some]
      have fc : fcV c Jc Kc := fcV_2 (fcV_1 fcV_rf x3) a4 (Nat.le_refl c)
      have fm : fmV c Jm Km' := fmV_1 a5 b3
      cases st with
      | none =>
        obtain ⟨c1, c2⟩ := TT_none b2
        exact ⟨none, Kc, Km', (wh_inl e1).trans (wh_inr (swC_f c1)), (wh_inl e2).trans (wh_inr (wpM_f c2)), b2, fc, fm, fun q' e => by cases e⟩
      | some q' =>
        obtain ⟨z1, z2, c', z3, z4⟩ := a6 q' rfl
        have z4' := stN_1 z4 (fun _ _ _ _ => rfl) b3
        have hq'n := (TT_some b2).2.2
        obtain ⟨st2, Kc2, Km2, r1, r2, r3, r4, r5, r6⟩ := wtop_run hn h1 h3 HC f (i + 1) q' c' Kc Km' (by omega) (by omega) b2 (b4 q' rfl) (by rw [b3 _ _ (by omega)]; exact z2) z4'.2.1 z4'.2.2.1 z3 (shN_c hS fc fm)
        refine ⟨st2, Kc2, Km2, (wh_inl e1).trans r1, (wh_inl e2).trans r2, r3, fcV_2 fc r4 z4.1, fmV_2 fm r5 z4.1, fun q'' e => ?_⟩
        obtain ⟨c'', y3, y5, y4⟩ := r6 q'' e
        exact ⟨c'', y3, y5, stN_tr (by omega) z4' y4 r4 r5⟩
    · rw [if_neg hq] at x1
      refine ⟨some q, J1, Jm, wh_inr ?_, wh_inr ?_, ⟨x2, h.2⟩, fcV_1 fcV_rf x3, fmV_rf, fun q' e => ?_⟩
      · unfold swC
        try dsimp only
        rw [if_neg (show ¬ (200 : Int32) < Int32.ofNat i from nlt_l (a := 200) (by omega) (by decide) (by omega)), x1, ob_some, if_pos rfl]
      · unfold wpM
        rw [if_pos (TT_some h).2.1, if_neg (by rw [h4, h.2.1.2.1]; exact nlt_l hq (by omega) (by omega))]
      · have := Option.some.inj e
        exact ⟨c, by omega, by omega, stN_0 (by rw [x3 _ _ (by omega)]; exact c29) m34⟩
end WTOP
