/-! pattern: the loops of parts -/
noncomputable def ptC (rc : Int32 → MJ → Option MJ) (p2 : Int32) : Int32 × MJ → Option ((Int32 × MJ) ⊕ MJ) := fun (s2 : Int32 × MJ) =>
  (if (100 : Int32) < s2.1 then
  some (.inr s2.2)
  else
  (Option.bind (f_tap_hasMore42 s2.2) fun w4 =>
  (if w4.1 = 0 then
  some (.inr w4.2)
  else
  (if 0 < p2 then
  (Option.bind (f_tap_isNext73 (93 : Int32) w4.2) fun w5 =>
  (if w5.1 = 0 then
  (Option.bind (f_tap_isNumberNext74 w5.2) fun w6 =>
  (Option.bind (α := MJ)
  (if w6.1 = 0 then
  (Option.bind (F_pat_readAgain77 rc p2 w6.2) fun I9 =>
  some I9
  )
  else
  (Option.bind (f_pat_readHours75 p2 w6.2) fun I10 =>
  some I10
  )
  )
  fun b7 =>
  (Option.bind (f_tap_sign58 (59 : Int32) b7) fun I8 =>
  some (.inl ((s2.1 + (1 : Int32)), I8))
  )
  )
  )
  else
  some (.inr w5.2)
  )
  )
  else
  (Option.bind (f_tap_isNumberNext74 w4.2) fun w11 =>
  (Option.bind (α := MJ)
  (if w11.1 = 0 then
  (Option.bind (F_pat_readAgain77 rc p2 w11.2) fun I14 =>
  some I14
  )
  else
  (Option.bind (f_pat_readHours75 p2 w11.2) fun I15 =>
  some I15
  )
  )
  fun b12 =>
  (Option.bind (f_tap_sign58 (59 : Int32) b12) fun I13 =>
  some (.inl ((s2.1 + (1 : Int32)), I13))
  )
  )
  )
  )
  )
  )
  )
theorem ptB_k {γ : Type} {rc : Int32 → MJ → Option MJ} {p2 : Int32} {J : MJ} {k : MJ → Option γ} : (Option.bind (f_tap_isNumberNext74 J) fun w6 => Option.bind (α := MJ) (if w6.1 = 0 then (Option.bind (F_pat_readAgain77 rc p2 w6.2) fun I9 => some I9) else (Option.bind (f_pat_readHours75 p2 w6.2) fun I10 => some I10)) fun b7 => Option.bind (f_tap_sign58 (59 : Int32) b7) k) = Option.bind (ptB rc p2 J) k := by
  unfold ptB
  cases f_tap_isNumberNext74 J with
  | none => rfl
  | some w =>
    rw [ob_some, ob_some]
    generalize (if w.1 = 0 then (Option.bind (F_pat_readAgain77 rc p2 w.2) fun I9 => some I9) else (Option.bind (f_pat_readHours75 p2 w.2) fun I10 => some I10)) = X
    cases X <;> rfl
theorem ptC_f {rc : Int32 → MJ → Option MJ} {p2 : Int32} {s : Int32 × MJ} (h : ¬ s.2 1 5 = 0) : ptC rc p2 s = some (.inr s.2) := by
  unfold ptC
  rw [x_more_f h, ob_some, if_pos rfl]
  split <;> rfl
noncomputable def tpM (rm : Int32 → MJ → Option MJ) : MJ → Option (MJ ⊕ MJ) := fun (s8 : MJ) =>
  (if (s8 47 5) = 0 then
  (if (s8 47 4) < (s8 47 2) then
  (Option.bind (rm (0 : Int32) s8) fun I21 =>
  (Option.bind (f_m_blanks270 I21) fun I22 =>
  some (.inl I22)
  )
  )
  else
  some (.inr s8)
  )
  else
  some (.inr s8)
  )
theorem tpM_f {rm : Int32 → MJ → Option MJ} {J : MJ} (h : ¬ J 47 5 = 0) : tpM rm J = some (.inr J) := by
  unfold tpM
  rw [if_neg h]
section LOOPS
variable {B : Nat → Nat} {n : Nat}
theorem end_no_word {q : Nat} (hq : ¬ q < n) : ¬ w_again = wdW B n q := fun h => by
  have e : wdE B n q = q := scn_no (fun z => hq z.1)
  unfold wdW at h
  rw [e, Nat.sub_self] at h
  cases h
theorem loop_in {d : Nat} {rc rm : Int32 → MJ → Option MJ} (hd : d < 6) (hn : n ≤ 100) (HC : d + 1 < 6 → HCp B n rc rm (d + 1)) : ∀ (f i q : Nat) (Jc Jm : MJ), n - q < f → i ≤ q → TT B n (some q) Jc Jm → Jm 47 4 = Int32.ofNat q → Jm 47 8 = Int32.ofNat (d + 1) → pD (d + 1) Jc Jm → ∃ st Kc Km, (Option.bind (wh (ptC rc (Int32.ofNat (d + 1))) (Int32.ofNat i, Jc)) fun I6 => f_tap_sign58 (93 : Int32) I6) = some Kc ∧ (Option.bind (wh (nlM (F_m_part289 rm) (Int32.ofNat (d + 1))) Jm) fun b24 => f_m_sign285 (93 : Int32) b24) = some Km ∧ TT B n st Kc Km ∧ fcP Jc Kc ∧ fmP Jm Km ∧ ∀ q', st = some q' → q < q' ∧ pD (d + 1) Kc Km ∧ Km 47 8 = Int32.ofNat (d + 1)
  | 0, i, q, Jc, Jm, hf, _, _, _, _, _ => by omega
  | f + 1, i, q, Jc, Jm, hf, hi, h, h4, h8, hp => by
    have hqn := (TT_some h).2.2
    obtain ⟨J1, x1, x2, x3, -⟩ := x_more h.1
    have hbt := m_byteAt (k := q) h.2.1 (by omega)
    by_cases hq : q < n
    · rw [if_pos hq] at x1
      obtain ⟨J2, n1, n2, n3, -⟩ := x_isNext (c := 93) (by decide) x2
      have hC : ∀ R, (if (if q < n ∧ B q = 93 then (1 : Int32) else 0) = 0 then (Option.bind (ptB rc (Int32.ofNat (d + 1)) J2) fun I8 => some (Sum.inl (β := MJ) (Int32.ofNat (i + 1), I8))) else some (.inr J2)) = R → ptC rc (Int32.ofNat (d + 1)) (Int32.ofNat i, Jc) = R := fun R hh => by
        unfold ptC
        try dsimp only
        rw [if_neg (show ¬ (100 : Int32) < Int32.ofNat i from nlt_l (a := 100) (by omega) (by decide) (by omega)), x1, ob_some, if_neg (show ¬ (1 : Int32) = 0 by decide), if_pos (show (0 : Int32) < Int32.ofNat (d + 1) from lt_l (a := 0) (by omega) (by omega))]
        try dsimp only
        rw [show f_tap_isNext73 93 J1 = _ from n1, ob_some, ptB_k, i_addr]
        exact hh
      by_cases h93 : B q = 93
      · have e1 : ptC rc (Int32.ofNat (d + 1)) (Int32.ofNat i, Jc) = some (.inr J2) := hC _ (by rw [show (if q < n ∧ B q = 93 then (1 : Int32) else 0) = 1 from if_pos ⟨hq, h93⟩, if_neg (show ¬ (1 : Int32) = 0 by decide)])
        have e2 : nlM (F_m_part289 rm) (Int32.ofNat (d + 1)) Jm = some (.inr Jm) := by
          unfold nlM
          rw [if_pos (TT_some h).2.1, h4, hbt, ob_some, if_pos (show byt B n q = (93 : Int32) from (byt_eq (c := 93) (fun z => (h.2.1.2.2 q z).1) (by decide)).mpr ⟨hq, h93⟩)]
        have t : TT B n (some q) J2 Jm := ⟨n2, h.2⟩
        obtain ⟨st, Kc, Km, a1, a2, a3, a4, a5, a6⟩ := tt_sign (c := 93) (by decide) t
        refine ⟨st, Kc, Km, ?_, ?_, a3, fcP_1 (fcP_1 (fcP_1 fcP_rf x3) n3) a4, fmP_1 fmP_rf a5, fun q' e => ?_⟩
        · rw [wh_inr e1, ob_some]; exact a1
        · rw [wh_inr e2, ob_some]; exact a2
        · obtain ⟨q0, z1, z2⟩ := a6 q' e
          have := Option.some.inj z1
          exact ⟨by omega, pD_c hp (fun k => by rw [a4 _ _ (by omega), n3 _ _ (by omega), x3 _ _ (by omega)]) (fun k => by rw [a4 _ _ (by omega), n3 _ _ (by omega), x3 _ _ (by omega)]) (fun a k z1 z2 => a5 _ _ (by omega)) (by omega), by rw [a5 _ _ (by omega)]; exact h8⟩
      · have t : TT B n (some q) J2 Jm := ⟨n2, h.2⟩
        have hp2 : pD (d + 1) J2 Jm := pD_c hp (fun k => by rw [n3 _ _ (by omega), x3 _ _ (by omega)]) (fun k => by rw [n3 _ _ (by omega), x3 _ _ (by omega)]) (fun a k z1 z2 => rfl) (by omega)
        obtain ⟨st, Kc, Km, a1, a2, a3, a4, a5, a6⟩ := part_it (by omega) HC t h8 hp2
        obtain ⟨Km', b1, b2, b3, b4⟩ := tt_blanks a3
        have e1 : ptC rc (Int32.ofNat (d + 1)) (Int32.ofNat i, Jc) = some (.inl (Int32.ofNat (i + 1), Kc)) := hC _ (by rw [show (if q < n ∧ B q = 93 then (1 : Int32) else 0) = 0 from if_neg (fun z => h93 z.2), if_pos rfl, a1, ob_some])
        have e2 : nlM (F_m_part289 rm) (Int32.ofNat (d + 1)) Jm = some (.inl Km') := by
          unfold nlM
          rw [if_pos (TT_some h).2.1, h4, hbt, ob_some, if_neg (show ¬ byt B n q = (93 : Int32) from fun z => h93 ((byt_eq (c := 93) (fun z => (h.2.1.2.2 q z).1) (by decide)).mp z).2), a2, ob_some, b1, ob_some]
        have fc : fcP Jc Kc := fcP_2 (fcP_1 (fcP_1 fcP_rf x3) n3) a4
        have fm : fmP Jm Km' := fmP_1 a5 b3
        cases st with
        | none =>
          obtain ⟨c1, c2⟩ := TT_none b2
          refine ⟨none, Kc, Km', ?_, ?_, b2, fc, fm, fun q' e => by cases e⟩
          · rw [wh_inl e1, wh_inr (ptC_f c1), ob_some, x_sign_f c1]
          · rw [wh_inl e2, wh_inr (nlM_f c2), ob_some, m_sign_f c2]
        | some q' =>
          obtain ⟨z1, z2, z3⟩ := a6 q' rfl
          obtain ⟨st2, Kc2, Km2, r1, r2, r3, r4, r5, r6⟩ := loop_in hd hn HC f (i + 1) q' Kc Km' (by omega) (by omega) b2 (b4 q' rfl) (by rw [b3 _ _ (by omega)]; exact z3) (pD_c z2 (fun _ => rfl) (fun _ => rfl) (fun a k _ _ => b3 _ _ (by omega)) (by omega))
          refine ⟨st2, Kc2, Km2, ?_, ?_, r3, fcP_2 fc r4, fmP_2 fm r5, fun q'' e => ?_⟩
          · rw [wh_inl e1]; exact r1
          · rw [wh_inl e2]; exact r2
          · obtain ⟨y1, y2⟩ := r6 q'' e
            exact ⟨by omega, y2⟩
    · rw [if_neg hq] at x1
      have e1 : ptC rc (Int32.ofNat (d + 1)) (Int32.ofNat i, Jc) = some (.inr J1) := by
        unfold ptC
        try dsimp only
        rw [if_neg (show ¬ (100 : Int32) < Int32.ofNat i from nlt_l (a := 100) (by omega) (by decide) (by omega)), x1, ob_some, if_pos rfl]
      obtain ⟨Km, k1, k2, k3⟩ := part_bad (d := d + 1) (rm := rm) (by omega) h.2 (fun z => hq z.1) (end_no_word hq)
      obtain ⟨Km', b1, b2, b3⟩ := mX_blanks k2
      have e2 : nlM (F_m_part289 rm) (Int32.ofNat (d + 1)) Jm = some (.inl Km') := by
        unfold nlM
        rw [if_pos (TT_some h).2.1, h4, hbt, ob_some, if_neg (show ¬ byt B n q = (93 : Int32) from fun z => hq ((byt_eq (c := 93) (fun z => (h.2.1.2.2 q z).1) (by decide)).mp z).1), k1, ob_some, b1, ob_some]
      obtain ⟨J3, s1, s2, s3⟩ := x_sign (c := 93) (by decide) x2
      replace s3 := (s3.resolve_left (fun z => hq z.1)).2
      refine ⟨none, J3, Km', ?_, ?_, ⟨1, q, s3, b2⟩, fcP_1 (fcP_1 fcP_rf x3) s2, fmP_1 (fmP_1 fmP_rf k3) b3, fun q' e => by cases e⟩
      · rw [wh_inr e1, ob_some]; exact s1
      · rw [wh_inl e2, wh_inr (nlM_f (mX_ne b2)), ob_some, m_sign_f (mX_ne b2)]
theorem HC_all (hn : n ≤ 100) : ∀ (k d : Nat), d < 6 → 6 ≤ k + d → HCp B n (f_pat_readParts72 k) (f_m_part289 k) d
  | 0, d, h1, h2 => by omega
  | k + 1, d, h1, h2 => fun q Jc Jm t h4 h8 h144 hp => by
    have hp1 : pD (d + 1) (ab_up1 Jc 22 (d + 1) 0) Jm := fun e he => by
      by_cases z : e = d + 1
      · subst z
        exact ⟨0, by omega, up_eq, h144, fun i hi => absurd hi (Nat.not_lt_zero i)⟩
      · obtain ⟨l, g1, g2, g3, g4⟩ := hp e (by omega)
        exact ⟨l, g1, by rw [up_ne (by omega)]; exact g2, g3, fun i hi => by
          obtain ⟨v, w1, w2, w3⟩ := g4 i hi
          exact ⟨v, w1, by rw [up_ne (by omega)]; exact w2, w3⟩⟩
    obtain ⟨st, Kc, Km, r1, r2, r3, r4, r5, r6⟩ := loop_in (rc := f_pat_readParts72 k) (rm := f_m_part289 k) h1 hn (fun h => HC_all hn k (d + 1) h (by omega)) (n - q + 1) 0 q (ab_up1 Jc 22 (d + 1) 0) Jm (by omega) (by omega) (TT_cu t (by decide) (by decide)) h4 h8 hp1
    refine ⟨st, Kc, Km, ?_, r2, r3, fcP_2 (fun a j z1 z2 z3 => up_ne (by omega)) r4, r5, r6⟩
    show (Option.bind (F_pat_readParts72 (f_pat_readParts72 k) (Int32.ofNat (d + 1)) Jc) fun I6 => f_tap_sign58 (93 : Int32) I6) = some Kc
    unfold F_pat_readParts72
    rw [put_22 (by omega), ob_some, b_some]
    exact r1
theorem top_run {rc rm : Int32 → MJ → Option MJ} (hn : n ≤ 100) (HC : HCp B n rc rm 0) : ∀ (f i q : Nat) (Jc Jm : MJ), n - q < f → i ≤ q → TT B n (some q) Jc Jm → Jm 47 4 = Int32.ofNat q → Jm 47 8 = Int32.ofNat 0 → pD 0 Jc Jm → ∃ st Kc Km, wh (ptC rc (Int32.ofNat 0)) (Int32.ofNat i, Jc) = some Kc ∧ wh (tpM (F_m_part289 rm)) Jm = some Km ∧ TT B n st Kc Km ∧ fcP Jc Kc ∧ fmP Jm Km ∧ ∀ q', st = some q' → pD 0 Kc Km
  | 0, i, q, Jc, Jm, hf, _, _, _, _, _ => by omega
  | f + 1, i, q, Jc, Jm, hf, hi, h, h4, h8, hp => by
    have hqn := (TT_some h).2.2
    obtain ⟨J1, x1, x2, x3, -⟩ := x_more h.1
    by_cases hq : q < n
    · rw [if_pos hq] at x1
      have t : TT B n (some q) J1 Jm := ⟨x2, h.2⟩
      have hp2 : pD 0 J1 Jm := pD_c hp (fun k => by rw [x3 _ _ (by omega)]) (fun k => by rw [x3 _ _ (by omega)]) (fun a k z1 z2 => rfl) (by omega)
      obtain ⟨st, Kc, Km, a1, a2, a3, a4, a5, a6⟩ := part_it (d := 0) (by omega) (fun _ => HC) t h8 hp2
      obtain ⟨Km', b1, b2, b3, b4⟩ := tt_blanks a3
      have e1 : ptC rc (Int32.ofNat 0) (Int32.ofNat i, Jc) = some (.inl (Int32.ofNat (i + 1), Kc)) := by
        unfold ptC
        try dsimp only
        rw [if_neg (show ¬ (100 : Int32) < Int32.ofNat i from nlt_l (a := 100) (by omega) (by decide) (by omega)), x1, ob_some, if_neg (show ¬ (1 : Int32) = 0 by decide), if_neg (show ¬ (0 : Int32) < Int32.ofNat 0 by decide)]
        try dsimp only
        rw [ptB_k, a1, ob_some, i_addr]
      have e2 : tpM (F_m_part289 rm) Jm = some (.inl Km') := by
        unfold tpM
        rw [if_pos (TT_some h).2.1, if_pos (by rw [h4, h.2.1.2.1]; exact lt_l hq (by omega)), show F_m_part289 rm (0 : Int32) Jm = some Km from a2, ob_some, b1, ob_some]
      have fc : fcP Jc Kc := fcP_2 (fcP_1 fcP_rf x3) a4
      have fm : fmP Jm Km' := fmP_1 a5 b3
      cases st with
      | none =>
        obtain ⟨c1, c2⟩ := TT_none b2
        exact ⟨none, Kc, Km', (wh_inl e1).trans (wh_inr (ptC_f c1)), (wh_inl e2).trans (wh_inr (tpM_f c2)), b2, fc, fm, fun q' e => by cases e⟩
      | some q' =>
        obtain ⟨z1, z2, z3⟩ := a6 q' rfl
        obtain ⟨st2, Kc2, Km2, r1, r2, r3, r4, r5, r6⟩ := top_run hn HC f (i + 1) q' Kc Km' (by omega) (by omega) b2 (b4 q' rfl) (by rw [b3 _ _ (by omega)]; exact z3) (pD_c z2 (fun _ => rfl) (fun _ => rfl) (fun a k _ _ => b3 _ _ (by omega)) (by omega))
        exact ⟨st2, Kc2, Km2, (wh_inl e1).trans r1, (wh_inl e2).trans r2, r3, fcP_2 fc r4, fmP_2 fm r5, r6⟩
    · rw [if_neg hq] at x1
      refine ⟨some q, J1, Jm, wh_inr ?_, wh_inr ?_, ⟨x2, h.2⟩, fcP_1 fcP_rf x3, fmP_rf, fun q' e => pD_c hp (fun k => by rw [x3 _ _ (by omega)]) (fun k => by rw [x3 _ _ (by omega)]) (fun a k z1 z2 => rfl) (by omega)⟩
      · unfold ptC
        try dsimp only
        rw [if_neg (show ¬ (100 : Int32) < Int32.ofNat i from nlt_l (a := 100) (by omega) (by decide) (by omega)), x1, ob_some, if_pos rfl]
      · unfold tpM
        rw [if_pos (TT_some h).2.1, if_neg (by rw [h4, h.2.1.2.1]; exact nlt_l hq (by omega) (by omega))]
end LOOPS
