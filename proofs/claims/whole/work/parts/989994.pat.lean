/-! pattern: the lists of hours of both, level by level -/
def pD (d : Nat) (Jc Jm : MJ) : Prop := ∀ e, e ≤ d → ∃ l, l ≤ 12 ∧ Jc 22 e = Int32.ofNat l ∧ Jm 144 e = Int32.ofNat l ∧ ∀ i, i < l → ∃ v, v < 6 ∧ Jc 21 (e * 12 + i) = Int32.ofNat v ∧ Jm (137 + e) i = Int32.ofNat v
def fcP (I J : MJ) : Prop := ∀ a k, ¬ (a = 1 ∧ (k = 2 ∨ k = 4 ∨ k = 5 ∨ k = 6)) → a ≠ 21 → a ≠ 22 → J a k = I a k
def fmP (I J : MJ) : Prop := ∀ a k, ¬ (a = 47 ∧ (k = 4 ∨ k = 5 ∨ k = 6 ∨ k = 8)) → ¬ (137 ≤ a ∧ a ≤ 144) → J a k = I a k
theorem fcP_rf {I : MJ} : fcP I I := fun _ _ _ _ _ => rfl
theorem fmP_rf {I : MJ} : fmP I I := fun _ _ _ _ => rfl
theorem fcP_1 {I J K : MJ} (h : fcP I J) (f : fr1 J K) : fcP I K := fun a k h1 h2 h3 => (f a k h1).trans (h a k h1 h2 h3)
theorem fmP_1 {I J K : MJ} (h : fmP I J) (f : fr47 J K) : fmP I K := fun a k h1 h2 => (f a k (by omega)).trans (h a k h1 h2)
theorem fcP_2 {I J K : MJ} (h : fcP I J) (f : fcP J K) : fcP I K := fun a k h1 h2 h3 => (f a k h1 h2 h3).trans (h a k h1 h2 h3)
theorem fmP_2 {I J K : MJ} (h : fmP I J) (f : fmP J K) : fmP I K := fun a k h1 h2 => (f a k h1 h2).trans (h a k h1 h2)
theorem pD_c {d : Nat} {Jc Jm Kc Km : MJ} (h : pD d Jc Jm) (h1 : ∀ k, Kc 22 k = Jc 22 k) (h2 : ∀ k, Kc 21 k = Jc 21 k) (h3 : ∀ a k, 137 ≤ a → a ≤ 144 → Km a k = Jm a k) (hd : d ≤ 6) : pD d Kc Km := fun e he => by
  obtain ⟨l, g1, g2, g3, g4⟩ := h e he
  refine ⟨l, g1, (h1 e).trans g2, (h3 _ _ (by omega) (by omega)).trans g3, fun i hi => ?_⟩
  obtain ⟨v, w1, w2, w3⟩ := g4 i hi
  exact ⟨v, w1, (h2 _).trans w2, (h3 _ _ (by omega) (by omega)).trans w3⟩
theorem pD_le {d e : Nat} {Jc Jm : MJ} (h : pD d Jc Jm) (he : e ≤ d) : pD e Jc Jm := fun i hi => h i (by omega)
theorem pD_len {d l : Nat} {Jc Jm : MJ} (h : pD d Jc Jm) (hl : l ≤ 12) (e : Jc 22 d = Int32.ofNat l) : Jm 144 d = Int32.ofNat l := by
  obtain ⟨l', g1, g2, g3, -⟩ := h d (Nat.le_refl d)
  have : l' = l := (i_eq (by omega) (by omega)).mp (g2.symm.trans e)
  rw [← this]; exact g3
/-- an hour more on one level -/
noncomputable def adC (d l v : Nat) (J : MJ) : MJ := ab_up1 (ab_up1 J 21 (d * 12 + l) (Int32.ofNat v)) 22 d (Int32.ofNat (l + 1))
noncomputable def adM (d l v : Nat) (J : MJ) : MJ := ab_up1 (ab_up1 J (137 + d) l (Int32.ofNat v)) 144 d (Int32.ofNat (l + 1))
theorem pD_add {D d l v : Nat} {Jc Jm : MJ} (h : pD D Jc Jm) (hd : d ≤ D) (h6 : D ≤ 6) (e : Jc 22 d = Int32.ofNat l) (hl : l < 12) (hv : v < 6) : pD D (adC d l v Jc) (adM d l v Jm) := fun e' he => by
  obtain ⟨l', g1, g2, g3, g4⟩ := h e' he
  by_cases z : e' = d
  · subst z
    have hll : l' = l := (i_eq (by omega) (by omega)).mp (g2.symm.trans e)
    subst hll
    refine ⟨l' + 1, by omega, up_eq, up_eq, fun i hi => ?_⟩
    unfold adC adM
    by_cases y : i = l'
    · subst y
      exact ⟨v, hv, by rw [up_ne (by omega), up_eq], by rw [up_ne (by omega), up_eq]⟩
    · obtain ⟨w, w1, w2, w3⟩ := g4 i (by omega)
      exact ⟨w, w1, by rw [up_ne (by omega), up_ne (by omega)]; exact w2, by rw [up_ne (by omega), up_ne (by omega)]; exact w3⟩
  · unfold adC adM
    refine ⟨l', g1, by rw [up_ne (by omega), up_ne (by omega)]; exact g2, by rw [up_ne (by omega), up_ne (by omega)]; exact g3, fun i hi => ?_⟩
    obtain ⟨w, w1, w2, w3⟩ := g4 i hi
    exact ⟨w, w1, by rw [up_ne (by omega), up_ne (by omega)]; exact w2, by rw [up_ne (by omega), up_ne (by omega)]; exact w3⟩
theorem adC_f {d l v : Nat} {J : MJ} : fcP J (adC d l v J) := fun a k h1 h2 h3 => by
  unfold adC
  rw [up_ne (by omega), up_ne (by omega)]
theorem adM_f {d l v : Nat} {J : MJ} (hd : d ≤ 6) : fmP J (adM d l v J) := fun a k h1 h2 => by
  unfold adM
  rw [up_ne (by omega), up_ne (by omega)]
theorem adT {B : Nat → Nat} {n d l v : Nat} {st : Option Nat} {Jc Jm : MJ} (h : TT B n st Jc Jm) (hd : d ≤ 6) : TT B n st (adC d l v Jc) (adM d l v Jm) := by
  unfold adC adM
  exact TT_mu (TT_mu (TT_cu (TT_cu h (by decide) (by decide)) (by decide) (by decide)) (by omega) (by omega)) (by omega) (by omega)
theorem x_addHour {d l v : Nat} {J : MJ} (hd : d ≤ 6) (e : J 22 d = Int32.ofNat l) (hl : l < 12) : f_pat_addHour76 (Int32.ofNat d) (Int32.ofNat v) J = some (adC d l v J) := by
  unfold f_pat_addHour76 adC
  rw [at_22 (by omega), ob_some, e, if_pos (show Int32.ofNat l < (12 : Int32) from lt_l (b := 12) hl (by decide)), show Int32.ofNat d * (12 : Int32) = Int32.ofNat (d * 12) from i_mulr, i_add, put_21 (by omega), ob_some, i_addr, put_22 (by omega), ob_some, ob_some]
/-! hours of one kind -/
noncomputable def hoC (d v x : Int32) : Int32 × MJ → Option ((Int32 × MJ) ⊕ MJ) := fun (s5 : Int32 × MJ) =>
  (if s5.1 < v then
  (Option.bind (f_tap_isSound59 s5.2) fun v7 =>
  (if v7 = 0 then
  some (.inr s5.2)
  else
  (Option.bind (f_pat_addHour76 d x s5.2) fun I8 =>
  some (.inl ((s5.1 + (1 : Int32)), I8))
  )
  )
  )
  else
  some (.inr s5.2)
  )
noncomputable def hoM (d v x : Int32) : Int32 × MJ → Option ((Int32 × MJ) ⊕ MJ) := fun (s6 : Int32 × MJ) =>
  (if s6.1 < v then
  (if (s6.2 47 5) = 0 then
  (Option.bind (rdp 136 d) fun r9 =>
  (Option.bind (rd s6.2 144 d) fun v10 =>
  (Option.bind (wr s6.2 r9 v10 x) fun I11 =>
  (Option.bind (rd I11 144 d) fun v12 =>
  (Option.bind (wr I11 144 d (v12 + (1 : Int32))) fun I13 =>
  some (.inl ((s6.1 + (1 : Int32)), I13))
  )
  )
  )
  )
  )
  else
  some (.inr s6.2)
  )
  else
  some (.inr s6.2)
  )
section PAT
variable {B : Nat → Nat} {n : Nat}
theorem m_addHour {β : Type} {d l v : Nat} {J : MJ} {R : MJ → Option β} (hd : d ≤ 6) (e : J 144 d = Int32.ofNat l) (hl : l < 12) : (Option.bind (rdp 136 (Int32.ofNat d)) fun r9 => (Option.bind (rd J 144 (Int32.ofNat d)) fun v10 => (Option.bind (wr J r9 v10 (Int32.ofNat v)) fun I11 => (Option.bind (rd I11 144 (Int32.ofNat d)) fun v12 => (Option.bind (wr I11 144 (Int32.ofNat d) (v12 + (1 : Int32))) R))))) = R (adM d l v J) := by
  rw [rdp_136 (by omega), ob_some, rd_144 (by omega), ob_some, e, wrr_136 (by omega) hl, ob_some, rd_144 (by omega), ob_some, up_ne (by omega), e, i_addr, wr_144 (by omega), ob_some]
  rfl
theorem hoC_f {d v x : Int32} {s : Int32 × MJ} (h : ¬ s.2 1 5 = 0) : hoC d v x s = some (.inr s.2) := by
  unfold hoC
  rw [x_sound, if_neg h, ob_some, if_pos rfl]
  split <;> rfl
theorem hoM_f {d v x : Int32} {s : Int32 × MJ} (h : ¬ s.2 47 5 = 0) : hoM d v x s = some (.inr s.2) := by
  unfold hoM
  rw [if_neg h]
  split <;> rfl
theorem hours_run {d q v x : Nat} (hd : d ≤ 6) (hv : v ≤ 12) (hx : x < 6) : ∀ (m i l : Nat) (Jc Jm : MJ), i + m = v → Jc 22 d = Int32.ofNat l → l + m ≤ 12 → pD d Jc Jm → TT B n (some q) Jc Jm → ∃ Kc Km, wh (hoC (Int32.ofNat d) (Int32.ofNat v) (Int32.ofNat x)) (Int32.ofNat i, Jc) = some Kc ∧ wh (hoM (Int32.ofNat d) (Int32.ofNat v) (Int32.ofNat x)) (Int32.ofNat i, Jm) = some Km ∧ TT B n (some q) Kc Km ∧ pD d Kc Km ∧ fcP Jc Kc ∧ fmP Jm Km ∧ Km 47 8 = Jm 47 8
  | 0, i, l, Jc, Jm, hi, e, hl, hp, ht => by
    refine ⟨Jc, Jm, wh_inr ?_, wh_inr ?_, ht, hp, fcP_rf, fmP_rf, rfl⟩
    · unfold hoC
      try dsimp only
      rw [if_neg (nlt_l (by omega) (by omega) (by omega))]
    · unfold hoM
      try dsimp only
      rw [if_neg (nlt_l (by omega) (by omega) (by omega))]
  | m + 1, i, l, Jc, Jm, hi, e, hl, hp, ht => by
    have h1 : hoC (Int32.ofNat d) (Int32.ofNat v) (Int32.ofNat x) (Int32.ofNat i, Jc) = some (.inl (Int32.ofNat (i + 1), adC d l x Jc)) := by
      unfold hoC
      try dsimp only
      rw [if_pos (lt_l (by omega) (by omega)), x_sound, if_pos (TT_some ht).1, ob_some, if_neg (by decide), x_addHour hd e (by omega), ob_some, i_addr]
    have h2 : hoM (Int32.ofNat d) (Int32.ofNat v) (Int32.ofNat x) (Int32.ofNat i, Jm) = some (.inl (Int32.ofNat (i + 1), adM d l x Jm)) := by
      unfold hoM
      try dsimp only
      rw [if_pos (lt_l (by omega) (by omega)), if_pos (TT_some ht).2.1]
      refine (m_addHour hd (pD_len hp (by omega) e) (by omega)).trans ?_
      try dsimp only
      rw [i_addr]
    obtain ⟨Kc, Km, r1, r2, r3, r4, r5, r6, r7⟩ := hours_run hd hv hx m (i + 1) (l + 1) (adC d l x Jc) (adM d l x Jm) (by omega) up_eq (by omega) (pD_add hp (Nat.le_refl d) hd e (by omega) hx) (adT ht hd)
    exact ⟨Kc, Km, (wh_inl h1).trans r1, (wh_inl h2).trans r2, r3, r4, fcP_2 adC_f r5, fmP_2 (adM_f hd) r6, by rw [r7]; unfold adM; rw [up_ne (by omega), up_ne (by omega)]⟩
/-- what is left of hours behind their number, with the sign at their end -/
noncomputable def hrC (d v : Int32) (J : MJ) : Option MJ := Option.bind (Option.bind (f_x_at16 22 d J) fun v2 => Option.bind (α := MJ) (if (12 : Int32) < (v2 + v) then (Option.bind (f_tap_fail50 (4 : Int32) (J 1 4) J) fun I9 => some I9) else some J) fun b3 => Option.bind (f_tap_word45 2000002 b3) fun w4 => Option.bind (wh (hoC d v w4.1) ((0 : Int32), w4.2)) fun b6 => some b6) fun b7 => f_tap_sign58 (59 : Int32) b7
noncomputable def hrM (d v x : Int32) (J : MJ) : Option MJ := Option.bind (α := MJ) (if (J 47 5) = 0 then (Option.bind (rd J 144 d) fun v15 => (if (12 : Int32) < (v15 + v) then (Option.bind (f_m_wrong278 (4 : Int32) x J) fun I16 => some I16) else some J)) else some J) fun b4 => Option.bind (α := Int32 × MJ) (if (b4 47 5) = 0 then (Option.bind (f_m_skyHere281 b4) fun w14 => some (w14.1, w14.2)) else some ((0 : Int32), b4)) fun b5 => Option.bind (wh (hoM d v b5.1) ((0 : Int32), b5.2)) fun b7 => Option.bind (f_m_sign285 (59 : Int32) b7) fun I8 => some I8
theorem hrC_f {d : Nat} {v : Int32} {J : MJ} (hd : d ≤ 6) (h : ¬ J 1 5 = 0) : hrC (Int32.ofNat d) v J = some J := by
  unfold hrC
  rw [at_22 (by omega), ob_some, x_fail_f h, ob_some]
  have e : (if (12 : Int32) < (J 22 d + v) then some J else some J) = some J := by split <;> rfl
  rw [e, ob_some, x_word_f h, ob_some]
  try dsimp only
  rw [wh_inr (hoC_f h), ob_some, ob_some, x_sign_f h]
theorem hrM_f {d v x : Int32} {J : MJ} (h : ¬ J 47 5 = 0) : hrM d v x J = some J := by
  unfold hrM
  rw [if_neg h, ob_some, if_neg h, ob_some]
  try dsimp only
  rw [wh_inr (hoM_f h), ob_some, m_sign_f h, ob_some]
theorem hours_tail {d v q q1 : Nat} {Jc Jm : MJ} (hd : d ≤ 6) (hv : v ≤ 12) (h : TT B n (some q1) Jc Jm) (hq : Jc 1 4 = Int32.ofNat q) (hp : pD d Jc Jm) : ∃ st Kc Km, hrC (Int32.ofNat d) (Int32.ofNat v) Jc = some Kc ∧ hrM (Int32.ofNat d) (Int32.ofNat v) (Int32.ofNat q) Jm = some Km ∧ TT B n st Kc Km ∧ fcP Jc Kc ∧ fmP Jm Km ∧ Km 47 8 = Jm 47 8 ∧ ∀ q', st = some q' → q1 < q' ∧ pD d Kc Km := by
  obtain ⟨l, l1, l2, l3, -⟩ := hp d (Nat.le_refl d)
  unfold hrC hrM
  rw [at_22 (by omega), ob_some, l2, i_add, if_pos (TT_some h).2.1, rd_144 (by omega), ob_some, l3, i_add, hq]
  by_cases hlv : 12 < l + v
  · obtain ⟨J2, K2, a1, a2, a3, a4, a5⟩ := tt_fail (k := 4) (w := q) (by omega) h
    obtain ⟨b1, b2⟩ := TT_none a3
    rw [if_pos (show (12 : Int32) < Int32.ofNat (l + v) from lt_l (a := 12) hlv (by omega)), if_pos (show (12 : Int32) < Int32.ofNat (l + v) from lt_l (a := 12) hlv (by omega)), show f_tap_fail50 4 (Int32.ofNat q) Jc = some J2 from a1, show f_m_wrong278 4 (Int32.ofNat q) Jm = some K2 from a2, ob_some, ob_some, ob_some, ob_some, x_word_f b1, ob_some, if_neg b2, ob_some]
    try dsimp only
    rw [wh_inr (hoC_f b1), wh_inr (hoM_f b2), ob_some, ob_some, ob_some, x_sign_f b1, m_sign_f b2, ob_some]
    exact ⟨none, J2, K2, rfl, rfl, a3, fcP_1 fcP_rf a4, fmP_1 fmP_rf a5, a5 _ _ (by omega), fun q' e => by cases e⟩
  · rw [if_neg (show ¬ (12 : Int32) < Int32.ofNat (l + v) from nlt_l (a := 12) hlv (by decide) (by omega)), if_neg (show ¬ (12 : Int32) < Int32.ofNat (l + v) from nlt_l (a := 12) hlv (by decide) (by omega)), ob_some, ob_some, if_pos (TT_some h).2.1]
    obtain ⟨st, vc, vm, J2, K2, a1, a2, a3, a4, a5, a6⟩ := tt_sky xw_2 h
    rw [a1, a2, ob_some, ob_some, ob_some]
    try dsimp only
    cases st with
    | none =>
      obtain ⟨b1, b2⟩ := TT_none a3
      rw [wh_inr (hoC_f b1), wh_inr (hoM_f b2), ob_some, ob_some, ob_some, x_sign_f b1, m_sign_f b2, ob_some]
      exact ⟨none, J2, K2, rfl, rfl, a3, fcP_1 fcP_rf a4, fmP_1 fmP_rf a5, a5 _ _ (by omega), fun q' e => by cases e⟩
    | some q2 =>
      obtain ⟨q1', x, c1, c2, rfl, rfl, c3⟩ := a6 q2 rfl
      have := Option.some.inj c1
      obtain ⟨Kc, Km, r1, r2, r3, r4, r5, r6, r7⟩ := hours_run (B := B) (n := n) (q := q2) hd hv c3 v 0 l J2 K2 (by omega) ((a4 _ _ (by omega)).trans l2) (by omega) (pD_c hp (fun k => a4 _ _ (by omega)) (fun k => a4 _ _ (by omega)) (fun a k h1 h2 => a5 _ _ (by omega)) hd) a3
      rw [show ((0 : Int32), J2) = (Int32.ofNat 0, J2) from rfl, show ((0 : Int32), K2) = (Int32.ofNat 0, K2) from rfl, r1, r2, ob_some, ob_some, ob_some]
      obtain ⟨st3, J3, K3, e1, e2, e3, e4, e5, e6⟩ := tt_sign (c := 59) (by decide) r3
      rw [show f_tap_sign58 59 Kc = some J3 from e1, show f_m_sign285 59 Km = some K3 from e2, ob_some]
      refine ⟨st3, J3, K3, rfl, rfl, e3, fcP_1 (fcP_2 (fcP_1 fcP_rf a4) r5) e4, fmP_1 (fmP_2 (fmP_1 fmP_rf a5) r6) e5, by rw [e5 _ _ (by omega), r7, a5 _ _ (by omega)], fun q' e => ?_⟩
      obtain ⟨q0, g1, g2⟩ := e6 q' e
      have := Option.some.inj g1
      exact ⟨by omega, pD_c r4 (fun k => e4 _ _ (by omega)) (fun k => e4 _ _ (by omega)) (fun a k h1 h2 => e5 _ _ (by omega)) hd⟩
end PAT
