/-! pattern: a list again -/
theorem rmd_facts : ∀ L : Nat, L < 13 → ∀ t : Nat, t < 145 → L ≠ 0 → Int32.ofNat t - Int32.ofNat t / Int32.ofNat L * Int32.ofNat L = Int32.ofNat (t % L) := by decide +kernel
theorem rmd_row {L r s : Nat} (hL : L ≤ 12) (hs : s < L) (ht : r * L + s < 145) : rmd (Int32.ofNat (r * L + s)) (Int32.ofNat L) = some (Int32.ofNat s) := by
  unfold rmd
  rw [if_neg (show ¬ Int32.ofNat L = (0 : Int32) from neq_l (b := 0) (by omega) (by omega) (by decide)), rmd_facts L (by omega) _ ht (by omega), Nat.mul_comm r L, Nat.mul_add_mod, Nat.mod_eq_of_lt hs]
noncomputable def agC (d v3 v8 : Int32) : Int32 × MJ → Option ((Int32 × MJ) ⊕ MJ) := fun (s11 : Int32 × MJ) =>
  (if s11.1 < (v3 * v8) then
  (Option.bind (f_tap_isSound59 s11.2) fun v13 =>
  (if v13 = 0 then
  some (.inr s11.2)
  else
  (Option.bind (α := Int32)
  (if 0 < v8 then
  (Option.bind (rmd s11.1 v8) fun v17 =>
  some v17
  )
  else
  some (0 : Int32)
  )
  fun b14 =>
  (Option.bind (f_x_at16 21 (((d + (1 : Int32)) * (12 : Int32)) + b14) s11.2) fun v15 =>
  (Option.bind (f_pat_addHour76 d v15 s11.2) fun I16 =>
  some (.inl ((s11.1 + (1 : Int32)), I16))
  )
  )
  )
  )
  )
  else
  some (.inr s11.2)
  )
noncomputable def agI (p1 : Int32) : Int32 × MJ → Option ((Int32 × MJ) ⊕ MJ) := fun (s30 : Int32 × MJ) =>
  (Option.bind (rd s30.2 144 (p1 + (1 : Int32))) fun v32 =>
  (if s30.1 < v32 then
  (Option.bind (rdp 136 p1) fun r33 =>
  (Option.bind (rd s30.2 144 p1) fun v34 =>
  (Option.bind (rdp 136 (p1 + (1 : Int32))) fun r35 =>
  (Option.bind (rd s30.2 r35 s30.1) fun v36 =>
  (Option.bind (wr s30.2 r33 v34 v36) fun I37 =>
  (Option.bind (rd I37 144 p1) fun v38 =>
  (Option.bind (wr I37 144 p1 (v38 + (1 : Int32))) fun I39 =>
  some (.inl ((s30.1 + (1 : Int32)), I39))
  )
  )
  )
  )
  )
  )
  )
  else
  some (.inr s30.2)
  )
  )
noncomputable def agM (p1 v3 : Int32) : Int32 × MJ → Option ((Int32 × MJ) ⊕ MJ) := fun (s27 : Int32 × MJ) =>
  (if s27.1 < v3 then
  (if (s27.2 47 5) = 0 then
  (Option.bind (wh (agI p1) ((0 : Int32), s27.2)) fun b31 =>
  some (.inl ((s27.1 + (1 : Int32)), b31))
  )
  else
  some (.inr s27.2)
  )
  else
  some (.inr s27.2)
  )
theorem agC_f {d v3 v8 : Int32} {s : Int32 × MJ} (h : ¬ s.2 1 5 = 0) : agC d v3 v8 s = some (.inr s.2) := by
  unfold agC
  rw [x_sound, if_neg h, ob_some, if_pos rfl]
  split <;> rfl
theorem agM_f {d v3 : Int32} {s : Int32 × MJ} (h : ¬ s.2 47 5 = 0) : agM d v3 s = some (.inr s.2) := by
  unfold agM
  rw [if_neg h]
  split <;> rfl
section AGAIN
variable {B : Nat → Nat} {n : Nat}
theorem again_row {d q T L r : Nat} (hd : d < 6) (hT : T ≤ 12) (hL : L ≤ 12) (hr : r < T) : ∀ (m s l : Nat) (Jc Jm : MJ), s + m = L → Jc 22 d = Int32.ofNat l → l + m ≤ 12 → Jc 22 (d + 1) = Int32.ofNat L → pD (d + 1) Jc Jm → TT B n (some q) Jc Jm → ∃ Kc Km, (∀ R, wh (agC (Int32.ofNat d) (Int32.ofNat T) (Int32.ofNat L)) (Int32.ofNat (r * L + L), Kc) = R → wh (agC (Int32.ofNat d) (Int32.ofNat T) (Int32.ofNat L)) (Int32.ofNat (r * L + s), Jc) = R) ∧ wh (agI (Int32.ofNat d)) (Int32.ofNat s, Jm) = some Km ∧ TT B n (some q) Kc Km ∧ pD (d + 1) Kc Km ∧ fcP Jc Kc ∧ fmP Jm Km ∧ Km 47 8 = Jm 47 8 ∧ Kc 22 d = Int32.ofNat (l + m) ∧ Kc 22 (d + 1) = Int32.ofNat L
  | 0, s, l, Jc, Jm, hs, e, hl, e1, hp, ht => by
    have hsL : s = L := by omega
    subst hsL
    refine ⟨Jc, Jm, fun R h => h, wh_inr ?_, ht, hp, fcP_rf, fmP_rf, rfl, e, e1⟩
    unfold agI
    try dsimp only
    rw [i_addr, rd_144 (by omega), ob_some, pD_len hp hL e1, if_neg (nlt_l (Nat.lt_irrefl _) (by omega) (by omega))]
  | m + 1, s, l, Jc, Jm, hs, e, hl, e1, hp, ht => by
    have hTL : T * L ≤ 144 := Nat.mul_le_mul hT hL
    have hrL : r * L + L ≤ T * L := by
      have := Nat.mul_le_mul_right L hr
      rw [Nat.succ_mul] at this
      exact this
    obtain ⟨L', g1, g2, g3, g4⟩ := hp (d + 1) (Nat.le_refl _)
    have hLL : L' = L := (i_eq (by omega) (by omega)).mp (g2.symm.trans e1)
    subst hLL
    obtain ⟨x, w1, w2, w3⟩ := g4 s (by omega)
    have e144 : Jm 144 d = Int32.ofNat l := pD_len (pD_le hp (by omega)) (by omega) e
    have h1 : agC (Int32.ofNat d) (Int32.ofNat T) (Int32.ofNat L') (Int32.ofNat (r * L' + s), Jc) = some (.inl (Int32.ofNat (r * L' + (s + 1)), adC d l x Jc)) := by
      unfold agC
      try dsimp only
      rw [i_mul, if_pos (lt_l (by omega) (by omega)), x_sound, if_pos (TT_some ht).1, ob_some, if_neg (by decide), if_pos (show (0 : Int32) < Int32.ofNat L' from lt_l (a := 0) (by omega) (by omega)), rmd_row hL (by omega) (by omega), ob_some, ob_some, show Int32.ofNat d + (1 : Int32) = Int32.ofNat (d + 1) from i_addr, show Int32.ofNat (d + 1) * (12 : Int32) = Int32.ofNat ((d + 1) * 12) from i_mulr, i_add, at_21 (by omega), ob_some, w2, x_addHour (by omega) e (by omega), ob_some, i_addr]
      rfl
    have h2 : agI (Int32.ofNat d) (Int32.ofNat s, Jm) = some (.inl (Int32.ofNat (s + 1), adM d l x Jm)) := by
      unfold agI
      try dsimp only
      rw [show Int32.ofNat d + (1 : Int32) = Int32.ofNat (d + 1) from i_addr, rd_144 (by omega), ob_some, g3, if_pos (lt_l (by omega) (by omega)), rdp_136 (by omega), ob_some, rd_144 (by omega), ob_some, e144, rdp_136 (by omega), ob_some, rdr_136 (by omega) (by omega), ob_some, w3, wrr_136 (by omega) (by omega), ob_some, rd_144 (by omega), ob_some, up_ne (by omega), e144, i_addr, wr_144 (by omega), ob_some]
      rw [i_addr]
      rfl
    obtain ⟨Kc, Km, r1, r2, r3, r4, r5, r6, r7, r8, r9⟩ := again_row (r := r) hd hT hL hr m (s + 1) (l + 1) (adC d l x Jc) (adM d l x Jm) (by omega) up_eq (by omega) (by unfold adC; rw [up_ne (by omega), up_ne (by omega)]; exact e1) (pD_add hp (by omega) (by omega) e (by omega) w1) (adT ht (by omega))
    exact ⟨Kc, Km, fun R h => (wh_inl h1).trans (r1 R h), (wh_inl h2).trans r2, r3, r4, fcP_2 adC_f r5, fmP_2 (adM_f (by omega)) r6, by rw [r7]; unfold adM; rw [up_ne (by omega), up_ne (by omega)], by rw [r8]; congr 1; omega, r9⟩
theorem again_rows {d q T L : Nat} (hd : d < 6) (hT : T ≤ 12) (hL : L ≤ 12) : ∀ (m r l : Nat) (Jc Jm : MJ), r + m = T → Jc 22 d = Int32.ofNat l → l + m * L ≤ 12 → Jc 22 (d + 1) = Int32.ofNat L → pD (d + 1) Jc Jm → TT B n (some q) Jc Jm → ∃ Kc Km, wh (agC (Int32.ofNat d) (Int32.ofNat T) (Int32.ofNat L)) (Int32.ofNat (r * L), Jc) = some Kc ∧ wh (agM (Int32.ofNat d) (Int32.ofNat T)) (Int32.ofNat r, Jm) = some Km ∧ TT B n (some q) Kc Km ∧ pD (d + 1) Kc Km ∧ fcP Jc Kc ∧ fmP Jm Km ∧ Km 47 8 = Jm 47 8
  | 0, r, l, Jc, Jm, hr, e, hl, e1, hp, ht => by
    have hTL : T * L ≤ 144 := Nat.mul_le_mul hT hL
    have hrT : r = T := by omega
    subst hrT
    refine ⟨Jc, Jm, wh_inr ?_, wh_inr ?_, ht, hp, fcP_rf, fmP_rf, rfl⟩
    · unfold agC
      try dsimp only
      rw [i_mul, if_neg (nlt_l (Nat.lt_irrefl _) (by omega) (by omega))]
    · unfold agM
      try dsimp only
      rw [if_neg (nlt_l (Nat.lt_irrefl _) (by omega) (by omega))]
  | m + 1, r, l, Jc, Jm, hr, e, hl, e1, hp, ht => by
    have hmL : (m + 1) * L = m * L + L := Nat.succ_mul m L
    have hrL : (r + 1) * L = r * L + L := Nat.succ_mul r L
    obtain ⟨Kc, Km, r1, r2, r3, r4, r5, r6, r7, r8, r9⟩ := again_row (q := q) (r := r) (T := T) hd hT hL (by omega) L 0 l Jc Jm (by omega) e (by omega) e1 hp ht
    have h2 : agM (Int32.ofNat d) (Int32.ofNat T) (Int32.ofNat r, Jm) = some (.inl (Int32.ofNat (r + 1), Km)) := by
      unfold agM
      try dsimp only
      rw [if_pos (lt_l (by omega) (by omega)), if_pos (TT_some ht).2.1, show ((0 : Int32), Jm) = (Int32.ofNat 0, Jm) from rfl, r2, ob_some, i_addr]
    obtain ⟨Kc2, Km2, s1, s2, s3, s4, s5, s6, s7⟩ := again_rows hd hT hL m (r + 1) (l + L) Kc Km (by omega) r8 (by omega) r9 r4 r3
    rw [hrL] at s1
    exact ⟨Kc2, Km2, r1 _ s1, (wh_inl h2).trans s2, s3, s4, fcP_2 r5 s5, fmP_2 r6 s6, s7.trans r7⟩
/-- what is left of a list again behind its closing sign -/
noncomputable def rsC (d v3 x : Int32) (J : MJ) : Option MJ := Option.bind (Option.bind (f_x_at16 22 (d + (1 : Int32)) J) fun v8 => Option.bind (f_x_at16 22 d J) fun v9 => Option.bind (α := MJ) (if (12 : Int32) < (v9 + (v3 * v8)) then (Option.bind (f_tap_fail50 (4 : Int32) x J) fun I18 => some I18) else some J) fun b10 => Option.bind (wh (agC d v3 v8) ((0 : Int32), b10)) fun b12 => some b12) fun b7 => f_tap_sign58 (59 : Int32) b7
noncomputable def rsM (d v3 x : Int32) (J : MJ) : Option MJ := Option.bind (α := MJ) (if (J 47 5) = 0 then (Option.bind (rd J 144 d) fun v40 => Option.bind (rd J 144 (d + (1 : Int32))) fun v41 => (if (12 : Int32) < (v40 + (v3 * v41)) then (Option.bind (f_m_wrong278 (4 : Int32) x J) fun I42 => some I42) else some J)) else some J) fun b26 => Option.bind (wh (agM d v3) ((0 : Int32), b26)) fun b28 => Option.bind (f_m_sign285 (59 : Int32) (ab_up1 b28 47 8 ((b28 47 8) - (1 : Int32)))) fun I29 => some I29
theorem rsC_f {d : Nat} {v x : Int32} {J : MJ} (hd : d < 6) (h : ¬ J 1 5 = 0) : rsC (Int32.ofNat d) v x J = some J := by
  unfold rsC
  rw [show Int32.ofNat d + (1 : Int32) = Int32.ofNat (d + 1) from i_addr, at_22 (by omega), ob_some, at_22 (by omega), ob_some, x_fail_f h, ob_some]
  have e : (if (12 : Int32) < (J 22 d + v * J 22 (d + 1)) then some J else some J) = some J := by split <;> rfl
  rw [e, ob_some, wh_inr (agC_f h), ob_some, ob_some, x_sign_f h]
theorem mX_dec {k w : Nat} {J : MJ} (h : mX B n J k w) : mX B n (ab_up1 J 47 8 (J 47 8 - 1)) k w := by
  obtain ⟨h1, h2, h3, h4, p, hp, h5⟩ := h
  exact ⟨h1, by rw [up_ne (by omega)]; exact h2, by rw [up_ne (by omega)]; exact h3, mE_up h4 (by decide) (by decide), p, hp, by rw [up_ne (by omega)]; exact h5⟩
theorem rsM_f {d v x : Int32} {k w : Nat} {J : MJ} (h : mX B n J k w) : ∃ K, rsM d v x J = some K ∧ mX B n K k w ∧ fmP J K := by
  have h' := mX_dec h
  unfold rsM
  rw [if_neg (mX_ne h), ob_some, wh_inr (agM_f (mX_ne h)), ob_some, m_sign_f (mX_ne h'), ob_some]
  exact ⟨_, rfl, h', fun a k h1 h2 => up_ne (by omega)⟩
theorem TT_dec {st : Option Nat} {Jc Jm : MJ} (h : TT B n st Jc Jm) : TT B n st Jc (ab_up1 Jm 47 8 (Jm 47 8 - 1)) := TT_mu h (by omega) (by omega)
theorem again_tail {d T q q1 : Nat} {Jc Jm : MJ} (hd : d < 6) (hT : T ≤ 12) (h : TT B n (some q1) Jc Jm) (hp : pD (d + 1) Jc Jm) (h8 : Jm 47 8 = Int32.ofNat (d + 1)) : ∃ st Kc Km, rsC (Int32.ofNat d) (Int32.ofNat T) (Int32.ofNat q) Jc = some Kc ∧ rsM (Int32.ofNat d) (Int32.ofNat T) (Int32.ofNat q) Jm = some Km ∧ TT B n st Kc Km ∧ fcP Jc Kc ∧ fmP Jm Km ∧ ∀ q', st = some q' → q1 < q' ∧ pD d Kc Km ∧ Km 47 8 = Int32.ofNat d := by
  obtain ⟨l, l1, l2, l3, -⟩ := hp d (by omega)
  obtain ⟨L, m1, m2, m3, -⟩ := hp (d + 1) (Nat.le_refl _)
  have hTL : T * L ≤ 144 := Nat.mul_le_mul hT m1
  unfold rsC rsM
  rw [show Int32.ofNat d + (1 : Int32) = Int32.ofNat (d + 1) from i_addr, at_22 (by omega), ob_some, at_22 (by omega), ob_some, l2, m2, i_mul, i_add, if_pos (TT_some h).2.1, rd_144 (by omega), ob_some, rd_144 (by omega), ob_some, l3, m3, i_mul, i_add]
  by_cases hlv : 12 < l + T * L
  · obtain ⟨J2, K2, a1, a2, a3, a4, a5⟩ := tt_fail (k := 4) (w := q) (by omega) h
    obtain ⟨k, w, a3c, a3m⟩ := a3
    have b1 := cX_ne a3c
    have b2 := mX_ne a3m
    have a3m' := mX_dec a3m
    rw [if_pos (show (12 : Int32) < Int32.ofNat (l + T * L) from lt_l (a := 12) hlv (by omega)), if_pos (show (12 : Int32) < Int32.ofNat (l + T * L) from lt_l (a := 12) hlv (by omega)), show f_tap_fail50 4 (Int32.ofNat q) Jc = some J2 from a1, show f_m_wrong278 4 (Int32.ofNat q) Jm = some K2 from a2, ob_some, ob_some, ob_some, ob_some, wh_inr (agC_f b1), wh_inr (agM_f b2), ob_some, ob_some, ob_some, x_sign_f b1, m_sign_f (mX_ne a3m'), ob_some]
    exact ⟨none, J2, _, rfl, rfl, ⟨k, w, a3c, a3m'⟩, fcP_1 fcP_rf a4, fun a j g1 g2 => by rw [up_ne (by omega), a5 a j (by omega)], fun q' e => by cases e⟩
  · rw [if_neg (show ¬ (12 : Int32) < Int32.ofNat (l + T * L) from nlt_l (a := 12) hlv (by decide) (by omega)), if_neg (show ¬ (12 : Int32) < Int32.ofNat (l + T * L) from nlt_l (a := 12) hlv (by decide) (by omega)), ob_some, ob_some]
    obtain ⟨Kc, Km, r1, r2, r3, r4, r5, r6, r7⟩ := again_rows (q := q1) hd hT m1 T 0 l Jc Jm (by omega) l2 (by omega) m2 hp h
    rw [Nat.zero_mul] at r1
    rw [show ((0 : Int32), Jc) = (Int32.ofNat 0, Jc) from rfl, show ((0 : Int32), Jm) = (Int32.ofNat 0, Jm) from rfl, r1, r2, ob_some, ob_some, ob_some]
    obtain ⟨st3, J3, K3, e1, e2, e3, e4, e5, e6⟩ := tt_sign (c := 59) (by decide) (TT_dec r3)
    rw [show f_tap_sign58 59 Kc = some J3 from e1, show f_m_sign285 59 (ab_up1 Km 47 8 (Km 47 8 - 1)) = some K3 from e2, ob_some]
    refine ⟨st3, J3, K3, rfl, rfl, e3, fcP_1 (fcP_2 fcP_rf r5) e4, fun a j g1 g2 => by rw [e5 a j (by omega), up_ne (by omega), r6 a j g1 g2], fun q' e => ?_⟩
    obtain ⟨q0, g1, g2⟩ := e6 q' e
    have := Option.some.inj g1
    refine ⟨by omega, pD_c (pD_le r4 (by omega)) (fun k => e4 _ _ (by omega)) (fun k => e4 _ _ (by omega)) (fun a k h1 h2 => by rw [e5 _ _ (by omega), up_ne (by omega)]) (by omega), ?_⟩
    rw [e5 _ _ (by omega), up_eq, r7, h8]
    exact (i_sub (b := 1) (by omega)).trans (congrArg Int32.ofNat (by omega))
end AGAIN
