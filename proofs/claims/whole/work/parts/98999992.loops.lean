/-! work: the loops of steps -/
noncomputable def swC (rc : Int32 → MJ → Option MJ) (p2 : Int32) : Int32 × MJ → Option ((Int32 × MJ) ⊕ MJ) := fun (s1 : Int32 × MJ) =>
  (if (200 : Int32) < s1.1 then
  some (.inr s1.2)
  else
  (Option.bind (f_tap_hasMore42 s1.2) fun w3 =>
  (if w3.1 = 0 then
  some (.inr w3.2)
  else
  (if 0 < p2 then
  (Option.bind (f_tap_isNext73 (93 : Int32) w3.2) fun w4 =>
  (if w4.1 = 0 then
  (Option.bind (F_pla_readStep96 rc p2 w4.2) fun I5 =>
  (Option.bind (f_tap_sign58 (59 : Int32) I5) fun I6 =>
  some (.inl ((s1.1 + (1 : Int32)), I6))
  )
  )
  else
  some (.inr w4.2)
  )
  )
  else
  (Option.bind (F_pla_readStep96 rc p2 w3.2) fun I7 =>
  (Option.bind (f_tap_sign58 (59 : Int32) I7) fun I8 =>
  some (.inl ((s1.1 + (1 : Int32)), I8))
  )
  )
  )
  )
  )
  )
  
theorem swC_f {rc : Int32 → MJ → Option MJ} {p2 : Int32} {s : Int32 × MJ} (h : ¬ s.2 1 5 = 0) : swC rc p2 s = some (.inr s.2) := by
  unfold swC
  rw [x_more_f h, ob_some, if_pos rfl]
  split <;> rfl
theorem lt_len : ∀ k : Nat, k < 7 → 3 ≤ (wLT.getD k []).length ∧ (k = 6 → 4 ≤ (wLT.getD k []).length) := by decide +kernel
section WLOOP
variable {B : Nat → Nat} {n : Nat}
theorem step_it {d c q n1 n3 : Nat} {rc : Int32 → MJ → Option MJ} {rm : MJ → Option MJ} {Jc Jm : MJ} (hn : n ≤ 200) (h1 : n1 < 1000) (h3 : n3 < 1000) (hd : d ≤ 6) (HC : d < 6 → HCw B n n1 n3 rc rm d) (t : TT B n (some q) Jc Jm) (h8 : Jm 47 8 = Int32.ofNat d) (c29 : Jc 29 1 = Int32.ofNat c) (m34 : Jm 47 34 = Int32.ofNat c) (h4c : 4 * c ≤ q) (hS : shN n1 n3 Jc Jm) : ∃ st Kc Km, (Option.bind (F_pla_readStep96 rc (Int32.ofNat d) Jc) fun I5 => f_tap_sign58 (59 : Int32) I5) = some Kc ∧ F_m_readsStep300 rm Jm = some Km ∧ TT B n st Kc Km ∧ fcV c Jc Kc ∧ fmV c Jm Km ∧ ∀ q', st = some q' → q < q' ∧ Km 47 8 = Int32.ofNat d ∧ ∃ c', 4 * c' ≤ q' ∧ stN n1 n3 d c c' Kc Km := by
  have hqn := (TT_some t).2.2
  have hwd := wdE_ge (B := B) (n := n) hqn
  cases hk : wIx wLT (wdW B n q) with
  | none =>
    obtain ⟨Kc, Km, a1, a2, a3, a4, a5, a6⟩ := step_none (d := d) (rc := rc) (rm := rm) hn t hk c29 h4c
    exact ⟨none, Kc, Km, a1, a2, ⟨1, q, a3, a4⟩, a5, a6, fun q' e => by cases e⟩
  | some k =>
    have hk7 : k < 7 := wIx_lt _ _ _ hk
    have hl : (wLT.getD k []).length = wdE B n q - q := by
      rw [wIx_get _ _ _ hk]
      unfold wdW
      exact wdl_len
    obtain ⟨l1, l2⟩ := lt_len k hk7
    by_cases h6 : k < 6
    · obtain ⟨st, Kc, Km, a1, a2, a3, a4, a5, a6⟩ := step_simple (d := d) (rc := rc) (rm := rm) hn h1 h3 t hk h6 c29 m34 h4c hS (by omega)
      refine ⟨st, Kc, Km, a1, a2, a3, a4, a5, fun q' e => ?_⟩
      obtain ⟨z1, z2, z3, z4⟩ := a6 q' e
      exact ⟨z1, z2.trans h8, c + 1, z3, z4⟩
    · have : k = 6 := by omega
      subst this
      have := l2 rfl
      exact step_again hn hd HC t h8 hk c29 m34 h4c hS (by omega)
theorem stN_0 {n1 n3 d c : Nat} {Jc Jm : MJ} (h1 : Jc 29 1 = Int32.ofNat c) (h2 : Jm 47 34 = Int32.ofNat c) : stN n1 n3 d c c Jc Jm := ⟨Nat.le_refl c, h1, h2, fun k z1 z2 => by omega, WN_nil⟩
theorem stN_1 {n1 n3 d c c' : Nat} {Jc Jm Kc Km : MJ} (h : stN n1 n3 d c c' Jc Jm) (f1 : ∀ a k, 29 ≤ a → a ≤ 30 → Kc a k = Jc a k) (f2 : ∀ a k, ¬ (a = 47 ∧ (k = 4 ∨ k = 5 ∨ k = 6)) → Km a k = Jm a k) : stN n1 n3 d c c' Kc Km := by
  obtain ⟨a1, a2, a3, a4, a5⟩ := h
  exact ⟨a1, (f1 _ _ (by omega) (by omega)).trans a2, (f2 _ _ (by omega)).trans a3, fun k z1 z2 => rowR_c (a4 k z1 z2) (fun j _ _ => f1 _ _ (by omega) (by omega)) (fun j => f2 _ _ (by omega)), WN_c a5 fun k j _ _ => f2 _ _ (by omega)⟩
theorem fcV_1 {c : Nat} {I J K : MJ} (h : fcV c I J) (f : fr1 J K) : fcV c I K := fun a k z1 z2 z3 => (f a k z1).trans (h a k z1 z2 z3)
theorem fmV_1 {c : Nat} {I J K : MJ} (h : fmV c I J) (f : fr47 J K) : fmV c I K := fun a k z1 z2 => (f a k (by omega)).trans (h a k z1 z2)
theorem fcV_2 {c c' : Nat} {I J K : MJ} (h : fcV c I J) (f : fcV c' J K) (hc : c ≤ c') : fcV c I K := fun a k z1 z2 z3 => (f a k z1 (by omega) z3).trans (h a k z1 z2 z3)
theorem fmV_2 {c c' : Nat} {I J K : MJ} (h : fmV c I J) (f : fmV c' J K) (hc : c ≤ c') : fmV c I K := fun a k z1 z2 => (f a k z1 (by omega)).trans (h a k z1 z2)
theorem fcV_rf {c : Nat} {I : MJ} : fcV c I I := fun _ _ _ _ _ => rfl
theorem fmV_rf {c : Nat} {I : MJ} : fmV c I I := fun _ _ _ _ => rfl
theorem shN_c {n1 n3 c c' : Nat} {Jc Jm Kc Km : MJ} (h : shN n1 n3 Jc Jm) (f1 : fcV c Jc Kc) (f2 : fmV c' Jm Km) : shN n1 n3 Kc Km := ⟨(f1 _ _ (by omega) (by omega) (by omega)).trans h.1, (f1 _ _ (by omega) (by omega) (by omega)).trans h.2.1, (f2 _ _ (by omega) (by omega)).trans h.2.2.1, (f2 _ _ (by omega) (by omega)).trans h.2.2.2⟩
theorem wloop_in {d n1 n3 : Nat} {rc : Int32 → MJ → Option MJ} {rm : MJ → Option MJ} (hd : d < 6) (hn : n ≤ 200) (h1 : n1 < 1000) (h3 : n3 < 1000) (HC : d + 1 < 6 → HCw B n n1 n3 rc rm (d + 1)) : ∀ (f i q c : Nat) (Jc Jm : MJ), n - q < f → i ≤ q → TT B n (some q) Jc Jm → Jm 47 4 = Int32.ofNat q → Jm 47 8 = Int32.ofNat (d + 1) → Jc 29 1 = Int32.ofNat c → Jm 47 34 = Int32.ofNat c → 4 * c ≤ q → shN n1 n3 Jc Jm → ∃ st Kc Km, (Option.bind (wh (swC rc (Int32.ofNat (d + 1))) (Int32.ofNat i, Jc)) fun I6 => f_tap_sign58 (93 : Int32) I6) = some Kc ∧ (Option.bind (wh (nlM (fun _ s => F_m_readsStep300 rm s) 0) Jm) fun b24 => f_m_sign285 (93 : Int32) b24) = some Km ∧ TT B n st Kc Km ∧ fcV c Jc Kc ∧ fmV c Jm Km ∧ ∀ q', st = some q' → q < q' ∧ Km 47 8 = Int32.ofNat (d + 1) ∧ ∃ c', 4 * c' ≤ q' ∧ stN n1 n3 (d + 1) c c' Kc Km
  | 0, i, q, c, Jc, Jm, hf, _, _, _, _, _, _, _, _ => by omega
  | f + 1, i, q, c, Jc, Jm, hf, hi, h, h4, h8, c29, m34, h4c, hS => by
    have hqn := (TT_some h).2.2
    obtain ⟨J1, x1, x2, x3, -⟩ := x_more h.1
    have hbt := m_byteAt (k := q) h.2.1 (by omega)
    have hb93 : byt B n q = (93 : Int32) ↔ (q < n ∧ B q = 93) := byt_eq (c := 93) (fun z => (h.2.1.2.2 q z).1) (by decide)
    by_cases hq : q < n
    · rw [if_pos hq] at x1
      obtain ⟨J2, n1', n2, n3', -⟩ := x_isNext (c := 93) (by decide) x2
      have fJ2 : fr1 Jc J2 := fr1_tr x3 n3'
      have hC : ∀ R, (if (if q < n ∧ B q = 93 then (1 : Int32) else 0) = 0 then (Option.bind (F_pla_readStep96 rc (Int32.ofNat (d + 1)) J2) fun I5 => Option.bind (f_tap_sign58 (59 : Int32) I5) fun I6 => some (Sum.inl (β := MJ) (Int32.ofNat (i + 1), I6))) else some (.inr J2)) = R → swC rc (Int32.ofNat (d + 1)) (Int32.ofNat i, Jc) = R := fun R hh => by
        unfold swC
        try dsimp only
        rw [if_neg (show ¬ (200 : Int32) < Int32.ofNat i from nlt_l (a := 200) (by omega) (by decide) (by omega)), x1, ob_some, if_neg (show ¬ (1 : Int32) = 0 by decide), if_pos (show (0 : Int32) < Int32.ofNat (d + 1) from lt_l (a := 0) (by omega) (by omega))]
        try dsimp only
        rw [show f_tap_isNext73 93 J1 = _ from n1', ob_some, i_addr]
        exact hh
      have t : TT B n (some q) J2 Jm := ⟨n2, h.2⟩
      by_cases h93 : B q = 93
      · have e1 : swC rc (Int32.ofNat (d + 1)) (Int32.ofNat i, Jc) = some (.inr J2) := hC _ (by rw [show (if q < n ∧ B q = 93 then (1 : Int32) else 0) = 1 from if_pos ⟨hq, h93⟩, if_neg (show ¬ (1 : Int32) = 0 by decide)])
        have e2 : nlM (fun _ s => F_m_readsStep300 rm s) 0 Jm = some (.inr Jm) := by
          unfold nlM
          rw [if_pos (TT_some h).2.1, h4, hbt, ob_some, if_pos (hb93.mpr ⟨hq, h93⟩)]
        obtain ⟨st, Kc, Km, a1, a2, a3, a4, a5, a6⟩ := tt_sign (c := 93) (by decide) t
        refine ⟨st, Kc, Km, ?_, ?_, a3, fcV_1 (fcV_1 fcV_rf fJ2) a4, fmV_1 fmV_rf a5, fun q' e => ?_⟩
        · rw [wh_inr e1, ob_some]; exact a1
        · rw [wh_inr e2, ob_some]; exact a2
        · obtain ⟨q0, z1, z2⟩ := a6 q' e
          have := Option.some.inj z1
          exact ⟨by omega, by rw [a5 _ _ (by omega)]; exact h8, c, by omega, stN_0 (by rw [a4 _ _ (by omega), fJ2 _ _ (by omega)]; exact c29) (by rw [a5 _ _ (by omega)]; exact m34)⟩
      · obtain ⟨st, Kc, Km, a1, a2, a3, a4, a5, a6⟩ := step_it hn h1 h3 (by omega) HC t h8 (by rw [fJ2 _ _ (by omega)]; exact c29) m34 h4c (shN_c (c := c) (c' := c) hS (fcV_1 fcV_rf fJ2) fmV_rf)
        obtain ⟨Km', b1, b2, b3, b4⟩ := tt_blanks a3
        have e1 : swC rc (Int32.ofNat (d + 1)) (Int32.ofNat i, Jc) = some (.inl (Int32.ofNat (i + 1), Kc)) := hC _ (by rw [show (if q < n ∧ B q = 93 then (1 : Int32) else 0) = 0 from if_neg (fun z => h93 z.2), if_pos rfl, b_assoc, a1, ob_some])
        have e2 : nlM (fun _ s => F_m_readsStep300 rm s) 0 Jm = some (.inl Km') := by
          unfold nlM
          rw [if_pos (TT_some h).2.1, h4, hbt, ob_some, if_neg (fun z => h93 (hb93.mp z).2), show (fun (_ : Int32) (s : MJ) => F_m_readsStep300 rm s) 0 Jm = some Km from a2, ob_some, b1, ob_some]
        have fc : fcV c Jc Kc := fcV_2 (fcV_1 fcV_rf fJ2) a4 (Nat.le_refl c)
        have fm : fmV c Jm Km' := fmV_1 a5 b3
        cases st with
        | none =>
          obtain ⟨c1, c2⟩ := TT_none b2
          refine ⟨none, Kc, Km', ?_, ?_, b2, fc, fm, fun q' e => by cases e⟩
          · rw [wh_inl e1, wh_inr (swC_f c1), ob_some, x_sign_f c1]
          · rw [wh_inl e2, wh_inr (nlM_f c2), ob_some, m_sign_f c2]
        | some q' =>
          obtain ⟨z1, z2, c', z3, z4⟩ := a6 q' rfl
          have z4' := stN_1 z4 (fun _ _ _ _ => rfl) b3
          have hq'n := (TT_some b2).2.2
          obtain ⟨st2, Kc2, Km2, r1, r2, r3, r4, r5, r6⟩ := wloop_in hd hn h1 h3 HC f (i + 1) q' c' Kc Km' (by omega) (by omega) b2 (b4 q' rfl) (by rw [b3 _ _ (by omega)]; exact z2) z4'.2.1 z4'.2.2.1 z3 (shN_c hS fc fm)
          refine ⟨st2, Kc2, Km2, ?_, ?_, r3, fcV_2 fc r4 z4.1, fmV_2 fm r5 z4.1, fun q'' e => ?_⟩
          · rw [wh_inl e1]; exact r1
          · rw [wh_inl e2]; exact r2
          · obtain ⟨y1, y2, c'', y3, y4⟩ := r6 q'' e
            have hq'' : q'' ≤ n := by rw [e] at r3; exact (TT_some r3).2.2
            exact ⟨by omega, y2, c'', y3, stN_tr (by omega) z4' y4 r4 r5⟩
    · rw [if_neg hq] at x1
      have e1 : swC rc (Int32.ofNat (d + 1)) (Int32.ofNat i, Jc) = some (.inr J1) := by
        unfold swC
        try dsimp only
        rw [if_neg (show ¬ (200 : Int32) < Int32.ofNat i from nlt_l (a := 200) (by omega) (by decide) (by omega)), x1, ob_some, if_pos rfl]
      have hw : wdW B n q = [] := no_word (fun z => hq z.1)
      obtain ⟨-, Km, -, k1, -, k2, -, k3⟩ := step_none (d := d) (rc := rc) (rm := rm) hn h (by rw [hw]; rfl) c29 h4c
      obtain ⟨Km', b1, b2, b3⟩ := mX_blanks k2
      have e2 : nlM (fun _ s => F_m_readsStep300 rm s) 0 Jm = some (.inl Km') := by
        unfold nlM
        rw [if_pos (TT_some h).2.1, h4, hbt, ob_some, if_neg (fun z => hq (hb93.mp z).1), show (fun (_ : Int32) (s : MJ) => F_m_readsStep300 rm s) 0 Jm = some Km from k1, ob_some, b1, ob_some]
      obtain ⟨J3, s1, s2, s3⟩ := x_sign (c := 93) (by decide) x2
      replace s3 := (s3.resolve_left (fun z => hq z.1)).2
      refine ⟨none, J3, Km', ?_, ?_, ⟨1, q, s3, b2⟩, fcV_1 (fcV_1 fcV_rf x3) s2, fmV_1 k3 b3, fun q' e => by cases e⟩
      · rw [wh_inr e1, ob_some]; exact s1
      · rw [wh_inl e2, wh_inr (nlM_f (mX_ne b2)), ob_some, m_sign_f (mX_ne b2)]
theorem HCw_all {n1 n3 : Nat} (hn : n ≤ 200) (h1 : n1 < 1000) (h3 : n3 < 1000) : ∀ (k d : Nat), d < 6 → 6 ≤ k + d → HCw B n n1 n3 (f_pla_readSteps95 k) (f_m_readsStep300 k) d
  | 0, d, h1, h2 => by omega
  | k + 1, d, hd, h2 => fun q c Jc Jm t h4 h8 c29 m34 h4c hS => by
    obtain ⟨st, Kc, Km, r1, r2, r3⟩ := wloop_in (rc := f_pla_readSteps95 k) (rm := f_m_readsStep300 k) hd hn h1 h3 (fun h => HCw_all hn h1 h3 k (d + 1) h (by omega)) (n - q + 1) 0 q c Jc Jm (by omega) (by omega) t h4 h8 c29 m34 h4c hS
    refine ⟨st, Kc, Km, ?_, r2, r3⟩
    show (Option.bind (F_pla_readSteps95 (f_pla_readSteps95 k) (Int32.ofNat (d + 1)) Jc) fun I6 => f_tap_sign58 (93 : Int32) I6) = some Kc
    unfold F_pla_readSteps95
    rw [b_some]
    exact r1
end WLOOP
