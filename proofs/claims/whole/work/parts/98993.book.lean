/-! book: the two loops, line by line -/
noncomputable def bkC : Int32 × MJ → Option ((Int32 × MJ) ⊕ MJ) := fun (s2 : Int32 × MJ) =>
  (if (12 : Int32) < s2.1 then
  some (.inr s2.2)
  else
  (Option.bind (f_tap_hasMore42 s2.2) fun w4 =>
  (if w4.1 = 0 then
  some (.inr w4.2)
  else
  (Option.bind (f_tap_number53 (0 : Int32) (11 : Int32) w4.2) fun w5 =>
  (Option.bind (f_x_at16 37 w5.1 w5.2) fun v6 =>
  (Option.bind (α := MJ)
  (if v6 = (-1 : Int32) then
  some w5.2
  else
  (Option.bind (f_tap_fail50 (2 : Int32) (w5.2 1 4) w5.2) fun I11 =>
  some I11
  )
  )
  fun b7 =>
  (Option.bind (f_tap_word45 2000007 b7) fun w8 =>
  (Option.bind (f_x_put15 37 w5.1 w8.1 w8.2) fun I9 =>
  (Option.bind (f_tap_sign58 (59 : Int32) I9) fun I10 =>
  some (.inl ((s2.1 + (1 : Int32)), (ab_up1 I10 35 4 ((I10 35 4) + (1 : Int32)))))
  )
  )
  )
  )
  )
  )
  )
  )
  )
noncomputable def bkM : Int32 × Int32 × MJ → Option ((Int32 × Int32 × MJ) ⊕ (Int32 × MJ)) := fun (s5 : Int32 × Int32 × MJ) =>
  (if (s5.2.2 47 5) = 0 then
  (if (s5.2.2 47 4) < (s5.2.2 47 2) then
  (Option.bind (f_m_number283 (0 : Int32) (11 : Int32) s5.2.2) fun w9 =>
  (Option.bind (α := MJ)
  (if (w9.2 47 5) = 0 then
  (Option.bind (f_m_has313 s5.2.1 w9.1 w9.2) fun v20 =>
  (if v20 = 0 then
  some w9.2
  else
  (Option.bind (f_m_wrong278 (2 : Int32) (s5.2.2 47 4) w9.2) fun I21 =>
  some I21
  )
  )
  )
  else
  some w9.2
  )
  fun b10 =>
  (Option.bind (α := Int32 × MJ)
  (if (b10 47 5) = 0 then
  (Option.bind (f_m_skyHere281 b10) fun w19 =>
  some (w19.1, w19.2)
  )
  else
  some ((0 : Int32), b10)
  )
  fun b11 =>
  (Option.bind (f_m_sign285 (59 : Int32) b11.2) fun I12 =>
  (Option.bind (α := Int32 × Int32 × MJ)
  (if (I12 47 5) = 0 then
  (Option.bind (rdp 480 s5.1) fun r15 =>
  (Option.bind (wr I12 r15 (0 : Int32) w9.1) fun I16 =>
  (Option.bind (rdp 480 s5.1) fun r17 =>
  (Option.bind (wr I16 r17 (1 : Int32) b11.1) fun I18 =>
  some ((s5.1 + (1 : Int32)), (s5.2.1 ||| ((1 : Int32) <<< (w9.1 &&& 31))), I18)
  )
  )
  )
  )
  else
  some (s5.1, s5.2.1, I12)
  )
  fun b13 =>
  (Option.bind (f_m_blanks270 b13.2.2) fun I14 =>
  some (.inl (b13.1, b13.2.1, I14))
  )
  )
  )
  )
  )
  )
  else
  some (.inr (s5.1, s5.2.2))
  )
  else
  some (.inr (s5.1, s5.2.2))
  )
theorem sN_one {t u : Nat → Nat} {h : Nat} : ∀ {n : Nat}, h < n → t h + 1 = u h → (∀ k, k < n → k ≠ h → t k = u k) → sN t n + 1 = sN u n
  | n + 1, hh, h1, h2 => by
    show sN t n + t n + 1 = sN u n + u n
    by_cases e : h = n
    · subst e
      rw [sN_congr (fun k hk => h2 k (by omega) (by omega))]
      omega
    · have := sN_one (t := t) (u := u) (n := n) (by omega) h1 (fun k hk hne => h2 k (by omega) hne)
      have := h2 n (by omega) (fun z => e z.symm)
      omega
/-- the lines read so far -/
def bkD (i : Nat) (bh bs : Nat → Nat) (been : Int32) (Jc Jm : MJ) : Prop :=
  (∀ k, k < i → bh k < 12 ∧ bs k < 6) ∧ (∀ j k, j < i → k < i → bh j = bh k → j = k) ∧ (∀ h, h < 12 → (bitF been h = true ↔ ∃ k, k < i ∧ bh k = h)) ∧ sN (fun h => if bitF been h = true then 1 else 0) 12 = i ∧ (∀ k, k < i → Jc 37 (bh k) = Int32.ofNat (bs k)) ∧ (∀ h, h < 12 → (∀ k, k < i → bh k ≠ h) → Jc 37 h = -1) ∧ (∀ k, k < i → Jm (481 + k) 0 = Int32.ofNat (bh k) ∧ Jm (481 + k) 1 = Int32.ofNat (bs k)) ∧ Jc 35 4 = Int32.ofNat i
def fcB (I J : MJ) : Prop := ∀ a k, ¬ (a = 1 ∧ (k = 2 ∨ k = 4 ∨ k = 5 ∨ k = 6)) → a ≠ 37 → ¬ (a = 35 ∧ k = 4) → J a k = I a k
def fmB (I J : MJ) : Prop := ∀ a k, ¬ (a = 47 ∧ (k = 4 ∨ k = 5 ∨ k = 6)) → ¬ (481 ≤ a ∧ a < 493) → J a k = I a k
theorem fcB_1 {I J K : MJ} (h : fcB I J) (f : fr1 J K) : fcB I K := fun a k h1 h2 h3 => (f a k h1).trans (h a k h1 h2 h3)
theorem fmB_1 {I J K : MJ} (h : fmB I J) (f : fr47 J K) : fmB I K := fun a k h1 h2 => (f a k h1).trans (h a k h1 h2)
theorem bkC_f {i : Nat} {J : MJ} (h : ¬ J 1 5 = 0) : bkC (Int32.ofNat i, J) = some (.inr J) := by
  unfold bkC
  try dsimp only
  rw [x_more_f h, ob_some, if_pos rfl]
  split <;> rfl
theorem bkM_f {s : Int32 × Int32 × MJ} (h : ¬ s.2.2 47 5 = 0) : bkM s = some (.inr (s.1, s.2.2)) := by
  unfold bkM
  rw [if_neg h]
/-- what is left of a line behind a fault, in the class -/
theorem bkC_tail {i v : Nat} {J : MJ} (hv : v < 12) (h : ¬ J 1 5 = 0) : ∃ J', (Option.bind (f_tap_word45 2000007 J) fun w8 => Option.bind (f_x_put15 37 (Int32.ofNat v) w8.1 w8.2) fun I9 => Option.bind (f_tap_sign58 (59 : Int32) I9) fun I10 => some (Sum.inl (β := MJ) ((Int32.ofNat i + (1 : Int32)), (ab_up1 I10 35 4 ((I10 35 4) + (1 : Int32)))))) = some (.inl (Int32.ofNat (i + 1), J')) ∧ (∀ a k, a ≠ 37 → ¬ (a = 35 ∧ k = 4) → J' a k = J a k) := by
  rw [x_word_f h, ob_some]
  try dsimp only
  rw [put_37 hv, ob_some, x_sign_f (by rw [up_ne (by omega)]; exact h), ob_some, i_addr]
  exact ⟨_, rfl, fun a k h1 h2 => by rw [up_ne h2, up_ne (fun z => h1 z.1)]⟩
theorem bkM_tail {s1 s2 v : Int32} {J : MJ} {B : Nat → Nat} {n k w : Nat} (h : mX B n J k w) : ∃ J', (Option.bind (α := Int32 × MJ) (if (J 47 5) = 0 then (Option.bind (f_m_skyHere281 J) fun w19 => some (w19.1, w19.2)) else some ((0 : Int32), J)) fun b11 => Option.bind (f_m_sign285 (59 : Int32) b11.2) fun I12 => Option.bind (α := Int32 × Int32 × MJ) (if (I12 47 5) = 0 then (Option.bind (rdp 480 s1) fun r15 => Option.bind (wr I12 r15 (0 : Int32) v) fun I16 => Option.bind (rdp 480 s1) fun r17 => Option.bind (wr I16 r17 (1 : Int32) b11.1) fun I18 => some ((s1 + (1 : Int32)), (s2 ||| ((1 : Int32) <<< (v &&& 31))), I18)) else some (s1, s2, I12)) fun b13 => Option.bind (f_m_blanks270 b13.2.2) fun I14 => some (Sum.inl (β := Int32 × MJ) (b13.1, b13.2.1, I14))) = some (.inl (s1, s2, J')) ∧ mX B n J' k w ∧ fr47 J J' := by
  obtain ⟨J', j1, j2, j3⟩ := mX_blanks h
  rw [if_neg (mX_ne h), ob_some]
  try dsimp only
  rw [m_sign_f (mX_ne h), ob_some, if_neg (mX_ne h), ob_some]
  try dsimp only
  rw [j1, ob_some]
  exact ⟨J', rfl, j2, j3⟩
theorem book_run {B : Nat → Nat} {n : Nat} {C0 M0 : MJ} : ∀ (f i q : Nat) (bh bs : Nat → Nat) (been : Int32) (Jc Jm : MJ), n - q < f → cR B n Jc q → mR B n Jm q → Jm 47 4 = Int32.ofNat q → bkD i bh bs been Jc Jm → fcB C0 Jc → fmB M0 Jm → ∃ bc bm, wh bkC (Int32.ofNat i, Jc) = some bc ∧ wh bkM (Int32.ofNat i, been, Jm) = some bm ∧ fcB C0 bc ∧ fmB M0 bm.2 ∧ ((∃ nl bh bs been, nl ≤ 12 ∧ bm.1 = Int32.ofNat nl ∧ bc 1 5 = 0 ∧ bc 1 6 = -1 ∧ bm.2 47 5 = 0 ∧ bkD nl bh bs been bc bm.2) ∨ ∃ k w, cX bc k w ∧ bm.2 47 5 = Int32.ofNat k ∧ bm.2 47 6 = Int32.ofNat w)
  | 0, i, q, bh, bs, been, Jc, Jm, hf, _, _, _, _, _, _ => by omega
  | f + 1, i, q, bh, bs, been, Jc, Jm, hf, hc, hm, h4, hD, f1, f2 => by
    have hi12 : i ≤ 12 := by
      rw [← hD.2.2.2.1]
      exact Nat.le_trans (sN_le (B := 1) fun k _ => by split <;> omega) (by omega)
    have hn := hc.1.1
    have hqn := (cR_next hc).1
    -- an end with a fault
    have bad : ∀ (J' : MJ) (s : Int32 × Int32 × MJ) (k w : Nat), bkC (Int32.ofNat i, Jc) = some (.inl (Int32.ofNat (i + 1), J')) → bkM (Int32.ofNat i, been, Jm) = some (.inl s) → cX J' k w → mX B n s.2.2 k w → fcB C0 J' → fmB M0 s.2.2 → ∃ bc bm, wh bkC (Int32.ofNat i, Jc) = some bc ∧ wh bkM (Int32.ofNat i, been, Jm) = some bm ∧ fcB C0 bc ∧ fmB M0 bm.2 ∧ ((∃ nl bh bs been, nl ≤ 12 ∧ bm.1 = Int32.ofNat nl ∧ bc 1 5 = 0 ∧ bc 1 6 = -1 ∧ bm.2 47 5 = 0 ∧ bkD nl bh bs been bc bm.2) ∨ ∃ k w, cX bc k w ∧ bm.2 47 5 = Int32.ofNat k ∧ bm.2 47 6 = Int32.ofNat w) := fun J' s k w e1 e2 g1 g2 g3 g4 => ⟨J', (s.1, s.2.2), (wh_inl e1).trans (wh_inr (bkC_f (cX_ne g1))), (wh_inl e2).trans (wh_inr (bkM_f (mX_ne g2))), g3, g4, Or.inr ⟨k, w, g1, g2.2.1, g2.2.2.1⟩⟩
    obtain ⟨J1, x1, x2, x3, x4⟩ := x_more hc
    by_cases hq : q < n
    · -- the number
      rw [if_pos hq] at x1
      obtain ⟨J2, n1, n2, n3⟩ := x_number (lo := 0) (m := 12) (by decide) (by decide) x2
      obtain ⟨K2, k1, k2, k3⟩ := m_number (lo := 0) (m := 12) (by decide) (by decide) hm
      have n1' : f_tap_number53 0 11 J1 = _ := n1
      have k1' : f_m_number283 0 11 Jm = _ := k1
      have hCs : ∀ R, (Option.bind (f_x_at16 37 (Int32.ofNat (if nmO B n q 0 12 = 0 then nmV B n q else 0)) J2) fun v6 => Option.bind (α := MJ) (if v6 = (-1 : Int32) then some J2 else (Option.bind (f_tap_fail50 (2 : Int32) (J2 1 4) J2) fun I11 => some I11)) fun b7 => Option.bind (f_tap_word45 2000007 b7) fun w8 => Option.bind (f_x_put15 37 (Int32.ofNat (if nmO B n q 0 12 = 0 then nmV B n q else 0)) w8.1 w8.2) fun I9 => Option.bind (f_tap_sign58 (59 : Int32) I9) fun I10 => some (Sum.inl (β := MJ) ((Int32.ofNat i + (1 : Int32)), (ab_up1 I10 35 4 ((I10 35 4) + (1 : Int32)))))) = R → bkC (Int32.ofNat i, Jc) = R := fun R h => by
        unfold bkC
        try dsimp only
        rw [if_neg (show ¬ (12 : Int32) < Int32.ofNat i from nlt_l (a := 12) (by omega) (by decide) (by omega)), x1, ob_some, if_neg (show ¬ (1 : Int32) = 0 by decide)]
        try dsimp only
        rw [n1', ob_some]
        exact h
      have hMs : ∀ R, (Option.bind (α := MJ) (if (K2 47 5) = 0 then (Option.bind (f_m_has313 been (Int32.ofNat (if nmO B n q 0 12 = 0 then nmV B n q else 0)) K2) fun v20 => (if v20 = 0 then some K2 else (Option.bind (f_m_wrong278 (2 : Int32) (Jm 47 4) K2) fun I21 => some I21))) else some K2) fun b10 => Option.bind (α := Int32 × MJ) (if (b10 47 5) = 0 then (Option.bind (f_m_skyHere281 b10) fun w19 => some (w19.1, w19.2)) else some ((0 : Int32), b10)) fun b11 => Option.bind (f_m_sign285 (59 : Int32) b11.2) fun I12 => Option.bind (α := Int32 × Int32 × MJ) (if (I12 47 5) = 0 then (Option.bind (rdp 480 (Int32.ofNat i)) fun r15 => Option.bind (wr I12 r15 (0 : Int32) (Int32.ofNat (if nmO B n q 0 12 = 0 then nmV B n q else 0))) fun I16 => Option.bind (rdp 480 (Int32.ofNat i)) fun r17 => Option.bind (wr I16 r17 (1 : Int32) b11.1) fun I18 => some ((Int32.ofNat i + (1 : Int32)), (been ||| ((1 : Int32) <<< (Int32.ofNat (if nmO B n q 0 12 = 0 then nmV B n q else 0) &&& 31))), I18)) else some (Int32.ofNat i, been, I12)) fun b13 => Option.bind (f_m_blanks270 b13.2.2) fun I14 => some (Sum.inl (β := Int32 × MJ) (b13.1, b13.2.1, I14))) = R → bkM (Int32.ofNat i, been, Jm) = R := fun R h => by
        unfold bkM
        try dsimp only
        rw [if_pos hm.2.1, if_pos (by rw [h4, hm.1.2.1]; exact lt_l hq (by omega)), k1', ob_some]
        exact h
      rcases n3 with ⟨o1, n4, n5⟩ | ⟨o1, n4⟩
      · obtain ⟨o2, o3, o4, o5⟩ := nmO_0 o1
        rw [if_pos o1] at hCs hMs
        rcases k3 with ⟨-, k4⟩ | ⟨k4, -⟩
        · obtain ⟨D1, D2, D3, D4, D5, D6, D7, D8⟩ := hD
          have hge := nmE_gt o2 o3
          have hs1 := sk_le (B := B) hge.2
          have c37 : J2 37 (nmV B n q) = Jc 37 (nmV B n q) := by rw [n2 _ _ (by omega), x3 _ _ (by omega)]
          by_cases hb : bitF been (nmV B n q) = true
          · -- an hour twice
            obtain ⟨k, hk, e⟩ := (D3 _ o5).mp hb
            have hne : ¬ J2 37 (nmV B n q) = -1 := by
              rw [c37, ← e, D5 k hk, i_neg1 (by have := D1 k hk; omega)]
              exact id
            obtain ⟨J3, y1, y2, y3⟩ := x_fail_s (k := 2) (w := q) (J := J2) (by omega) n4.2.1
            obtain ⟨p, hp, ep⟩ := k4.2.2.2
            obtain ⟨K3, z1, z2, z3⟩ := m_wrong_s (B := B) (n := n) (k := 2) (w := q) (p := p) (J := K2) (by omega) k4.2.1 k4.1 hp ep.1
            obtain ⟨J4, t1, t2⟩ := bkC_tail (i := i) o5 (cX_ne y2)
            obtain ⟨K4, r1, r2, r3⟩ := bkM_tail (s1 := Int32.ofNat i) (s2 := been) (v := Int32.ofNat (nmV B n q)) z2
            refine bad J4 (Int32.ofNat i, been, K4) 2 q (hCs _ ?_) (hMs _ ?_) ⟨by omega, by rw [t2 1 5 (by decide) (by decide)]; exact y2.2.1, by rw [t2 1 6 (by decide) (by decide)]; exact y2.2.2⟩ r2 ?_ ?_
            · rw [at_37 o5, ob_some, if_neg hne, n5, show f_tap_fail50 2 (Int32.ofNat q) J2 = some J3 from y1, ob_some, ob_some]
              exact t1
            · rw [if_pos k4.2.1, m_has, ob_some, if_pos hb, if_neg (by decide), h4, show f_m_wrong278 2 (Int32.ofNat q) K2 = some K3 from z1, ob_some, ob_some]
              exact r1
            · intro a j h1 h2 h3
              rw [t2 a j h2 h3, y3 a j h1, n2 a j h1, x3 a j h1, f1 a j h1 h2 h3]
            · exact fmB_1 (fmB_1 (fmB_1 f2 k2) z3) r3
          · -- a new hour
            have hnk : ∀ k, k < i → bh k ≠ nmV B n q := fun k hk e => hb ((D3 _ o5).mpr ⟨k, hk, e⟩)
            have h37 : J2 37 (nmV B n q) = -1 := c37.trans (D6 _ o5 hnk)
            obtain ⟨J3, y1, y2, y3⟩ := xw_7 n4
            obtain ⟨K3, z1, z2, z3⟩ := m_skyHere k4
            have hC2 : ∀ R, (Option.bind (f_x_put15 37 (Int32.ofNat (nmV B n q)) (oI (wIx wLK (wdW B n (sk B n (nmE B n q))))) J3) fun I9 => Option.bind (f_tap_sign58 (59 : Int32) I9) fun I10 => some (Sum.inl (β := MJ) ((Int32.ofNat i + (1 : Int32)), (ab_up1 I10 35 4 ((I10 35 4) + (1 : Int32)))))) = R → bkC (Int32.ofNat i, Jc) = R := fun R h => hCs R (by
              rw [at_37 o5, ob_some, if_pos h37, ob_some, y1, ob_some]
              exact h)
            have hM2 : ∀ R, (Option.bind (f_m_sign285 (59 : Int32) K3) fun I12 => Option.bind (α := Int32 × Int32 × MJ) (if (I12 47 5) = 0 then (Option.bind (rdp 480 (Int32.ofNat i)) fun r15 => Option.bind (wr I12 r15 (0 : Int32) (Int32.ofNat (nmV B n q))) fun I16 => Option.bind (rdp 480 (Int32.ofNat i)) fun r17 => Option.bind (wr I16 r17 (1 : Int32) (Int32.ofNat ((wIx wLK (wdW B n (sk B n (nmE B n q)))).getD 0))) fun I18 => some ((Int32.ofNat i + (1 : Int32)), (been ||| ((1 : Int32) <<< (Int32.ofNat (nmV B n q) &&& 31))), I18)) else some (Int32.ofNat i, been, I12)) fun b13 => Option.bind (f_m_blanks270 b13.2.2) fun I14 => some (Sum.inl (β := Int32 × MJ) (b13.1, b13.2.1, I14))) = R → bkM (Int32.ofNat i, been, Jm) = R := fun R h => hMs R (by
              rw [if_pos k4.2.1, m_has, ob_some, if_neg hb, if_pos rfl, ob_some, if_pos k4.2.1, z1, ob_some, ob_some]
              exact h)
            rcases y3 with ⟨kd, y4, y5, y6⟩ | ⟨y4, y5⟩
            · rcases z3 with ⟨kd', z4, z5⟩ | ⟨z4, -⟩
              · rw [y4] at hC2 hM2
                have hkd : kd < 6 := wIx_lt _ _ _ y4
                have hs2 := wdE_ge (B := B) hs1.2
                have hs3 := sk_le (B := B) hs2.2
                have y5' : cR B n (ab_up1 J3 37 (nmV B n q) (Int32.ofNat kd)) (sk B n (wdE B n (sk B n (nmE B n q)))) := ⟨cE_up y5.1 (by omega) (by decide), by rw [up_ne (by omega)]; exact y5.2.1, by rw [up_ne (by omega)]; exact y5.2.2.1, by
                  obtain ⟨p, hp, e, e2⟩ := y5.2.2.2
                  exact ⟨p, hp, by rw [up_ne (by omega)]; exact e, e2⟩⟩
                obtain ⟨J5, t1, t2, t3⟩ := x_sign (c := 59) (by decide) y5'
                obtain ⟨K5, r1, r2, r3⟩ := m_sign (c := 59) (by decide) z5
                have fJ5 : ∀ a k, ¬ (a = 1 ∧ (k = 2 ∨ k = 4 ∨ k = 5 ∨ k = 6)) → ¬ (a = 37 ∧ k = nmV B n q) → J5 a k = Jc a k := fun a k h1 h2 => by rw [t2 a k h1, up_ne h2, y2 a k h1, n2 a k h1, x3 a k h1]
                have fK5 : fr47 Jm K5 := fr47_tr (fr47_tr k2 z2) r2
                rcases t3 with ⟨t4, t5, t6⟩ | ⟨t4, t5⟩
                · rcases r3 with ⟨-, -, r6⟩ | ⟨r4, -⟩
                  · have hi11 : i < 12 := by
                      have h1 := sN_one (t := fun h => if bitF been h = true then 1 else 0) (u := fun h => if bitF (been ||| ((1 : Int32) <<< (Int32.ofNat (nmV B n q) &&& 31))) h = true then 1 else 0) (h := nmV B n q) (n := 12) o5 (by
                        try dsimp only
                        rw [if_neg hb, bitF_or (by omega), bitF_one (by omega) (by omega), decide_eq_true rfl, Bool.or_true, if_pos rfl]) (fun k hk hne => by
                        try dsimp only
                        rw [bitF_or (by omega), bitF_one (by omega) (by omega), decide_eq_false hne, Bool.or_false])
                      have h2 : sN (fun h => if bitF (been ||| ((1 : Int32) <<< (Int32.ofNat (nmV B n q) &&& 31))) h = true then 1 else 0) 12 ≤ 1 * 12 := sN_le fun k _ => by split <;> omega
                      omega
                    -- the line stands
                    have w6 : mR B n (ab_up1 (ab_up1 K5 (481 + i) 0 (Int32.ofNat (nmV B n q))) (481 + i) 1 (Int32.ofNat kd)) (sk B n (sk B n (wdE B n (sk B n (nmE B n q))) + 1)) := ⟨mE_up (mE_up r6.1 (by omega) (by omega)) (by omega) (by omega), by rw [up_ne (by omega), up_ne (by omega)]; exact r6.2.1, by rw [up_ne (by omega), up_ne (by omega)]; exact r6.2.2.1, by
                      obtain ⟨p, hp, e, e2⟩ := r6.2.2.2
                      exact ⟨p, hp, by rw [up_ne (by omega), up_ne (by omega)]; exact e, e2⟩⟩
                    obtain ⟨v1, v2, v3, v4⟩ := mR_blanks w6
                    have hq3 := sk_le (B := B) (n := n) (p := sk B n (wdE B n (sk B n (nmE B n q))) + 1) (by omega)
                    have hCf : bkC (Int32.ofNat i, Jc) = some (.inl (Int32.ofNat (i + 1), ab_up1 J5 35 4 (Int32.ofNat (i + 1)))) := hC2 _ (by
                      rw [put_37 o5, ob_some, show f_tap_sign58 59 (ab_up1 J3 37 (nmV B n q) (oI (some kd))) = some J5 from t1, ob_some, fJ5 35 4 (by omega) (by omega), D8, i_addr])
                    have hMf : bkM (Int32.ofNat i, been, Jm) = some (.inl (Int32.ofNat (i + 1), been ||| ((1 : Int32) <<< (Int32.ofNat (nmV B n q) &&& 31)), ab_up1 (ab_up1 (ab_up1 K5 (481 + i) 0 (Int32.ofNat (nmV B n q))) (481 + i) 1 (Int32.ofNat kd)) 47 4 (Int32.ofNat (sk B n (sk B n (wdE B n (sk B n (nmE B n q))) + 1))))) := hM2 _ (by
                      rw [show f_m_sign285 59 K3 = some K5 from r1, ob_some, if_pos r6.2.1, rdp_480 hi11, ob_some, show wr K5 (481 + i) 0 _ = _ from wrr_480 (w := i) (k := 0) hi11 (by decide), ob_some, ob_some, show wr _ (481 + i) 1 _ = _ from wrr_480 (w := i) (k := 1) hi11 (by decide), ob_some, ob_some, i_addr]
                      try dsimp only
                      rw [show (some kd).getD 0 = kd from rfl, v3, ob_some])
                    rw [wh_inl hCf, wh_inl hMf]
                    refine book_run f (i + 1) _ (fun k => if k = i then nmV B n q else bh k) (fun k => if k = i then kd else bs k) _ _ _ (by omega) ?_ v4 up_eq ?_ ?_ ?_
                    · obtain ⟨p, hp, e, e2⟩ := t6.2.2.2
                      exact ⟨cE_up t6.1 (by decide) (by decide), by rw [up_ne (by omega)]; exact t6.2.1, by rw [up_ne (by omega)]; exact t6.2.2.1, p, hp, by rw [up_ne (by omega)]; exact e, e2⟩
                    · refine ⟨fun k hk => ?_, fun j k hj hk e => ?_, fun h hh => ?_, ?_, fun k hk => ?_, fun h hh hk => ?_, fun k hk => ?_, up_eq⟩
                      · try dsimp only
                        by_cases e : k = i
                        · rw [if_pos e, if_pos e]; exact ⟨o5, hkd⟩
                        · rw [if_neg e, if_neg e]; exact D1 k (by omega)
                      · dsimp only at e
                        by_cases ej : j = i
                        · by_cases ek : k = i
                          · omega
                          · rw [if_pos ej, if_neg ek] at e
                            exact absurd e.symm (hnk k (by omega))
                        · by_cases ek : k = i
                          · rw [if_neg ej, if_pos ek] at e
                            exact absurd e (hnk j (by omega))
                          · rw [if_neg ej, if_neg ek] at e
                            exact D2 j k (by omega) (by omega) e
                      · rw [bitF_or (by omega), bitF_one (by omega) (by omega), Bool.or_eq_true, decide_eq_true_iff, D3 h hh]
                        constructor
                        · rintro (⟨k, hk, e⟩ | e)
                          · exact ⟨k, by omega, (if_neg (by omega)).trans e⟩
                          · exact ⟨i, by omega, (if_pos rfl).trans e.symm⟩
                        · rintro ⟨k, hk, e⟩
                          dsimp only at e
                          by_cases ek : k = i
                          · rw [if_pos ek] at e
                            exact Or.inr e.symm
                          · rw [if_neg ek] at e
                            exact Or.inl ⟨k, by omega, e⟩
                      · rw [← sN_one (t := fun h => if bitF been h = true then 1 else 0) (h := nmV B n q) (n := 12) o5 (by
                          try dsimp only
                          rw [if_neg hb, bitF_or (by omega), bitF_one (by omega) (by omega), decide_eq_true rfl, Bool.or_true, if_pos rfl]) (fun k hk hne => by
                          try dsimp only
                          rw [bitF_or (by omega), bitF_one (by omega) (by omega), decide_eq_false hne, Bool.or_false]), D4]
                      · try dsimp only
                        by_cases e : k = i
                        · rw [if_pos e, if_pos e, up_ne (by omega), t2 _ _ (by omega), up_eq]
                        · rw [if_neg e, if_neg e, up_ne (by omega), fJ5 _ _ (by omega) (fun z => hnk k (by omega) z.2)]
                          exact D5 k (by omega)
                      · have e1 : ¬ h = nmV B n q := fun e => hk i (by omega) ((if_pos rfl).trans e.symm)
                        rw [up_ne (by omega), fJ5 _ _ (by omega) (fun z => e1 z.2)]
                        exact D6 h hh fun k hk2 e => hk k (by omega) ((if_neg (by omega)).trans e)
                      · try dsimp only
                        by_cases e : k = i
                        · subst e
                          rw [if_pos rfl, if_pos rfl, up_ne (by omega), up_ne (by omega), up_eq, up_ne (by omega), up_eq]
                          exact ⟨rfl, rfl⟩
                        · rw [if_neg e, if_neg e, up_ne (by omega), up_ne (by omega), up_ne (by omega), up_ne (by omega), up_ne (by omega), up_ne (by omega), fK5 _ _ (by omega), fK5 _ _ (by omega)]
                          exact D7 k (by omega)
                    · intro a k h1 h2 h3
                      rw [up_ne h3, fJ5 a k h1 (fun z => h2 z.1), f1 a k h1 h2 h3]
                    · intro a k h1 h2
                      rw [up_ne (by omega), up_ne (by omega), up_ne (by omega), fK5 a k h1, f2 a k h1 h2]
                  · exact absurd ⟨t4, t5⟩ r4
                · rcases r3 with ⟨r4, r5, -⟩ | ⟨-, r6⟩
                  · exact absurd ⟨r4, r5⟩ t4
                  · obtain ⟨K6, b1, b2, b3⟩ := mX_blanks r6
                    refine bad (ab_up1 J5 35 4 (J5 35 4 + 1)) (Int32.ofNat i, been, K6) 1 (sk B n (wdE B n (sk B n (nmE B n q)))) (hC2 _ ?_) (hM2 _ ?_) ⟨by omega, by rw [up_ne (by omega)]; exact t5.2.1, by rw [up_ne (by omega)]; exact t5.2.2⟩ b2 ?_ ?_
                    · rw [put_37 o5, ob_some, show f_tap_sign58 59 (ab_up1 J3 37 (nmV B n q) (oI (some kd))) = some J5 from t1, ob_some, i_addr]
                    · rw [show f_m_sign285 59 K3 = some K5 from r1, ob_some, if_neg (mX_ne r6), ob_some]
                      try dsimp only
                      rw [b1, ob_some]
                    · intro a k h1 h2 h3
                      rw [up_ne h3, fJ5 a k h1 (fun z => h2 z.1), f1 a k h1 h2 h3]
                    · exact fmB_1 (fmB_1 f2 fK5) b3
              · rw [y4] at z4; cases z4
            · rcases z3 with ⟨kd', z4, -⟩ | ⟨-, z5⟩
              · rw [y4] at z4; cases z4
              · rw [y4] at hC2 hM2
                have hJ : ¬ (ab_up1 J3 37 (nmV B n q) (oI none)) 1 5 = 0 := by rw [up_ne (by omega)]; exact cX_ne y5
                obtain ⟨K6, b1, b2, b3⟩ := mX_blanks z5
                refine bad (ab_up1 (ab_up1 J3 37 (nmV B n q) (oI none)) 35 4 ((ab_up1 J3 37 (nmV B n q) (oI none)) 35 4 + 1)) (Int32.ofNat i, been, K6) 1 (sk B n (nmE B n q)) (hC2 _ ?_) (hM2 _ ?_) ⟨by omega, by rw [up_ne (by omega), up_ne (by omega)]; exact y5.2.1, by rw [up_ne (by omega), up_ne (by omega)]; exact y5.2.2⟩ b2 ?_ ?_
                · rw [put_37 o5, ob_some, x_sign_f hJ, ob_some, i_addr]
                · rw [m_sign_f (mX_ne z5), ob_some, if_neg (mX_ne z5), ob_some]
                  try dsimp only
                  rw [b1, ob_some]
                · intro a k h1 h2 h3
                  rw [up_ne h3, up_ne (fun z => h2 z.1), y2 a k h1, n2 a k h1, x3 a k h1, f1 a k h1 h2 h3]
                · exact fmB_1 (fmB_1 (fmB_1 f2 k2) z2) b3
        · exact absurd o1 k4
      · rcases k3 with ⟨k4, -⟩ | ⟨-, k4⟩
        · exact absurd k4 o1
        · rw [if_neg o1] at hCs hMs
          obtain ⟨J4, t1, t2⟩ := bkC_tail (i := i) (v := 0) (by decide) (cX_ne n4)
          obtain ⟨K4, r1, r2, r3⟩ := bkM_tail (s1 := Int32.ofNat i) (s2 := been) (v := Int32.ofNat 0) k4
          refine bad J4 (Int32.ofNat i, been, K4) (nmO B n q 0 12) q (hCs _ ?_) (hMs _ ?_) ⟨n4.1, by rw [t2 1 5 (by decide) (by decide)]; exact n4.2.1, by rw [t2 1 6 (by decide) (by decide)]; exact n4.2.2⟩ r2 ?_ ?_
          · rw [at_37 (by decide), ob_some, x_fail_f (cX_ne n4), ob_some]
            have e : (if J2 37 0 = -1 then some J2 else some J2) = some J2 := by split <;> rfl
            rw [e, ob_some]
            exact t1
          · rw [if_neg (mX_ne k4), ob_some]
            exact r1
          · intro a j h1 h2 h3
            rw [t2 a j h2 h3, n2 a j h1, x3 a j h1, f1 a j h1 h2 h3]
          · exact fmB_1 (fmB_1 f2 k2) r3
    · -- no more
      rw [if_neg hq] at x1
      refine ⟨J1, (Int32.ofNat i, Jm), wh_inr ?_, wh_inr ?_, fcB_1 f1 x3, f2, Or.inl ⟨i, bh, bs, been, hi12, rfl, x2.2.1, x2.2.2.1, hm.2.1, ?_⟩⟩
      · unfold bkC
        try dsimp only
        rw [if_neg (show ¬ (12 : Int32) < Int32.ofNat i from nlt_l (a := 12) (by omega) (by decide) (by omega)), x1, ob_some, if_pos rfl]
      · unfold bkM
        try dsimp only
        rw [if_pos hm.2.1, if_neg (by rw [h4, hm.1.2.1]; exact nlt_l hq (by omega) (by omega))]
      · obtain ⟨D1, D2, D3, D4, D5, D6, D7, D8⟩ := hD
        exact ⟨D1, D2, D3, D4, fun k hk => by rw [x3 _ _ (by omega)]; exact D5 k hk, fun h hh hk => by rw [x3 _ _ (by omega)]; exact D6 h hh hk, D7, by rw [x3 _ _ (by omega)]; exact D8⟩
