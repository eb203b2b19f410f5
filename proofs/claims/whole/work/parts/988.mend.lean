/-! mend -/
theorem sm_natB {t : Nat → Int32} {B : Nat} (hB : B < 2147483648) : ∀ {n : Nat}, (∀ b, b < n → ∃ m, m ≤ B ∧ t b = Int32.ofNat m) → ∃ m, m ≤ B * n ∧ sm t n = Int32.ofNat m ∧ ((∀ b, b < n → t b = Int32.ofNat 0) → m = 0) ∧ (m = 0 → ∀ b, b < n → t b = Int32.ofNat 0)
  | 0, _ => ⟨0, by omega, rfl, fun _ => rfl, fun _ b hb => absurd hb (Nat.not_lt_zero b)⟩
  | n + 1, h => by
    obtain ⟨m, m1, m2, m3, m4⟩ := sm_natB hB (t := t) (n := n) (fun b hb => h b (by omega))
    obtain ⟨k, k1, k2⟩ := h n (by omega)
    refine ⟨m + k, by rw [Nat.mul_succ]; omega, ?_, fun h0 => ?_, fun h0 b hb => ?_⟩
    · show sm t n + t n = _
      rw [m2, k2, i_add]
    · have h1 := m3 (fun b hb => h0 b (by omega))
      have h2 := k2.symm.trans (h0 n (by omega))
      have h3 := (i_eq (b := 0) (by omega) (by decide)).mp h2
      omega
    · by_cases hbn : b = n
      · subst hbn
        rw [k2, show k = 0 by omega]
      · exact m4 (by omega) b (by omega)
theorem nB_ok {I : MJ} {x z : Int32} (h : (x &&& (z ^^^ (-1 : Int32))) = 0) : f_x_needBits199 x z I = some (.inr (), I) := by
  unfold f_x_needBits199
  rw [if_pos h]
theorem nB_no {I : MJ} {x z : Int32} (h : ¬ (x &&& (z ^^^ (-1 : Int32))) = 0) : f_x_needBits199 x z I = some (.inl 1, ab_up1 I 0 15 (I 0 15 + 1)) := by
  unfold f_x_needBits199
  rw [if_neg h]
  rfl
theorem bit_val {x : Int32} {k : Nat} : (x >>> (Int32.ofNat k &&& 31)) &&& (1 : Int32) = if bitF x k = true then 1 else 0 := by
  unfold bitF
  rcases and1 (x >>> (Int32.ofNat k &&& 31)) with h | h
  · rw [h]; rfl
  · rw [h]; rfl
def covT (wa : Nat → Nat → Nat) (bits : Int32) (h w : Nat) : Prop := bitF bits w = true ∧ wa w 1 ≤ h ∧ h ≤ wa w 2
theorem cov_eq {wa : Nat → Nat → Nat} {nw : Nat} {bits : Int32} (hN : ∀ a b, a < nw → b < a → bitF bits a = true → bitF bits b = true → clF wa a b = 0) {h w v : Nat} (hw : w < nw) (hv : v < nw) (h1 : covT wa bits h w) (h2 : covT wa bits h v) : wa w 3 = wa v 3 := by
  have key : ∀ a b, a < nw → b < a → covT wa bits h a → covT wa bits h b → wa a 3 = wa b 3 := by
    intro a b ha hb ⟨a1, a2, a3⟩ ⟨b1, b2, b3⟩
    have h0 := hN a b ha hb a1 b1
    unfold clF at h0
    by_cases e : wa a 3 = wa b 3
    · exact e
    · rw [if_neg e, if_neg (by omega), if_neg (by omega)] at h0
      exact absurd h0 (by decide)
  by_cases e : w = v
  · rw [e]
  · by_cases l : v < w
    · exact key w v hw l h1 h2
    · exact (key v w hv (by omega) h2 h1).symm
section MEND
variable {I : MJ} {nw : Nat} {wa : Nat → Nat → Nat} {bits : Int32}
theorem x_wantPart {w j : Nat} (hn : nw ≤ 16) (hw : w < nw) (hj : j < 5) (hwa : ∀ w j, w < nw → j < 5 → I 7 (5 * w + j) = Int32.ofNat (wa w j)) : f_sho_wantPart152 (Int32.ofNat w) (Int32.ofNat j) I = some (Int32.ofNat (wa w j)) := by
  unfold f_sho_wantPart152
  simp (disch := omega) only [i_add, i_addr, i_addl, i_mul, i_mulr, i_mull, i_lt, i_ltr, i_ltl, i_eq, i_eqr, i_eql, i_clamp, i_neg1, i_lt0, n_lt, n_nlt, n_eq, n_ne, ob_some, tb_inr, tb_inl, o_ite, nar_0, nar_1, nar_ite, if_true, if_false, Nat.reduceAdd, Nat.reduceMul, Nat.reduceSub, at_7]
  rw [hwa w j hw hj]
theorem x_covers {w h : Nat} (hn : nw ≤ 16) (hw : w < nw) (hh : h < 12) (hb : wa w 1 ≤ wa w 2 ∧ wa w 2 ≤ 11) (hwa : ∀ w j, w < nw → j < 5 → I 7 (5 * w + j) = Int32.ofNat (wa w j)) : f_sho_covers201 (Int32.ofNat w) (Int32.ofNat h) I = some (if wa w 1 ≤ h ∧ h ≤ wa w 2 then 1 else 0) := by
  have a1 : f_sho_wantPart152 (Int32.ofNat w) 1 I = _ := x_wantPart (j := 1) hn hw (by decide) hwa
  have a2 : f_sho_wantPart152 (Int32.ofNat w) 2 I = _ := x_wantPart (j := 2) hn hw (by decide) hwa
  unfold f_sho_covers201
  rw [a1, ob_some]
  by_cases h1 : h < wa w 1
  · rw [if_pos (lt_l h1 (by omega)), ob_some, if_neg (by omega)]
    rfl
  · rw [if_neg (nlt_l h1 (by omega) (by omega)), a2, ob_some]
    by_cases h2 : wa w 2 < h
    · rw [if_pos (lt_l h2 (by omega)), ob_some, if_neg (by omega)]
      rfl
    · rw [if_neg (nlt_l h2 (by omega) (by omega)), ob_some, if_pos (by omega)]
      rfl
/-- the kind that a told want asks for, or none does -/
theorem x_kindWanted {h : Nat} (hn : nw ≤ 16) (hh : h < 12) (e7 : I 3 7 = Int32.ofNat nw) (hb : ∀ w, w < nw → wa w 1 ≤ wa w 2 ∧ wa w 2 ≤ 11) (hwa : ∀ w j, w < nw → j < 5 → I 7 (5 * w + j) = Int32.ofNat (wa w j)) : ∃ v, f_sho_kindWanted200 bits (Int32.ofNat h) I = some v ∧ ((v = -1 ∧ ∀ w, w < nw → ¬ covT wa bits h w) ∨ ∃ w, w < nw ∧ covT wa bits h w ∧ v = Int32.ofNat (wa w 3)) := by
  unfold f_sho_kindWanted200
  refine wh_inv2 (fun i s => s = Int32.ofNat i ∧ ∀ w, w < i → ¬ covT wa bits h w) (fun v => (v = -1 ∧ ∀ w, w < nw → ¬ covT wa bits h w) ∨ ∃ w, w < nw ∧ covT wa bits h w ∧ v = Int32.ofNat (wa w 3)) nw ?_ ?_ ⟨rfl, fun w hw => absurd hw (Nat.not_lt_zero w)⟩
  · intro i hi s hs
    obtain ⟨rfl, hs⟩ := hs
    try dsimp only
    rw [if_pos (by rw [e7, i_lt (by omega) (by omega)]; exact hi), x_holds, ob_some]
    by_cases h1 : bitF bits i = true
    · rw [if_pos h1, if_neg (by decide), x_covers hn hi hh (hb i hi) hwa, ob_some]
      by_cases h2 : wa i 1 ≤ h ∧ h ≤ wa i 2
      · rw [if_pos h2, if_neg (by decide), show f_sho_wantPart152 (Int32.ofNat i) 3 I = _ from x_wantPart (j := 3) hn hi (by decide) hwa]
        exact Or.inr ⟨_, rfl, Or.inr ⟨i, hi, ⟨h1, h2⟩, rfl⟩⟩
      · rw [if_neg h2, if_pos rfl]
        refine Or.inl ⟨_, rfl, i_addr, fun w hw hc => ?_⟩
        by_cases hwi : w = i
        · subst hwi
          exact h2 hc.2
        · exact hs w (by omega) hc
    · rw [if_neg h1, if_pos rfl]
      refine Or.inl ⟨_, rfl, i_addr, fun w hw hc => ?_⟩
      by_cases hwi : w = i
      · subst hwi
        exact h1 hc.1
      · exact hs w (by omega) hc
  · intro s hs
    obtain ⟨rfl, hs⟩ := hs
    try dsimp only
    rw [if_neg (by rw [e7]; exact Int32.lt_irrefl)]
    exact ⟨_, rfl, Or.inl ⟨rfl, hs⟩⟩
end MEND
/-- an hour is to be altered -/
def altP (nw : Nat) (wa : Nat → Nat → Nat) (bits : Int32) (r : Nat → Int32) (h : Nat) : Prop := ∃ w, w < nw ∧ covT wa bits h w ∧ ¬ r h = Int32.ofNat (wa w 3)
noncomputable def altF (nw : Nat) (wa : Nat → Nat → Nat) (bits : Int32) (r : Nat → Int32) (h : Nat) : Int32 := @ite _ (altP nw wa bits r h) (Classical.propDecidable _) 1 0
theorem altF_1 {nw : Nat} {wa : Nat → Nat → Nat} {bits : Int32} {r : Nat → Int32} {h : Nat} (e : altP nw wa bits r h) : altF nw wa bits r h = 1 := if_pos e
theorem altF_0 {nw : Nat} {wa : Nat → Nat → Nat} {bits : Int32} {r : Nat → Int32} {h : Nat} (e : ¬ altP nw wa bits r h) : altF nw wa bits r h = 0 := if_neg e
set_option maxHeartbeats 1000000 in
theorem op_mend_ok : op_mend rel := by
  intro p q I hr
  have hr0 := hr
  obtain ⟨tn, bl, st, wa, od, tb, pk, ln, ht, nl, bh, bs, nk, ni, wt, u, hS, hD, hP, hL, hB, hK, hT, hC⟩ := hr
  obtain ⟨s1, s2, s3, s4, s5, s6, s7, s8, s9, s10, s11, s12, s13, s14, s15, s16, s17⟩ := hS
  obtain ⟨d1, d2⟩ := hD
  have t6 : I 3 6 = Int32.ofNat (tn 1) := s3 1 (by decide)
  have t7 : I 3 7 = Int32.ofNat (tn 2) := s3 2 (by decide)
  have u1 : I 51 1 = Int32.ofNat (tn 1) := s2 1 (by decide)
  have u2 : I 51 2 = Int32.ofNat (tn 2) := s2 2 (by decide)
  have v2 : (ab_up1 I 47 0 0) 51 2 = Int32.ofNat (tn 2) := u2
  have J13 : ∀ w j, w < tn 2 → j < 5 → (ab_up1 I 47 0 0) (94 + w) j = Int32.ofNat (wa w j) := fun w j hw hj => (up_ne (by omega)).trans (s13 w j hw hj)
  have J5 : ∀ k, (ab_up1 I 47 0 0) 576 k = I 576 k := fun k => up_ne (by omega)
  have hw3 : ∀ w, w < tn 2 → wa w 1 ≤ 11 ∧ wa w 2 ≤ 11 ∧ wa w 3 < 6 := fun w hw => by have := s12 w hw; omega
  have hw2 : ∀ w, w < tn 2 → wa w 1 ≤ wa w 2 ∧ wa w 2 ≤ 11 := fun w hw => by have := s12 w hw; omega
  rcases range_cases p (n := tn 1) (by omega) with ⟨c, hc, rfl⟩ | hp
  · have hc6 : c < 6 := by omega
    generalize hW : bo (fun w => if Int32.ofNat (wa w 0) = Int32.ofNat c then (1 : Int32) <<< (Int32.ofNat w &&& 31) else 0) (tn 2) = W
    have xw : f_sho_wantsOf151 (Int32.ofNat c) I = some W := by rw [x_wantsOf (by omega) t7 s14, hW]
    have mw : ∀ M : MJ, M 51 2 = Int32.ofNat (tn 2) → (∀ w j, w < tn 2 → j < 5 → M (94 + w) j = Int32.ofNat (wa w j)) → f_m_wantsOf329 (Int32.ofNat c) M = some W := fun M h1 h2 => by rw [m_wantsOf (by omega) h1 h2, hW]
    by_cases hq : (q &&& (W ^^^ (-1 : Int32))) = 0
    · by_cases h0 : I 576 (82 + c) = -1
      · refine qok0 hr0 (v := -1) ?_ ?_
        · unfold f_x_mend198
          rw [t6, nE_ok hc (by omega), tb_inr, xw, ob_some, nB_ok hq, tb_inr, x_hasSuit (t := 15) rfl (by decide) hc6, ob_some, stE_cut d1 hc6, if_pos h0, if_pos rfl]
        · unfold f_m_mend351
          rw [mC_ok (I := ab_up1 I 47 0 0) u1 hc (by omega), ob_some, if_neg (by decide), ob_some, bad_0 up_eq, ob_some, if_pos rfl]
          try dsimp only
          rw [mw _ v2 J13, ob_some, if_pos hq, ob_some, bad_0 up_eq, ob_some, if_pos rfl]
          try dsimp only
          rw [m_hasSuit (I := ab_up1 I 47 0 0) (a := 576) (n := 91) rfl (by decide) (by decide) hc6, ob_some, J5, if_pos h0, if_pos rfl]
      · -- the model's way, with or without a clash
        have r1 : ∀ w, w < tn 2 → rd (ab_up1 I 47 0 0) (94 + w) 1 = some (Int32.ofNat (wa w 1)) := fun w hw => by rw [show rd (ab_up1 I 47 0 0) (94 + w) 1 = some ((ab_up1 I 47 0 0) (94 + w) 1) from rdr_93 (w := w) (k := 1) (by omega) (by decide), J13 w 1 hw (by decide)]
        have r2 : ∀ w, w < tn 2 → rd (ab_up1 I 47 0 0) (94 + w) 2 = some (Int32.ofNat (wa w 2)) := fun w hw => by rw [show rd (ab_up1 I 47 0 0) (94 + w) 2 = some ((ab_up1 I 47 0 0) (94 + w) 2) from rdr_93 (w := w) (k := 2) (by omega) (by decide), J13 w 2 hw (by decide)]
        have r3 : ∀ w, w < tn 2 → rd (ab_up1 I 47 0 0) (94 + w) 3 = some (Int32.ofNat (wa w 3)) := fun w hw => by rw [show rd (ab_up1 I 47 0 0) (94 + w) 3 = some ((ab_up1 I 47 0 0) (94 + w) 3) from rdr_93 (w := w) (k := 3) (by omega) (by decide), J13 w 3 hw (by decide)]
        have hm : ∃ b : Int32 × MJ, f_m_mend351 (Int32.ofNat c) q I = some b ∧ b.2 = ab_up1 I 47 0 0 ∧ ((b.1 = -1 ∧ ∃ x z, x < tn 2 ∧ z < x ∧ bitF q x = true ∧ bitF q z = true ∧ clF wa x z = 1) ∨ ((∀ x z, x < tn 2 → z < x → bitF q x = true → bitF q z = true → clF wa x z = 0) ∧ b.1 = sm (altF (tn 2) wa q (fun h => I 576 (10 + 12 * c + h))) 12)) := by
          unfold f_m_mend351
          rw [mC_ok (I := ab_up1 I 47 0 0) u1 hc (by omega), ob_some, if_neg (by decide), ob_some, bad_0 up_eq, ob_some, if_pos rfl]
          try dsimp only
          rw [mw _ v2 J13, ob_some, if_pos hq, ob_some, bad_0 up_eq, ob_some, if_pos rfl]
          try dsimp only
          rw [m_hasSuit (I := ab_up1 I 47 0 0) (a := 576) (n := 91) rfl (by decide) (by decide) hc6, ob_some, J5, if_neg h0, if_neg (by decide)]
          refine wh_inv2 (fun a s => ∃ x : Int32, s = (x, Int32.ofNat a) ∧ (∀ h, h < 12 → (bitF x h = true ↔ ∃ w, w < a ∧ covT wa q h w ∧ ¬ I 576 (10 + 12 * c + h) = Int32.ofNat (wa w 3))) ∧ ∀ x z, x < a → z < x → bitF q x = true → bitF q z = true → clF wa x z = 0) _ (tn 2) ?_ ?_ ⟨0, rfl, fun h hh => ⟨fun e => (by rw [bitF_0 (by omega)] at e; cases e), fun z => by obtain ⟨w, hw, _⟩ := z; exact absurd hw (Nat.not_lt_zero w)⟩, fun x z hx => absurd hx (Nat.not_lt_zero x)⟩
          · intro a ha s hs
            obtain ⟨x, rfl, hx, hcl⟩ := hs
            try dsimp only
            rw [if_pos (by rw [v2, i_lt (by omega) (by omega)]; exact ha), m_has, ob_some]
            by_cases hb : bitF q a = true
            · rw [if_pos hb, if_neg (by decide)]
              -- the wants told ahead
              have inner := wh_inv2 (β := (Int32 × Int32) ⊕ (Int32 × MJ)) (f := fun (s10 : Int32) => (if s10 < Int32.ofNat a then (Option.bind (f_m_has313 q s10 (ab_up1 I 47 0 0)) fun v11 => (if v11 = 0 then some (.inl (s10 + (1 : Int32))) else (Option.bind (f_m_isClash350 (Int32.ofNat a) s10 (ab_up1 I 47 0 0)) fun v12 => (if v12 = 0 then some (.inl (s10 + (1 : Int32))) else some (.inr (.inr ((-1 : Int32), ab_up1 I 47 0 0))) ) ) ) ) else (Option.map Sum.inr ( (Option.bind (rdp 93 (Int32.ofNat a)) fun r13 => (Option.bind (rd (ab_up1 I 47 0 0) r13 (1 : Int32)) fun v14 => (Option.bind (wh (β := Int32) (fun (s15 : Int32 × Int32) => (Option.bind (rdp 93 (Int32.ofNat a)) fun r17 => (Option.bind (rd (ab_up1 I 47 0 0) r17 (2 : Int32)) fun v18 => (if v18 < s15.2 then some (.inr s15.1) else (Option.bind (f_m_suitOf310 (Int32.ofNat c) (ab_up1 I 47 0 0)) fun v19 => (Option.bind (rd (ab_up1 I 47 0 0) 576 (v19 + s15.2)) fun v20 => (Option.bind (rdp 93 (Int32.ofNat a)) fun r21 => (Option.bind (rd (ab_up1 I 47 0 0) r21 (3 : Int32)) fun v22 => (Option.bind (α := Int32) (if v20 = v22 then some (0 : Int32) else some ((1 : Int32) <<< (s15.2 &&& 31)) ) fun b23 => some (.inl ((s15.1 ||| b23), (s15.2 + (1 : Int32)))) ) ) ) ) ) ) ) ) ) (x, v14)) fun b16 => some (.inl (b16, (Int32.ofNat a + (1 : Int32)))) ) ) ) )) )) (fun z s => s = Int32.ofNat z ∧ ∀ y, y < z → bitF q y = true → clF wa a y = 0) (fun b => (b = .inr (-1, ab_up1 I 47 0 0) ∧ ∃ z, z < a ∧ bitF q z = true ∧ clF wa a z = 1) ∨ ∃ x', b = .inl (x', Int32.ofNat (a + 1)) ∧ (∀ h, h < 12 → (bitF x' h = true ↔ ∃ w, w < a + 1 ∧ covT wa q h w ∧ ¬ I 576 (10 + 12 * c + h) = Int32.ofNat (wa w 3))) ∧ ∀ y, y < a → bitF q y = true → clF wa a y = 0) a (fun z hz s hs => by
                obtain ⟨rfl, hs⟩ := hs
                try dsimp only
                rw [if_pos (by rw [i_lt (by omega) (by omega)]; exact hz), m_has, ob_some]
                by_cases hb2 : bitF q z = true
                · rw [if_pos hb2, if_neg (by decide), m_isClash (I := ab_up1 I 47 0 0) (nw := tn 2) (by omega) ha (by omega) hw3 J13, ob_some]
                  rcases clF_01 wa a z with e | e
                  · rw [e, if_pos rfl]
                    refine Or.inl ⟨_, rfl, i_addr, fun y hy hby => ?_⟩
                    by_cases hyz : y = z
                    · rw [hyz]; exact e
                    · exact hs y (by omega) hby
                  · rw [e, if_neg (by decide)]
                    exact Or.inr ⟨_, rfl, Or.inl ⟨rfl, z, hz, hb2, e⟩⟩
                · rw [if_neg hb2, if_pos rfl]
                  refine Or.inl ⟨_, rfl, i_addr, fun y hy hby => ?_⟩
                  by_cases hyz : y = z
                  · rw [hyz] at hby; exact absurd hby hb2
                  · exact hs y (by omega) hby) (fun s hs => by
                obtain ⟨rfl, hs⟩ := hs
                try dsimp only
                have h3 := s12 a ha
                obtain ⟨x', y1, y2⟩ : ∃ x', wh (β := Int32) (fun (s15 : Int32 × Int32) => (Option.bind (rdp 93 (Int32.ofNat a)) fun r17 => (Option.bind (rd (ab_up1 I 47 0 0) r17 (2 : Int32)) fun v18 => (if v18 < s15.2 then some (.inr s15.1) else (Option.bind (f_m_suitOf310 (Int32.ofNat c) (ab_up1 I 47 0 0)) fun v19 => (Option.bind (rd (ab_up1 I 47 0 0) 576 (v19 + s15.2)) fun v20 => (Option.bind (rdp 93 (Int32.ofNat a)) fun r21 => (Option.bind (rd (ab_up1 I 47 0 0) r21 (3 : Int32)) fun v22 => (Option.bind (α := Int32) (if v20 = v22 then some (0 : Int32) else some ((1 : Int32) <<< (s15.2 &&& 31)) ) fun b23 => some (.inl ((s15.1 ||| b23), (s15.2 + (1 : Int32)))) ) ) ) ) ) ) ) ) ) (x, Int32.ofNat (wa a 1)) = some x' ∧ ∀ h, h < 12 → (bitF x' h = true ↔ (bitF x h = true ∨ (wa a 1 ≤ h ∧ h ≤ wa a 2 ∧ ¬ I 576 (10 + 12 * c + h) = Int32.ofNat (wa a 3)))) := by
                  refine wh_inv (fun i s => ∃ x' : Int32, s = (x', Int32.ofNat (wa a 1 + i)) ∧ ∀ h, h < 12 → (bitF x' h = true ↔ (bitF x h = true ∨ (wa a 1 ≤ h ∧ h < wa a 1 + i ∧ ¬ I 576 (10 + 12 * c + h) = Int32.ofNat (wa a 3))))) (fun x' => ∀ h, h < 12 → (bitF x' h = true ↔ (bitF x h = true ∨ (wa a 1 ≤ h ∧ h ≤ wa a 2 ∧ ¬ I 576 (10 + 12 * c + h) = Int32.ofNat (wa a 3))))) (wa a 2 + 1 - wa a 1) ?_ ?_ ⟨x, rfl, fun h hh => ⟨Or.inl, fun e => e.elim id (fun e => by omega)⟩⟩
                  · intro i hi s hs
                    obtain ⟨x', rfl, hx'⟩ := hs
                    try dsimp only
                    have hh : wa a 1 + i < 12 := by omega
                    rw [rdp_93 (by omega), ob_some, r2 a ha, ob_some, if_neg (by rw [i_lt (by omega) (by omega)]; omega), m_suitOf, ob_some, i_add, rd_576 (by omega), ob_some, ob_some, r3 a ha, ob_some, J5]
                    by_cases e : I 576 (10 + 12 * c + (wa a 1 + i)) = Int32.ofNat (wa a 3)
                    · rw [if_pos e, ob_some]
                      refine ⟨_, rfl, _, Prod.ext rfl i_addr, fun h hh2 => ?_⟩
                      rw [bitF_or (by omega), bitF_0 (by omega), Bool.or_false, hx' h hh2]
                      refine ⟨fun z => z.elim Or.inl fun z => Or.inr ⟨z.1, by omega, z.2.2⟩, fun z => z.elim Or.inl fun z => Or.inr ⟨z.1, ?_, z.2.2⟩⟩
                      have : ¬ h = wa a 1 + i := fun e2 => z.2.2 (e2 ▸ e)
                      omega
                    · rw [if_neg e, ob_some]
                      refine ⟨_, rfl, _, Prod.ext rfl i_addr, fun h hh2 => ?_⟩
                      rw [bitF_or (by omega), bitF_one (by omega) (by omega), Bool.or_eq_true, hx' h hh2, decide_eq_true_iff]
                      refine ⟨fun z => z.elim (fun z => z.elim Or.inl fun z => Or.inr ⟨z.1, by omega, z.2.2⟩) (fun z => Or.inr ⟨by omega, by omega, by rw [z]; exact e⟩), fun z => z.elim (fun z => Or.inl (Or.inl z)) fun z => ?_⟩
                      by_cases e2 : h = wa a 1 + i
                      · exact Or.inr e2
                      · exact Or.inl (Or.inr ⟨z.1, by omega, z.2.2⟩)
                  · intro s hs
                    obtain ⟨x', rfl, hx'⟩ := hs
                    try dsimp only
                    rw [rdp_93 (by omega), ob_some, r2 a ha, ob_some, if_pos (by rw [i_lt (by omega) (by omega)]; omega)]
                    refine ⟨_, rfl, fun h hh => (hx' h hh).trans ⟨fun z => z.elim Or.inl fun z => Or.inr ⟨z.1, by omega, z.2.2⟩, fun z => z.elim Or.inl fun z => Or.inr ⟨z.1, by omega, z.2.2⟩⟩⟩
                rw [rdp_93 (by omega)] at y1
                rw [if_neg Int32.lt_irrefl, rdp_93 (by omega), ob_some, r1 a ha, ob_some, y1, ob_some]
                refine ⟨_, rfl, Or.inr ⟨x', by rw [i_addr], fun h hh => (y2 h hh).trans ⟨fun z => ?_, fun z => ?_⟩, hs⟩⟩
                · rcases z with z | ⟨z1, z2, z3⟩
                  · obtain ⟨w, w1, w2⟩ := (hx h hh).mp z
                    exact ⟨w, by omega, w2⟩
                  · exact ⟨a, by omega, ⟨hb, z1, z2⟩, z3⟩
                · obtain ⟨w, w1, w2, w3⟩ := z
                  by_cases hwa : w = a
                  · subst hwa
                    exact Or.inr ⟨w2.2.1, w2.2.2, w3⟩
                  · exact Or.inl ((hx h hh).mpr ⟨w, by omega, w2, w3⟩)) (s := (0 : Int32)) ⟨rfl, fun y hy => absurd hy (Nat.not_lt_zero y)⟩
              obtain ⟨b, b1, b2⟩ := inner
              rcases b2 with ⟨rfl, z, z1, z2, z3⟩ | ⟨x', rfl, z1, z2⟩
              · exact Or.inr ⟨_, b1, rfl, Or.inl ⟨rfl, a, z, ha, z1, hb, z2, z3⟩⟩
              · refine Or.inl ⟨_, b1, x', rfl, z1, fun y z hy hz b1 b2 => ?_⟩
                by_cases hya : y = a
                · subst hya
                  exact z2 z hz b2
                · exact hcl y z (by omega) hz b1 b2
            · rw [if_neg hb, if_pos rfl]
              refine Or.inl ⟨_, rfl, x, Prod.ext rfl i_addr, fun h hh => (hx h hh).trans ⟨fun ⟨w, w1, w2⟩ => ⟨w, by omega, w2⟩, fun ⟨w, w1, w2⟩ => ⟨w, ?_, w2⟩⟩, fun y z hy hz b1 b2 => ?_⟩
              · have : ¬ w = a := fun e => hb (e ▸ w2.1.1)
                omega
              · have : ¬ y = a := fun e => hb (e ▸ b1)
                exact hcl y z (by omega) hz b1 b2
          · intro s hs
            obtain ⟨x, rfl, hx, hcl⟩ := hs
            try dsimp only
            rw [if_neg (by rw [v2]; exact Int32.lt_irrefl), wh_sum0 (fun h => altF (tn 2) wa q (fun h => I 576 (10 + 12 * c + h)) h) 12 ?_ ?_]
            · exact ⟨_, rfl, rfl, Or.inr ⟨hcl, rfl⟩⟩
            · intro h hh s
              try dsimp only
              rw [if_pos (show Int32.ofNat h < (12 : Int32) from lt_l (a := h) (b := 12) (by omega) (by omega)), bit_val, i_addr]
              by_cases e : bitF x h = true
              · rw [if_pos e, altF_1 (show altP (tn 2) wa q (fun h => I 576 (10 + 12 * c + h)) h from (hx h hh).mp e)]
              · rw [if_neg e, altF_0 (fun (z : altP (tn 2) wa q (fun h => I 576 (10 + 12 * c + h)) h) => e ((hx h hh).mpr z))]
            · intro s
              exact if_neg (show ¬ Int32.ofNat 12 < (12 : Int32) by decide)
        obtain ⟨⟨v, K⟩, m1, m2, m3⟩ := hm
        dsimp only at m2 m3
        subst m2
        refine qok0 hr0 (v := v) ?_ m1
        unfold f_x_mend198
        rw [t6, nE_ok hc (by omega), tb_inr, xw, ob_some, nB_ok hq, tb_inr, x_hasSuit (t := 15) rfl (by decide) hc6, ob_some, stE_cut d1 hc6, if_neg h0, if_neg (by decide), x_clashesAmong (nw := tn 2) (wa := wa) (P := fun w => bitF q w = true) (d := fun w => inferInstance) (by omega) t7 hw3 s14 (fun w hw => by rw [Bool.decide_eq_true]), ob_some]
        have hc01 : ∀ i j, ∃ m, m ≤ 1 ∧ (if bitF q i = true then (if bitF q (i + 1 + j) = true then clF wa i (i + 1 + j) else 0) else 0) = Int32.ofNat m := fun i j => by
          by_cases b1 : bitF q i = true
          · by_cases b2 : bitF q (i + 1 + j) = true
            · rw [if_pos b1, if_pos b2]
              rcases clF_01 wa i (i + 1 + j) with e | e
              · exact ⟨0, by omega, e⟩
              · exact ⟨1, by omega, e⟩
            · rw [if_pos b1, if_neg b2]
              exact ⟨0, by omega, rfl⟩
          · rw [if_neg b1]
            exact ⟨0, by omega, rfl⟩
        obtain ⟨n, n1, n2, n3, n4⟩ := sm_natB (B := 16) (by decide) (n := tn 2) (t := fun i => sm (fun j => if bitF q i = true then (if bitF q (i + 1 + j) = true then clF wa i (i + 1 + j) else 0) else 0) (tn 2 - (i + 1))) (fun i hi => by
          obtain ⟨m, m1, m2, -⟩ := sm_natB (B := 1) (by decide) (n := tn 2 - (i + 1)) (t := fun j => if bitF q i = true then (if bitF q (i + 1 + j) = true then clF wa i (i + 1 + j) else 0) else 0) (fun j _ => hc01 i j)
          exact ⟨m, by omega, m2⟩)
        rw [n2]
        rcases m3 with ⟨rfl, x, z, hx, hz, b1, b2, e⟩ | ⟨hN, rfl⟩
        · have hn0 : n ≠ 0 := by
            intro h0
            have e1 := n4 h0 z (by omega)
            try dsimp only at e1
            obtain ⟨m, m1, m2, m3, m4⟩ := sm_natB (B := 1) (by decide) (n := tn 2 - (z + 1)) (t := fun j => if bitF q z = true then (if bitF q (z + 1 + j) = true then clF wa z (z + 1 + j) else 0) else 0) (fun j _ => hc01 z j)
            rw [m2] at e1
            have e2 := (i_eq (by omega) (by omega)).mp e1
            have e3 := m4 e2 (x - (z + 1)) (by omega)
            try dsimp only at e3
            rw [show z + 1 + (x - (z + 1)) = x by omega, if_pos b2, if_pos b1, clF_comm, e] at e3
            exact absurd e3 (by decide)
          rw [if_pos (show (0 : Int32) < Int32.ofNat n from lt_l (a := 0) (b := n) (by omega) (by omega))]
        · have hn0 : n = 0 := by
            refine n3 fun i hi => ?_
            refine sm_zero fun j hj => ?_
            try dsimp only
            by_cases b1 : bitF q i = true
            · by_cases b2 : bitF q (i + 1 + j) = true
              · rw [if_pos b1, if_pos b2, clF_comm]
                exact hN _ _ (by omega) (by omega) b2 b1
              · rw [if_pos b1, if_neg b2]
            · rw [if_neg b1]
          subst hn0
          rw [if_neg (by decide), wh_sum0 (altF (tn 2) wa q (fun h => I 576 (10 + 12 * c + h))) 12 ?_ ?_]
          · rfl
          · intro h hh s
            try dsimp only
            obtain ⟨v, y1, y2⟩ := x_kindWanted (I := I) (bits := q) (h := h) (nw := tn 2) (wa := wa) (by omega) hh t7 hw2 s14
            have hs := stE_suit d1 (j := 12 * c + h) (by omega)
            rw [if_pos (show Int32.ofNat h < (12 : Int32) from lt_l (a := h) (b := 12) (by omega) (by omega)), y1, ob_some]
            rcases y2 with ⟨rfl, y2⟩ | ⟨w, w1, w2, rfl⟩
            · rw [if_pos rfl, ob_some, i_addr, altF_0 (fun ⟨w, w1, w2, _⟩ => y2 w w1 w2)]
            · have h6 := hw3 w w1
              rw [if_neg (by rw [i_neg1 (by omega)]; exact id), x_worn (t := 15) rfl (by decide) hc6 hh, ob_some, show I (15 + 1) (19 + 12 * c + h) = I 576 (10 + 12 * c + h) from by rw [Nat.add_assoc, Nat.add_assoc 10]; exact hs]
              by_cases e : Int32.ofNat (wa w 3) = I 576 (10 + 12 * c + h)
              · rw [if_pos e, ob_some, i_addr, altF_0 (fun ⟨w', w1', w2', w3'⟩ => w3' (by show I 576 (10 + 12 * c + h) = _; rw [← e, cov_eq hN w1 w1' w2 w2']))]
              · rw [if_neg e, ob_some, i_addr, altF_1 ⟨w, w1, w2, fun z => e z.symm⟩]
          · intro s
            exact if_neg (show ¬ Int32.ofNat 12 < (12 : Int32) by decide)
    · refine qref (E := 1) (w := 2) (by decide) hr0 ?_ ?_ (Or.inr ⟨rfl, rfl⟩)
      · unfold f_x_mend198
        rw [t6, nE_ok hc (by omega), tb_inr, xw, ob_some, nB_no hq]
        rfl
      · unfold f_m_mend351
        rw [mC_ok (I := ab_up1 (ab_up1 I 0 (14 + 1) (I 0 (14 + 1) + 1)) 47 0 0) u1 hc (by omega), ob_some, if_neg (by decide), ob_some, bad_0 up_eq, ob_some, if_pos rfl]
        try dsimp only
        rw [mw (ab_up1 (ab_up1 I 0 (14 + 1) (I 0 (14 + 1) + 1)) 47 0 0) u2 (fun w j hw hj => by rw [up_ne (by omega), up_ne (by omega)]; exact s13 w j hw hj), ob_some, if_neg hq, ob_some, show f_m_bad268 1 2 1 _ = _ from bad_ref (E := 1) (by decide) (by decide)]
        rfl
  · refine qref (E := 0) (w := 1) (by decide) hr0 ?_ ?_ (Or.inl ⟨rfl, rfl⟩)
    · unfold f_x_mend198
      rw [t6, nE_no hp]
      rfl
    · unfold f_m_mend351
      rw [mC_no (I := ab_up1 (ab_up1 I 0 (14 + 0) (I 0 (14 + 0) + 1)) 47 0 0) u1 (by omega) hp, ob_some, if_pos rfl, ob_some, show f_m_bad268 1 1 0 _ = _ from bad_ref (E := 0) (by decide) (by decide)]
      rfl
