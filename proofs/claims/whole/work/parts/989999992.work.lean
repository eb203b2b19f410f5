/-! work: read, kept, done -/
theorem rW16 : f_pla_readSteps95 16 = F_pla_readSteps95 (f_pla_readSteps95 15) := rfl
theorem dS16 : f_pla_doSteps101 16 = F_pla_doSteps101 (f_pla_doSteps101 15) := rfl
theorem gS16 : f_m_goes303 16 = F_m_goes303 (f_m_goes303 15) := rfl
theorem work_read {B : Nat → Nat} {n n1 n3 q : Nat} {C0 K0 : MJ} (hn : n ≤ 200) (h1 : n1 < 1000) (h3 : n3 < 1000) (h : TT B n (some q) C0 K0) (h4 : K0 47 4 = Int32.ofNat q) (h8 : K0 47 8 = Int32.ofNat 0) (hS : shN n1 n3 C0 K0) : ∃ st bc bm, f_pla_readFrom94 C0 = some bc ∧ wh (wpM (f_m_readsStep300 16)) (ab_up1 K0 47 34 0) = some bm ∧ TT B n st bc bm ∧ fcV 0 C0 bc ∧ fmV 0 K0 bm ∧ ∀ q', st = some q' → ∃ c, c ≤ 50 ∧ stN n1 n3 0 0 c bc bm := by
  obtain ⟨st, Kc, Km, a1, a2, a3, a4, a5, a6⟩ := wtop_run (B := B) (n := n) (rc := f_pla_readSteps95 15) (rm := f_m_readsStep300 15) hn h1 h3 (HCw_all hn h1 h3 15 0 (by omega) (by omega)) (n - q + 1) 0 q 0 (ab_up1 C0 29 1 0) (ab_up1 K0 47 34 0) (by omega) (Nat.zero_le _) (TT_mu (TT_cu h (by decide) (by decide)) (by omega) (by omega)) (by rw [up_ne (by omega)]; exact h4) (by rw [up_ne (by omega)]; exact h8) up_eq up_eq (by omega) ⟨by rw [up_ne (by omega)]; exact hS.1, by rw [up_ne (by omega)]; exact hS.2.1, by rw [up_ne (by omega)]; exact hS.2.2.1, by rw [up_ne (by omega)]; exact hS.2.2.2⟩
  refine ⟨st, Kc, Km, ?_, a2, a3, fun a k z1 z2 z3 => (a4 a k z1 z2 z3).trans (up_ne (by omega)), fun a k z1 z2 => (a5 a k z1 z2).trans (up_ne (by omega)), fun q' e => ?_⟩
  · unfold f_pla_readFrom94
    rw [rW16]
    unfold F_pla_readSteps95
    rw [b_some, b_some]
    exact a1
  · obtain ⟨c, z1, z2, z3⟩ := a6 q' e
    exact ⟨c, by omega, z3⟩
section WORKDO
variable {nb nc no tb ln c nk : Nat} {bk : Nat → Nat} {od pk : Nat → Nat → Nat} {ht : Nat → Nat} {cd hw vv : Nat → Int32} {bc bm : MJ} {r : Nat → Int32}
theorem work_do (hc : c ≤ 50) (hB : cxB nb nc no tb ln od pk ht cd hw vv) (hC : cxC nb nc no tb ln bk od pk cd bc) (hD : cxM nb nc no tb ln bk od pk hw vv bm) (hN : stN nc no 0 0 c bc bm) (hk : nk < 16) (e31 : bc 31 3 = Int32.ofNat nk) (e40 : bm 47 40 = Int32.ofNat nk) (hE : stE (bc 16) r) (hM : ∀ k, k < 91 → bm 576 k = r k) (hV : stV nb nc r) : ∃ Kc Km, (Option.bind (f_pas_keepWork99 bc) fun I9 => Option.bind (f_pla_begin100 I9) fun I10 => Option.bind (f_pla_doSteps101 16 (0 : Int32) (I10 29 1) (0 : Int32) I10) fun I11 => some (ab_up1 I11 0 13 (I11 29 4))) = some (ab_up1 Kc 0 13 (Kc 29 4)) ∧ (Option.bind (rdp 578 (bm 47 40)) fun r7 => Option.bind (f_m_copies302 576 r7 (ab_up1 bm 47 3 (-1 : Int32))) fun I8 => Option.bind (f_m_goes303 16 (0 : Int32) (I8 47 34) (ab_up1 (ab_up1 (ab_up1 (ab_up1 I8 47 40 ((I8 47 40) + (1 : Int32))) 47 46 (0 : Int32)) 47 47 (0 : Int32)) 47 41 (0 : Int32))) fun I9 => some ((I9 47 47), I9)) = some (Km 47 47, Km) ∧ gS nb nc Kc Km ∧ gN Kc Km ∧ (∀ a k, a ≠ 16 → a ≠ 18 → a ≠ 26 → a ≠ 27 → a ≠ 29 → a ≠ 32 → ¬ (a = 31 ∧ k = 3) → Kc a k = bc a k) ∧ Kc 31 3 = Int32.ofNat (nk + 1) ∧ (∀ k, Kc 32 k = if 91 * nk ≤ k ∧ k < 91 * nk + 91 then bc 16 (k - 91 * nk) else bc 32 k) ∧ (∀ a k, a ≠ 576 → a ≠ 599 → a ≠ 493 → a ≠ 494 → a ≠ 600 → ¬ (a = 47 ∧ (k = 3 ∨ k = 40 ∨ k = 41 ∨ k = 46 ∨ k = 47)) → a ≠ 579 + nk → Km a k = bm a k) ∧ Km 47 3 = -1 ∧ Km 47 40 = Int32.ofNat (nk + 1) ∧ ∀ k, k < 91 → Km (579 + nk) k = bm 576 k := by
  obtain ⟨s1, s2, s3, s4, ⟨f, s5⟩⟩ := hN
  have x1 : f_pas_keepWork99 bc = some (ab_up1 (ab_cpy bc 16 32 0 (91 * nk) 91) 31 3 (Int32.ofNat (nk + 1))) := by
    unfold f_pas_keepWork99
    rw [e31, show Int32.ofNat nk * (91 : Int32) = Int32.ofNat (91 * nk) by rw [Nat.mul_comm]; exact i_mulr (n := 91), show f_x_copy22 16 0 32 (Int32.ofNat (91 * nk)) 91 bc = some (ab_cpy bc 16 32 0 (91 * nk) 91) from copy_ok (a := 16) (b := 32) (la := 91) (lb := 1456) (sp := 0) (dp := 91 * nk) (n := 91) rfl rfl (by decide) (by decide) (by decide) (by omega) (by decide) (by decide), ob_some, cpy_ne (by decide), e31, show Int32.ofNat nk + (1 : Int32) = Int32.ofNat (nk + 1) from i_addr]
  have m1 : f_m_copies302 576 (579 + nk) (ab_up1 bm 47 3 (-1 : Int32)) = some (ab_cpy (ab_up1 bm 47 3 (-1)) 576 (579 + nk) 0 0 91) := copies_ok (la := 91) (lb := 91) rfl (KS_578 nk hk) (by decide) (by omega) (by decide) (by decide) (by omega)
  have m2 : (ab_cpy (ab_up1 bm 47 3 (-1)) 576 (579 + nk) 0 0 91) 47 40 = Int32.ofNat nk := by rw [cpy_ne (by omega), up_ne (by omega)]; exact e40
  have m3 : (ab_cpy (ab_up1 bm 47 3 (-1)) 576 (579 + nk) 0 0 91) 47 34 = Int32.ofNat c := by rw [cpy_ne (by omega), up_ne (by omega)]; exact s3
  generalize hC1 : ab_up1 (ab_up1 (ab_up1 (ab_up1 (ab_cpy bc 16 32 0 (91 * nk) 91) 31 3 (Int32.ofNat (nk + 1))) 29 2 0) 29 3 0) 29 4 0 = C1
  generalize hM1 : ab_up1 (ab_up1 (ab_up1 (ab_up1 (ab_cpy (ab_up1 bm 47 3 (-1)) 576 (579 + nk) 0 0 91) 47 40 (Int32.ofNat (nk + 1))) 47 46 0) 47 47 0) 47 41 0 = M1
  have cI : ∀ a k, ¬ (a = 29 ∧ (k = 2 ∨ k = 3 ∨ k = 4)) → ¬ (a = 31 ∧ k = 3) → a ≠ 32 → C1 a k = bc a k := fun a k z1 z2 z3 => by rw [← hC1, up_ne (by omega), up_ne (by omega), up_ne (by omega), up_ne (by omega), cpy_ne z3]
  have mI : ∀ a k, ¬ (a = 47 ∧ (k = 3 ∨ k = 40 ∨ k = 41 ∨ k = 46 ∨ k = 47)) → a ≠ 579 + nk → M1 a k = bm a k := fun a k z1 z2 => by rw [← hM1, up_ne (by omega), up_ne (by omega), up_ne (by omega), up_ne (by omega), cpy_ne z2, up_ne (by omega)]
  have n2 : C1 29 2 = Int32.ofNat 0 := by rw [← hC1, up_ne (by omega), up_ne (by omega), up_eq]; rfl
  have n3 : C1 29 3 = 0 := by rw [← hC1, up_ne (by omega), up_eq]
  have n4 : C1 29 4 = 0 := by rw [← hC1, up_eq]
  have p2 : M1 47 46 = Int32.ofNat 0 := by rw [← hM1, up_ne (by omega), up_ne (by omega), up_eq]; rfl
  have p3 : M1 47 47 = 0 := by rw [← hM1, up_ne (by omega), up_eq]
  have p4 : M1 47 41 = 0 := by rw [← hM1, up_eq]
  have q3 : M1 47 3 = -1 := by rw [← hM1, up_ne (by omega), up_ne (by omega), up_ne (by omega), up_ne (by omega), cpy_ne (by omega), up_eq]
  have q40 : M1 47 40 = Int32.ofNat (nk + 1) := by rw [← hM1, up_ne (by omega), up_ne (by omega), up_ne (by omega), up_eq]
  have c31 : C1 31 3 = Int32.ofNat (nk + 1) := by rw [← hC1, up_ne (by omega), up_ne (by omega), up_ne (by omega), up_eq]
  have c32 : ∀ k, C1 32 k = if 91 * nk ≤ k ∧ k < 91 * nk + 91 then bc 16 (k - 91 * nk) else bc 32 k := fun k => by rw [← hC1, up_ne (by omega), up_ne (by omega), up_ne (by omega), up_ne (by omega), cpy_at, Nat.zero_add]
  have q579 : ∀ k, k < 91 → M1 (579 + nk) k = bm 576 k := fun k hk => by rw [← hM1, up_ne (by omega), up_ne (by omega), up_ne (by omega), up_ne (by omega), cpy_at, if_pos ⟨Nat.zero_le _, by omega⟩, show 0 + (k - 0) = k by omega, up_ne (by omega)]
  have gk : gK nb nc no tb ln c bk od pk cd hw vv C1 M1 := ⟨cxC_c hC fun a k z => cI a k (by omega) (by omega) (by omega), cxM_c hB hD fun a k z => mI a k (by omega) (by omega), fun k hk => rowR_c (s4 k (Nat.zero_le _) hk) (fun j _ _ => cI _ _ (by omega) (by omega) (by omega)) (fun j => mI _ _ (by omega) (by omega))⟩
  have gs : gS nb nc C1 M1 := ⟨r, by rw [show C1 16 = bc 16 from funext fun k => cI 16 k (by omega) (by omega) (by omega)]; exact hE, fun k hk => by rw [mI 576 k (by omega) (by omega)]; exact hM k hk, hV⟩
  have gn : gN C1 M1 := ⟨⟨0, Nat.zero_le _, n2, p2⟩, by rw [n3, p3], by rw [n4, p4]⟩
  obtain ⟨Kc, Km, k1, k2, k3, k4, k5, k6⟩ := goes_it (nb := nb) (nc := nc) (bk := bk) (show c ≤ 64 by omega) hB f 0 0 c 15 C1 M1 (by omega) (by omega) (Nat.le_refl c) (WNf_c f 0 0 c s5 fun k j _ z2 => mI _ _ (by omega) (by omega)) gk gs gn
  refine ⟨Kc, Km, ?_, ?_, k5, k6, fun a k z1 z2 z3 z4 z5 z6 z7 => by rw [k3 a k z1 z2 z3 z4 (by omega), cI a k (by omega) z7 z6], by rw [k3 31 3 (by decide) (by decide) (by decide) (by decide) (by omega)]; exact c31, fun k => by rw [k3 32 k (by decide) (by decide) (by decide) (by decide) (by omega)]; exact c32 k, fun a k z1 z2 z3 z4 z5 z6 z7 => by rw [k4 a k z1 z2 z3 z4 z5 (by omega), mI a k z6 z7], by rw [k4 47 3 (by decide) (by decide) (by decide) (by decide) (by decide) (by omega)]; exact q3, by rw [k4 47 40 (by decide) (by decide) (by decide) (by decide) (by decide) (by omega)]; exact q40, fun k hk => by rw [k4 _ k (by omega) (by omega) (by omega) (by omega) (by omega) (by omega)]; exact q579 k hk⟩
  · rw [x1, ob_some]
    unfold f_pla_begin100
    rw [ob_some, hC1, show C1 29 1 = Int32.ofNat c from (cI 29 1 (by omega) (by omega) (by omega)).trans s2, dS16, dsC_eq, show wh (dsC (f_pla_doSteps101 15) (Int32.ofNat c) 0) (0, C1) = some Kc from k1, ob_some]
  · rw [e40, rdp_578 hk, ob_some, m1, ob_some, m2, m3, show Int32.ofNat nk + (1 : Int32) = Int32.ofNat (nk + 1) from i_addr, hM1, gS16, gsM_eq, show wh (gsM (f_m_goes303 15) (Int32.ofNat c)) (0, M1) = some Km from k2, ob_some]
end WORKDO
