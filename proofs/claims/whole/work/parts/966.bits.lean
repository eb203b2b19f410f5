/-! bits of numbers -/
theorem bit_ix : ∀ k : Nat, k < 31 → (Int32.ofNat k &&& 31).toBitVec.smod 32 = BitVec.ofNat 32 k := by decide +kernel
theorem bitF_get {x : Int32} {k : Nat} (hk : k < 31) : bitF x k = x.toBitVec.getLsbD k := by
  have h1 : ((x >>> (Int32.ofNat k &&& 31)) &&& 1).toBitVec = (x.toBitVec.sshiftRight k) &&& 1#32 := by
    rw [Int32.toBitVec_and, Int32.toBitVec_shiftRight, bit_ix k hk]
    have h2 : BitVec.sshiftRight' x.toBitVec (BitVec.ofNat 32 k) = x.toBitVec.sshiftRight k := by
      unfold BitVec.sshiftRight'
      rw [BitVec.toNat_ofNat, Nat.mod_eq_of_lt (by omega)]
    rw [h2]
    rfl
  have h2 : (x.toBitVec.sshiftRight k).getLsbD 0 = x.toBitVec.getLsbD k := by
    rw [BitVec.getLsbD_sshiftRight]
    simp
    omega
  have h3 : ((x >>> (Int32.ofNat k &&& 31)) &&& 1 = 0) ↔ x.toBitVec.getLsbD k = false := by
    rw [← Int32.toBitVec_inj, h1, BitVec.and_one_eq_setWidth_ofBool_getLsbD, h2]
    cases x.toBitVec.getLsbD k
    · exact ⟨fun _ => rfl, fun _ => rfl⟩
    · exact ⟨fun h => absurd h (by decide), fun h => absurd h (by decide)⟩
  unfold bitF
  cases hb : x.toBitVec.getLsbD k
  · rw [decide_eq_false (by rw [h3, hb]; simp)]
  · rw [decide_eq_true (by rw [h3, hb]; simp)]
theorem bit_one : ∀ w : Nat, w < 31 → ∀ k : Nat, k < 31 → ((1 : Int32) <<< (Int32.ofNat w &&& 31)).toBitVec.getLsbD k = decide (k = w) := by decide +kernel
theorem bitF_or {x z : Int32} {k : Nat} (hk : k < 31) : bitF (x ||| z) k = (bitF x k || bitF z k) := by
  rw [bitF_get hk, bitF_get hk, bitF_get hk, Int32.toBitVec_or, BitVec.getLsbD_or]
theorem bitF_0 {k : Nat} (hk : k < 31) : bitF 0 k = false := by
  rw [bitF_get hk]
  exact BitVec.getLsbD_zero
theorem bitF_one {w k : Nat} (hw : w < 31) (hk : k < 31) : bitF ((1 : Int32) <<< (Int32.ofNat w &&& 31)) k = decide (k = w) := by
  rw [bitF_get hk]
  exact bit_one w hw k hk
/-- the bits of those below n of which P holds -/
theorem bitF_bo {P : Nat → Prop} {d : ∀ w, Decidable (P w)} {k : Nat} (hk : k < 31) : ∀ {n : Nat}, n ≤ 31 → bitF (bo (fun w => if P w then 1 <<< (Int32.ofNat w &&& 31) else 0) n) k = decide (k < n ∧ P k)
  | 0, _ => by
    show bitF 0 k = _
    rw [bitF_0 hk]
    simp
  | n + 1, hn => by
    show bitF (bo _ n ||| _) k = _
    rw [bitF_or hk, bitF_bo hk (n := n) (by omega)]
    dsimp only
    by_cases hP : P n
    · rw [if_pos hP, bitF_one (by omega) hk]
      by_cases hkn : k = n
      · subst hkn
        simp [hP]
      · have : (k < n + 1) = (k < n) := propext (by omega)
        simp [hkn, this]
    · rw [if_neg hP, bitF_0 hk]
      by_cases hkn : k = n
      · subst hkn
        simp [hP]
      · have : (k < n + 1) = (k < n) := propext (by omega)
        simp [this]
/-- do two wants clash? -/
def clF (wa : Nat → Nat → Nat) (a b : Nat) : Int32 := if wa a 3 = wa b 3 then 0 else if wa b 2 < wa a 1 then 0 else if wa a 2 < wa b 1 then 0 else 1
theorem clF_comm (wa : Nat → Nat → Nat) (a b : Nat) : clF wa a b = clF wa b a := by
  unfold clF
  by_cases h1 : wa a 3 = wa b 3
  · rw [if_pos h1, if_pos h1.symm]
  · have h1' : ¬ wa b 3 = wa a 3 := fun e => h1 e.symm
    by_cases h2 : wa b 2 < wa a 1 <;> by_cases h3 : wa a 2 < wa b 1 <;> simp [h1, h1', h2, h3]
theorem x_clash {I : MJ} {nw : Nat} {wa : Nat → Nat → Nat} {a b : Nat} (hn : nw ≤ 16) (ha : a < nw) (hb : b < nw) (hw : ∀ w, w < nw → wa w 1 ≤ 11 ∧ wa w 2 ≤ 11 ∧ wa w 3 < 6) (hwa : ∀ w j, w < nw → j < 5 → I 7 (5 * w + j) = Int32.ofNat (wa w j)) : f_sho_clash196 (Int32.ofNat a) (Int32.ofNat b) I = some (clF wa a b) := by
  have hp : ∀ w j, w < nw → j < 5 → f_sho_wantPart152 (Int32.ofNat w) (Int32.ofNat j) I = some (Int32.ofNat (wa w j)) := by
    intro w j hw hj
    unfold f_sho_wantPart152
    simp (disch := omega) only [i_add, i_addr, i_addl, i_mul, i_mulr, i_mull, i_lt, i_ltr, i_ltl, i_eq, i_eqr, i_eql, i_clamp, i_neg1, i_lt0, n_lt, n_nlt, n_eq, n_ne, ob_some, tb_inr, tb_inl, o_ite, nar_0, nar_1, nar_ite, if_true, if_false, Nat.reduceAdd, Nat.reduceMul, Nat.reduceSub, at_7]
    rw [hwa w j hw hj]
  have a1 : f_sho_wantPart152 (Int32.ofNat a) 1 I = _ := hp a 1 ha (by decide)
  have a2 : f_sho_wantPart152 (Int32.ofNat a) 2 I = _ := hp a 2 ha (by decide)
  have a3 : f_sho_wantPart152 (Int32.ofNat a) 3 I = _ := hp a 3 ha (by decide)
  have b1 : f_sho_wantPart152 (Int32.ofNat b) 1 I = _ := hp b 1 hb (by decide)
  have b2 : f_sho_wantPart152 (Int32.ofNat b) 2 I = _ := hp b 2 hb (by decide)
  have b3 : f_sho_wantPart152 (Int32.ofNat b) 3 I = _ := hp b 3 hb (by decide)
  have ca := hw a ha
  have cb := hw b hb
  unfold f_sho_clash196 clF
  simp (disch := omega) only [i_add, i_addr, i_addl, i_mul, i_mulr, i_mull, i_lt, i_ltr, i_ltl, i_eq, i_eqr, i_eql, i_clamp, i_neg1, i_lt0, n_lt, n_nlt, n_eq, n_ne, ob_some, tb_inr, tb_inl, o_ite, nar_0, nar_1, nar_ite, if_true, if_false, Nat.reduceAdd, Nat.reduceMul, Nat.reduceSub, a1, a2, a3, b1, b2, b3]
theorem m_isClash {I : MJ} {nw : Nat} {wa : Nat → Nat → Nat} {a b : Nat} (hn : nw ≤ 16) (ha : a < nw) (hb : b < nw) (hw : ∀ w, w < nw → wa w 1 ≤ 11 ∧ wa w 2 ≤ 11 ∧ wa w 3 < 6) (hwa : ∀ w j, w < nw → j < 5 → I (94 + w) j = Int32.ofNat (wa w j)) : f_m_isClash350 (Int32.ofNat a) (Int32.ofNat b) I = some (clF wa a b) := by
  have a1 := hwa a 1 ha (by decide)
  have a2 := hwa a 2 ha (by decide)
  have a3 := hwa a 3 ha (by decide)
  have b1 := hwa b 1 hb (by decide)
  have b2 := hwa b 2 hb (by decide)
  have b3 := hwa b 3 hb (by decide)
  have ca := hw a ha
  have cb := hw b hb
  unfold f_m_isClash350 clF
  simp (disch := omega) only [i_add, i_addr, i_addl, i_mul, i_mulr, i_mull, i_lt, i_ltr, i_ltl, i_eq, i_eqr, i_eql, i_clamp, i_neg1, i_lt0, n_lt, n_nlt, n_eq, n_ne, ob_some, tb_inr, tb_inl, o_ite, nar_0, nar_1, nar_ite, if_true, if_false, Nat.reduceAdd, Nat.reduceMul, Nat.reduceSub, rdp_93, rdrl_93, a1, a2, a3, b1, b2, b3]
theorem clF_01 (wa : Nat → Nat → Nat) (a b : Nat) : clF wa a b = 0 ∨ clF wa a b = 1 := by
  unfold clF
  by_cases h1 : wa a 3 = wa b 3 <;> by_cases h2 : wa b 2 < wa a 1 <;> by_cases h3 : wa a 2 < wa b 1 <;> simp [h1, h2, h3]
/-- clashes among those wants that P holds of, as the class counts them -/
theorem x_clashesAmong {I : MJ} {nw : Nat} {wa : Nat → Nat → Nat} {bits : Int32} {P : Nat → Prop} {d : ∀ w, Decidable (P w)} (hn : nw ≤ 16) (e7 : I 3 7 = Int32.ofNat nw) (hw : ∀ w, w < nw → wa w 1 ≤ 11 ∧ wa w 2 ≤ 11 ∧ wa w 3 < 6) (hwa : ∀ w j, w < nw → j < 5 → I 7 (5 * w + j) = Int32.ofNat (wa w j)) (hb : ∀ w, w < nw → bitF bits w = decide (P w)) : f_sho_clashesAmong195 bits I = some (sm (fun i => sm (fun j => if P i then (if P (i + 1 + j) then clF wa i (i + 1 + j) else 0) else 0) (nw - (i + 1))) nw) := by
  unfold f_sho_clashesAmong195
  rw [wh_sum0 (fun i => sm (fun j => if P i then (if P (i + 1 + j) then clF wa i (i + 1 + j) else 0) else 0) (nw - (i + 1))) nw ?_ ?_]
  · rfl
  · intro i hi s
    dsimp only
    rw [if_pos (by rw [e7, i_lt (by omega) (by omega)]; exact hi), show Int32.ofNat i + 1 = Int32.ofNat (i + 1) from i_addr (n := 1)]
    rw [wh_sumG s (fun b => if P i then (if P b then clF wa i b else 0) else 0) (i + 1) nw (by omega) ?_ ?_]
    · rfl
    · intro b hb1 hb2 s'
      dsimp only
      rw [if_pos (by rw [e7, i_lt (by omega) (by omega)]; exact hb2), x_holds, ob_some, hb i hi, x_holds, hb b hb2, x_clash hn hi hb2 hw hwa]
      by_cases h1 : P i
      · by_cases h2 : P b
        · rcases clF_01 wa i b with h3 | h3
          · simp only [h1, h2, h3, decide_true, if_true, ob_some]
            exact congrArg some (congrArg Sum.inl (Prod.ext rfl (i_addr (n := 1))))
          · simp only [h1, h2, h3, decide_true, if_true, ob_some]
            exact congrArg some (congrArg Sum.inl (Prod.ext rfl (i_addr (n := 1))))
        · simp only [h1, h2, decide_true, decide_false, if_true, if_false, ob_some]
          exact congrArg some (congrArg Sum.inl (Prod.ext rfl (i_addr (n := 1))))
      · simp only [h1, decide_false, if_false, ob_some]
        exact congrArg some (congrArg Sum.inl (Prod.ext rfl (i_addr (n := 1))))
    · intro s'
      exact if_neg (by rw [e7]; exact Int32.lt_irrefl)
  · intro s
    exact if_neg (by rw [e7]; exact Int32.lt_irrefl)
