/-! readers, second: bits, wants, fits, orders -/
section READ2
variable {I : MJ}
theorem x_holds {x : Int32} {k : Nat} : f_x_holds26 x (Int32.ofNat k) I = some (if bitF x k = true then 1 else 0) := by
  unfold f_x_holds26 bitF
  by_cases h : (x >>> (Int32.ofNat k &&& 31)) &&& 1 = 0
  · rw [if_pos h, decide_eq_false (by simp [h])]
    rfl
  · rw [if_neg h, decide_eq_true h]
    rfl
theorem m_has {x : Int32} {k : Nat} : f_m_has313 x (Int32.ofNat k) I = some (if bitF x k = true then 1 else 0) := by
  unfold f_m_has313 bitF
  rcases and1 (x >>> (Int32.ofNat k &&& 31)) with h | h
  · rw [h, if_neg (by decide), decide_eq_false (by simp)]
    rfl
  · rw [h, if_pos rfl, decide_eq_true (by decide)]
    rfl
theorem x_isTold {tb p : Nat} (e : I 19 3 = Int32.ofNat tb) (ht : tb < 64) (hp : p < 6) : f_pat_isTold25 (Int32.ofNat p) I = some (if tb.testBit p = true then 1 else 0) := by
  unfold f_pat_isTold25
  rw [e, x_holds, bitF_6 tb ht p hp]
  simp (disch := omega) only [i_add, i_addr, i_addl, i_mul, i_mulr, i_mull, i_lt, i_ltr, i_ltl, i_eq, i_eqr, i_eql, i_clamp, i_neg1, i_lt0, n_lt, n_nlt, n_eq, n_ne, ob_some, tb_inr, tb_inl, o_ite, nar_0, nar_1, nar_ite, if_true, if_false, hp]
  cases tb.testBit p <;> rfl
/-- are the cells F to T of one kind? -/
noncomputable def metF (r : Nat → Int32) (F T : Nat) (K : Int32) : Int32 := @ite _ (∀ k, F ≤ k → k < T + 1 → r k = K) (Classical.propDecidable _) 1 0
theorem metF_congr {r r' : Nat → Int32} {F T : Nat} {K : Int32} (h : ∀ k, k < T + 1 → r k = r' k) : metF r F T K = metF r' F T K := by
  unfold metF
  by_cases h1 : ∀ k, F ≤ k → k < T + 1 → r k = K
  · rw [if_pos h1, if_pos (fun k h2 h3 => (h k h3).symm.trans (h1 k h2 h3))]
  · rw [if_neg h1, if_neg (fun h4 => h1 (fun k h2 h3 => (h k h3).trans (h4 k h2 h3)))]
theorem x_isMet {nw : Nat} {wa : Nat → Nat → Nat} {w a n f : Nat} (hw : w < nw) (hn : nw ≤ 16) (hwa : ∀ w j, w < nw → j < 5 → I 7 (5 * w + j) = Int32.ofNat (wa w j)) (h12 : wa w 1 ≤ wa w 2) (h2 : wa w 2 ≤ 11) (hK : KS a = (100, n)) (ha : a < 699) (hn2 : n < 100000) (hf : f + 12 ≤ n) : f_sho_isMet158 (Int32.ofNat w) a (Int32.ofNat f) I = some (metF (fun h => I a (f + h)) (wa w 1) (wa w 2) (Int32.ofNat (wa w 3))) := by
  have hat : ∀ k, k < n → f_x_at16 a (Int32.ofNat k) I = some (I a k) := fun k hk => at_ok hK ha (by omega) hk
  have hp : ∀ j, j < 5 → f_sho_wantPart152 (Int32.ofNat w) (Int32.ofNat j) I = some (Int32.ofNat (wa w j)) := by
    intro j hj
    unfold f_sho_wantPart152
    simp (disch := omega) only [i_add, i_addr, i_addl, i_mul, i_mulr, i_mull, i_lt, i_ltr, i_ltl, i_eq, i_eqr, i_eql, i_clamp, i_neg1, i_lt0, n_lt, n_nlt, n_eq, n_ne, ob_some, tb_inr, tb_inl, o_ite, nar_0, nar_1, nar_ite, if_true, if_false, at_7]
    rw [hwa w j hw hj]
  have p1 : f_sho_wantPart152 (Int32.ofNat w) 1 I = _ := hp 1 (by decide)
  have p2 : f_sho_wantPart152 (Int32.ofNat w) 2 I = _ := hp 2 (by decide)
  have p3 : f_sho_wantPart152 (Int32.ofNat w) 3 I = _ := hp 3 (by decide)
  unfold f_sho_isMet158
  rw [p1, p2, ob_some, ob_some]
  have hl : (if Int32.ofNat (wa w 2) < 11 then Int32.ofNat (wa w 2) else 11) = Int32.ofNat (wa w 2) := by
    by_cases h : wa w 2 < 11
    · rw [if_pos (by simp (disch := omega) only [i_add, i_addr, i_addl, i_mul, i_mulr, i_mull, i_lt, i_ltr, i_ltl, i_eq, i_eqr, i_eql, i_clamp, i_neg1, i_lt0, n_lt, n_nlt, n_eq, n_ne, ob_some, tb_inr, tb_inl, o_ite, nar_0, nar_1, nar_ite, if_true, if_false])]
    · rw [if_neg (by simp (disch := omega) only [i_add, i_addr, i_addl, i_mul, i_mulr, i_mull, i_lt, i_ltr, i_ltl, i_eq, i_eqr, i_eql, i_clamp, i_neg1, i_lt0, n_lt, n_nlt, n_eq, n_ne, ob_some, tb_inr, tb_inl, o_ite, nar_0, nar_1, nar_ite, if_true, if_false]; exact not_false), show wa w 2 = 11 by omega]
      rfl
  rw [hl]
  refine wh_all (fun h => I a (f + h) = Int32.ofNat (wa w 3)) (wa w 1) (wa w 2 + 1) (by omega) (1 : Int32) (0 : Int32) ?_ ?_ ?_
  · intro k h3 h4 h5
    try dsimp only at h5
    simp (disch := omega) only [i_add, i_addr, i_addl, i_mul, i_mulr, i_mull, i_lt, i_ltr, i_ltl, i_eq, i_eqr, i_eql, i_clamp, i_neg1, i_lt0, n_lt, n_nlt, n_eq, n_ne, ob_some, tb_inr, tb_inl, o_ite, nar_0, nar_1, nar_ite, if_true, if_false, hat, p3, h5]
  · intro k h3 h4 h5
    try dsimp only at h5
    simp (disch := omega) only [i_add, i_addr, i_addl, i_mul, i_mulr, i_mull, i_lt, i_ltr, i_ltl, i_eq, i_eqr, i_eql, i_clamp, i_neg1, i_lt0, n_lt, n_nlt, n_eq, n_ne, ob_some, tb_inr, tb_inl, o_ite, nar_0, nar_1, nar_ite, if_true, if_false, hat, p3, h5]
  · simp (disch := omega) only [i_add, i_addr, i_addl, i_mul, i_mulr, i_mull, i_lt, i_ltr, i_ltl, i_eq, i_eqr, i_eql, i_clamp, i_neg1, i_lt0, n_lt, n_nlt, n_eq, n_ne, ob_some, tb_inr, tb_inl, o_ite, nar_0, nar_1, nar_ite, if_true, if_false]
theorem m_isMet {nw : Nat} {wa : Nat → Nat → Nat} {w a n f : Nat} (hw : w < nw) (hn : nw ≤ 16) (hwa : ∀ w j, w < nw → j < 5 → I (94 + w) j = Int32.ofNat (wa w j)) (h12 : wa w 1 ≤ wa w 2) (h2 : wa w 2 ≤ 11) (hK : KS a = (100, n)) (ha : a < 699) (hn2 : n < 100000) (hf : f + 12 ≤ n) : f_m_isMet332 a (Int32.ofNat f) (Int32.ofNat w) I = some (metF (fun h => I a (f + h)) (wa w 1) (wa w 2) (Int32.ofNat (wa w 3))) := by
  have hat : ∀ k, k < n → rd I a (Int32.ofNat k) = some (I a k) := fun k hk => rd_ok hK hk ha (by omega)
  have p1 := hwa w 1 hw (by decide)
  have p2 := hwa w 2 hw (by decide)
  have p3 := hwa w 3 hw (by decide)
  unfold f_m_isMet332
  simp (disch := omega) only [i_add, i_addr, i_addl, i_mul, i_mulr, i_mull, i_lt, i_ltr, i_ltl, i_eq, i_eqr, i_eql, i_clamp, i_neg1, i_lt0, n_lt, n_nlt, n_eq, n_ne, ob_some, tb_inr, tb_inl, o_ite, nar_0, nar_1, nar_ite, if_true, if_false, rdp_93, rdrl_93, p1]
  refine wh_all (fun h => I a (f + h) = Int32.ofNat (wa w 3)) (wa w 1) (wa w 2 + 1) (by omega) (1 : Int32) (0 : Int32) ?_ ?_ ?_
  · intro k h3 h4 h5
    try dsimp only at h5
    simp (disch := omega) only [i_add, i_addr, i_addl, i_mul, i_mulr, i_mull, i_lt, i_ltr, i_ltl, i_eq, i_eqr, i_eql, i_clamp, i_neg1, i_lt0, n_lt, n_nlt, n_eq, n_ne, ob_some, tb_inr, tb_inl, o_ite, nar_0, nar_1, nar_ite, if_true, if_false, rdp_93, rdrl_93, hat, p1, p2, p3, h5]
  · intro k h3 h4 h5
    try dsimp only at h5
    simp (disch := omega) only [i_add, i_addr, i_addl, i_mul, i_mulr, i_mull, i_lt, i_ltr, i_ltl, i_eq, i_eqr, i_eql, i_clamp, i_neg1, i_lt0, n_lt, n_nlt, n_eq, n_ne, ob_some, tb_inr, tb_inl, o_ite, nar_0, nar_1, nar_ite, if_true, if_false, rdp_93, rdrl_93, hat, p1, p2, p3, h5]
  · simp (disch := omega) only [i_add, i_addr, i_addl, i_mul, i_mulr, i_mull, i_lt, i_ltr, i_ltl, i_eq, i_eqr, i_eql, i_clamp, i_neg1, i_lt0, n_lt, n_nlt, n_eq, n_ne, ob_some, tb_inr, tb_inl, o_ite, nar_0, nar_1, nar_ite, if_true, if_false, rdp_93, rdrl_93, p2]
theorem ring1 (a b s : Int32) : -a * b + s = s - a * b := by grind
/-- what a row of 12 cells is worth to a client -/
noncomputable def fitF (nw se : Nat) (wa : Nat → Nat → Nat) (c : Nat) (r : Nat → Int32) : Int32 := sm (fun w => if wa w 0 = c then (if metF r (wa w 1) (wa w 2) (Int32.ofNat (wa w 3)) = 0 then 0 else Int32.ofNat (wa w 4)) else 0) nw - Int32.ofNat se * seamsF r
theorem fitF_congr {nw se : Nat} {wa : Nat → Nat → Nat} {c : Nat} {r r' : Nat → Int32} (hw : ∀ w, w < nw → wa w 2 ≤ 11) (h : ∀ k, k < 12 → r k = r' k) : fitF nw se wa c r = fitF nw se wa c r' := by
  unfold fitF
  have h1 : sm (fun w => if wa w 0 = c then (if metF r (wa w 1) (wa w 2) (Int32.ofNat (wa w 3)) = 0 then 0 else Int32.ofNat (wa w 4)) else 0) nw = sm (fun w => if wa w 0 = c then (if metF r' (wa w 1) (wa w 2) (Int32.ofNat (wa w 3)) = 0 then 0 else Int32.ofNat (wa w 4)) else 0) nw := sm_congr (fun w hw2 => by
    have h2 := hw w hw2
    rw [metF_congr (r := r) (r' := r') (fun k hk => h k (by omega))])
  rw [seamsF_congr h, h1]
theorem x_fitOf {nw se c : Nat} {wa : Nat → Nat → Nat} {a n f : Nat} (hn : nw ≤ 16) (e7 : I 3 7 = Int32.ofNat nw) (e9 : I 3 9 = Int32.ofNat se) (hc : c < 6) (hb : ∀ w, w < nw → wa w 0 < 6 ∧ wa w 1 ≤ wa w 2 ∧ wa w 2 ≤ 11) (hwa : ∀ w j, w < nw → j < 5 → I 7 (5 * w + j) = Int32.ofNat (wa w j)) (hK : KS a = (100, n)) (ha : a < 699) (hn2 : n < 100000) (hf : f + 12 ≤ n) : f_sho_fitOf177 (Int32.ofNat c) a (Int32.ofNat f) I = some (fitF nw se wa c (fun h => I a (f + h))) := by
  unfold f_sho_fitOf177
  rw [x_seamsOf hK ha hn2 hf, ob_some, e9]
  rw [wh_sumS (-(Int32.ofNat se) * seamsF (fun h => I a (f + h))) (fun w => if wa w 0 = c then (if metF (fun h => I a (f + h)) (wa w 1) (wa w 2) (Int32.ofNat (wa w 3)) = 0 then 0 else Int32.ofNat (wa w 4)) else 0) nw ?_ ?_]
  · rw [ob_some]
    exact congrArg some (ring1 _ _ _)
  · intro w hw s
    obtain ⟨b0, b1, b2⟩ := hb w hw
    have hp : ∀ j, j < 5 → f_sho_wantPart152 (Int32.ofNat w) (Int32.ofNat j) I = some (Int32.ofNat (wa w j)) := by
      intro j hj
      unfold f_sho_wantPart152
      simp (disch := omega) only [i_add, i_addr, i_addl, i_mul, i_mulr, i_mull, i_lt, i_ltr, i_ltl, i_eq, i_eqr, i_eql, i_clamp, i_neg1, i_lt0, n_lt, n_nlt, n_eq, n_ne, ob_some, tb_inr, tb_inl, o_ite, nar_0, nar_1, nar_ite, if_true, if_false, at_7]
      rw [hwa w j hw hj]
    have p0 : f_sho_wantPart152 (Int32.ofNat w) 0 I = _ := hp 0 (by decide)
    have p4 : f_sho_wantPart152 (Int32.ofNat w) 4 I = _ := hp 4 (by decide)
    simp (disch := omega) only [i_add, i_addr, i_addl, i_mul, i_mulr, i_mull, i_lt, i_ltr, i_ltl, i_eq, i_eqr, i_eql, i_clamp, i_neg1, i_lt0, n_lt, n_nlt, n_eq, n_ne, ob_some, tb_inr, tb_inl, o_ite, nar_0, nar_1, nar_ite, if_true, if_false, e7, hw, p0, p4, x_isMet hw hn hwa b1 b2 hK ha hn2 hf]
    by_cases h1 : wa w 0 = c
    · by_cases h2 : metF (fun h => I a (f + h)) (wa w 1) (wa w 2) (Int32.ofNat (wa w 3)) = 0
      · simp [h1, h2]
      · simp [h1, h2]
    · simp [h1]
  · intro s
    simp (disch := omega) only [i_add, i_addr, i_addl, i_mul, i_mulr, i_mull, i_lt, i_ltr, i_ltl, i_eq, i_eqr, i_eql, i_clamp, i_neg1, i_lt0, n_lt, n_nlt, n_eq, n_ne, ob_some, tb_inr, tb_inl, o_ite, nar_0, nar_1, nar_ite, if_true, if_false, e7]
theorem m_fitOf {nw se c : Nat} {wa : Nat → Nat → Nat} {a n f : Nat} (hn : nw ≤ 16) (e7 : I 51 2 = Int32.ofNat nw) (e9 : I 51 4 = Int32.ofNat se) (hc : c < 6) (hb : ∀ w, w < nw → wa w 0 < 6 ∧ wa w 1 ≤ wa w 2 ∧ wa w 2 ≤ 11) (hwa : ∀ w j, w < nw → j < 5 → I (94 + w) j = Int32.ofNat (wa w j)) (hK : KS a = (100, n)) (ha : a < 699) (hn2 : n < 100000) (hf : f + 12 ≤ n) : f_m_fitOf342 a (Int32.ofNat f) (Int32.ofNat c) I = some (fitF nw se wa c (fun h => I a (f + h))) := by
  unfold f_m_fitOf342
  rw [wh_sum0 (fun w => if wa w 0 = c then (if metF (fun h => I a (f + h)) (wa w 1) (wa w 2) (Int32.ofNat (wa w 3)) = 0 then 0 else Int32.ofNat (wa w 4)) else 0) nw ?_ ?_]
  · rw [ob_some, m_seamsOf hK ha hn2 hf, ob_some, e9]
    rfl
  · intro w hw s
    obtain ⟨b0, b1, b2⟩ := hb w hw
    have p0 := hwa w 0 hw (by decide)
    have p4 := hwa w 4 hw (by decide)
    simp (disch := omega) only [i_add, i_addr, i_addl, i_mul, i_mulr, i_mull, i_lt, i_ltr, i_ltl, i_eq, i_eqr, i_eql, i_clamp, i_neg1, i_lt0, n_lt, n_nlt, n_eq, n_ne, ob_some, tb_inr, tb_inl, o_ite, nar_0, nar_1, nar_ite, if_true, if_false, e7, hw, rdp_93, rdrl_93, p0, p4, m_isMet hw hn hwa b1 b2 hK ha hn2 hf]
  · intro s
    simp (disch := omega) only [i_add, i_addr, i_addl, i_mul, i_mulr, i_mull, i_lt, i_ltr, i_ltl, i_eq, i_eqr, i_eql, i_clamp, i_neg1, i_lt0, n_lt, n_nlt, n_eq, n_ne, ob_some, tb_inr, tb_inl, o_ite, nar_0, nar_1, nar_ite, if_true, if_false, e7]
end READ2
