/-! readers, third: orders, two rows alike -/
section READ3
variable {I : MJ}
theorem x_orderPart {no o j : Nat} {od : Nat → Nat → Nat} (ho : o < no) (hn : no ≤ 8) (hj : j < 5) (h : ∀ o j, o < no → j < 5 → I 8 (5 * o + j) = Int32.ofNat (od o j)) : f_sho_orderPart123 (Int32.ofNat o) (Int32.ofNat j) I = some (Int32.ofNat (od o j)) := by
  unfold f_sho_orderPart123
  simp (disch := omega) only [i_add, i_addr, i_addl, i_mul, i_mulr, i_mull, i_lt, i_ltr, i_ltl, i_eq, i_eqr, i_eql, i_clamp, i_neg1, i_lt0, n_lt, n_nlt, n_eq, n_ne, ob_some, tb_inr, tb_inl, o_ite, nar_0, nar_1, nar_ite, if_true, if_false, Nat.reduceAdd, Nat.reduceMul, Nat.reduceSub, at_8]
  rw [h o j ho hj]
/-- how an order stands: by what was sold, the day, its due day -/
def stF (sold day : Int32) (due o : Nat) : Int32 := if bitF sold o = true then 1 else if Int32.ofNat due < day then 2 else 0
theorem x_stateOf {no o : Nat} {od : Nat → Nat → Nat} (ho : o < no) (hn : no ≤ 8) (h : ∀ o j, o < no → j < 5 → I 8 (5 * o + j) = Int32.ofNat (od o j)) : f_tra_stateOf124 (Int32.ofNat o) I = some (stF (I 16 2) (I 16 0) (od o 2) o) := by
  have h2 : f_sho_orderPart123 (Int32.ofNat o) 2 I = _ := x_orderPart (j := 2) ho hn (by decide) h
  unfold f_tra_stateOf124 f_sta_isSold125 f_sta_day113 stF
  rw [show f_x_at16 16 2 I = some (I 16 2) from at_16 (k := 2) (by decide), show f_x_at16 (15 + 1) 0 I = some (I 16 0) from at_16 (k := 0) (by decide), ob_some, x_holds, h2]
  by_cases hb : bitF (I 16 2) o = true
  · rw [if_pos hb, if_pos hb]; rfl
  · rw [if_neg hb, if_neg hb]
    simp (disch := omega) only [i_add, i_addr, i_addl, i_mul, i_mulr, i_mull, i_lt, i_ltr, i_ltl, i_eq, i_eqr, i_eql, i_clamp, i_neg1, i_lt0, n_lt, n_nlt, n_eq, n_ne, ob_some, tb_inr, tb_inl, o_ite, nar_0, nar_1, nar_ite, if_true, if_false, Nat.reduceAdd, Nat.reduceMul, Nat.reduceSub]
theorem m_stateOf {a n no o : Nat} {od : Nat → Nat → Nat} (ho : o < no) (hn : no ≤ 8) (h : ∀ o j, o < no → j < 5 → I (120 + o) j = Int32.ofNat (od o j)) (hK : KS a = (100, n)) (ha : a < 699) (hn2 : 91 ≤ n ∧ n < 100000) : f_m_stateOf312 a (Int32.ofNat o) I = some (stF (I a 88) (I a 89) (od o 2) o) := by
  have hat : ∀ k, k < n → rd I a (Int32.ofNat k) = some (I a k) := fun k hk => rd_ok hK hk ha (by omega)
  have e2 := h o 2 ho (by decide)
  unfold f_m_stateOf312 stF
  rw [show rd I a 88 = some (I a 88) from hat 88 (by omega), show rd I a 89 = some (I a 89) from hat 89 (by omega), ob_some, m_has, ob_some]
  by_cases hb : bitF (I a 88) o = true
  · rw [if_pos hb, if_pos hb]; rfl
  · rw [if_neg hb, if_neg hb, if_pos rfl]
    simp (disch := omega) only [i_add, i_addr, i_addl, i_mul, i_mulr, i_mull, i_lt, i_ltr, i_ltl, i_eq, i_eqr, i_eql, i_clamp, i_neg1, i_lt0, n_lt, n_nlt, n_eq, n_ne, ob_some, tb_inr, tb_inl, o_ite, nar_0, nar_1, nar_ite, if_true, if_false, Nat.reduceAdd, Nat.reduceMul, Nat.reduceSub, rdp_119, rdrl_119, e2]
/-- two rows of 12 cells alike -/
noncomputable def alkF (r r' : Nat → Int32) : Int32 := @ite _ (∀ k, 0 ≤ k → k < 12 → r k = r' k) (Classical.propDecidable _) 1 0
theorem alkF_congr {r r' q q' : Nat → Int32} (h : ∀ k, k < 12 → r k = q k) (h' : ∀ k, k < 12 → r' k = q' k) : alkF r r' = alkF q q' := by
  unfold alkF
  by_cases h1 : ∀ k, 0 ≤ k → k < 12 → r k = r' k
  · rw [if_pos h1, if_pos (fun k h2 h3 => (h k h3).symm.trans ((h1 k h2 h3).trans (h' k h3)))]
  · rw [if_neg h1, if_neg (fun h4 => h1 (fun k h2 h3 => (h k h3).trans ((h4 k h2 h3).trans (h' k h3).symm)))]
theorem alkF_01 (r r' : Nat → Int32) : alkF r r' = 0 ∨ alkF r r' = 1 := by
  unfold alkF
  by_cases h1 : ∀ k, 0 ≤ k → k < 12 → r k = r' k
  · exact Or.inr (if_pos h1)
  · exact Or.inl (if_neg h1)
theorem x_alike {a b n m f g : Nat} (hK : KS a = (100, n)) (ha : a < 699) (hn : n < 100000) (hf : f + 12 ≤ n) (hK2 : KS b = (100, m)) (hb : b < 699) (hm : m < 100000) (hg : g + 12 ≤ m) : f_x_alike126 a (Int32.ofNat f) b (Int32.ofNat g) I = some (alkF (fun h => I a (f + h)) (fun h => I b (g + h))) := by
  have hat : ∀ k, k < n → f_x_at16 a (Int32.ofNat k) I = some (I a k) := fun k hk => at_ok hK ha (by omega) hk
  have hbt : ∀ k, k < m → f_x_at16 b (Int32.ofNat k) I = some (I b k) := fun k hk => at_ok hK2 hb (by omega) hk
  unfold f_x_alike126
  refine wh_all (fun h => I a (f + h) = I b (g + h)) 0 12 (by omega) (1 : Int32) (0 : Int32) ?_ ?_ ?_
  · intro k h3 h4 h5
    try dsimp only at h5
    simp (disch := omega) only [i_add, i_addr, i_addl, i_mul, i_mulr, i_mull, i_lt, i_ltr, i_ltl, i_eq, i_eqr, i_eql, i_clamp, i_neg1, i_lt0, n_lt, n_nlt, n_eq, n_ne, ob_some, tb_inr, tb_inl, o_ite, nar_0, nar_1, nar_ite, if_true, if_false, Nat.reduceAdd, Nat.reduceMul, Nat.reduceSub, hat, hbt, h5]
  · intro k h3 h4 h5
    try dsimp only at h5
    simp (disch := omega) only [i_add, i_addr, i_addl, i_mul, i_mulr, i_mull, i_lt, i_ltr, i_ltl, i_eq, i_eqr, i_eql, i_clamp, i_neg1, i_lt0, n_lt, n_nlt, n_eq, n_ne, ob_some, tb_inr, tb_inl, o_ite, nar_0, nar_1, nar_ite, if_true, if_false, Nat.reduceAdd, Nat.reduceMul, Nat.reduceSub, hat, hbt, h5]
  · rfl
/-- can an order be sold? -/
noncomputable def rdyF (st cut : Int32) (told : Bool) (al : Int32) : Int32 := if st = 0 then (if cut = -1 then 0 else if told = true then al else 0) else 0
theorem x_allowsSale {no o tb : Nat} {od : Nat → Nat → Nat} (ho : o < no) (hn : no ≤ 8) (hod : od o 0 < 6 ∧ od o 1 < 6) (h : ∀ o j, o < no → j < 5 → I 8 (5 * o + j) = Int32.ofNat (od o j)) (e19 : I 19 3 = Int32.ofNat tb) (ht : tb < 64) : f_tra_allowsSale122 (Int32.ofNat o) I = some (rdyF (stF (I 16 2) (I 16 0) (od o 2) o) (I 16 (3 + od o 0)) (tb.testBit (od o 1)) (alkF (fun h => I 16 (19 + 12 * od o 0 + h)) (fun h => I 20 (12 * od o 1 + h)))) := by
  obtain ⟨b0, b1⟩ := hod
  have p0 : f_sho_orderPart123 (Int32.ofNat o) 0 I = _ := x_orderPart (j := 0) ho hn (by decide) h
  have p1 : f_sho_orderPart123 (Int32.ofNat o) 1 I = _ := x_orderPart (j := 1) ho hn (by decide) h
  unfold f_tra_allowsSale122 rdyF
  rw [p0, p1, ob_some, ob_some, x_stateOf ho hn h, ob_some]
  by_cases h1 : stF (I 16 2) (I 16 0) (od o 2) o = 0
  · rw [if_pos h1, if_pos h1, x_hasSuit (t := 15) rfl (by decide) b0, ob_some]
    by_cases h2 : I 16 (3 + od o 0) = -1
    · rw [if_pos h2, if_pos h2]; rfl
    · rw [if_neg h2, if_neg h2, if_neg (by decide), x_isTold e19 ht b1, ob_some]
      by_cases h3 : (tb.testBit (od o 1)) = true
      · rw [if_pos h3, if_pos h3, if_neg (by decide)]
        have e1 : f_sta_suitAt114 15 (Int32.ofNat (od o 0)) I = some (Int32.ofNat (19 + 12 * od o 0)) := by
          unfold f_sta_suitAt114
          simp (disch := omega) only [i_add, i_addr, i_addl, i_mul, i_mulr, i_mull, i_lt, i_ltr, i_ltl, i_eq, i_eqr, i_eql, i_clamp, i_neg1, i_lt0, n_lt, n_nlt, n_eq, n_ne, ob_some, tb_inr, tb_inl, o_ite, nar_0, nar_1, nar_ite, if_true, if_false, Nat.reduceAdd, Nat.reduceMul, Nat.reduceSub]
        have e2 : (12 : Int32) * Int32.ofNat (od o 1) = Int32.ofNat (12 * od o 1) := by simp (disch := omega) only [i_add, i_addr, i_addl, i_mul, i_mulr, i_mull, i_lt, i_ltr, i_ltl, i_eq, i_eqr, i_eql, i_clamp, i_neg1, i_lt0, n_lt, n_nlt, n_eq, n_ne, ob_some, tb_inr, tb_inl, o_ite, nar_0, nar_1, nar_ite, if_true, if_false, Nat.reduceAdd, Nat.reduceMul, Nat.reduceSub]
        rw [e1, ob_some, e2, x_alike (a := 16) (n := 91) (b := 20) (m := 72) rfl (by decide) (by decide) (by omega) rfl (by decide) (by decide) (by omega), ob_some]
        rcases alkF_01 (fun h => I 16 (19 + 12 * od o 0 + h)) (fun h => I 20 (12 * od o 1 + h)) with h4 | h4 <;> rw [h4] <;> rfl
      · rw [if_neg h3, if_neg h3]; rfl
  · rw [if_neg h1, if_neg h1]; rfl
theorem m_isReady {no o tb : Nat} {od : Nat → Nat → Nat} (ho : o < no) (hn : no ≤ 8) (hod : od o 0 < 6 ∧ od o 1 < 6) (h : ∀ o j, o < no → j < 5 → I (120 + o) j = Int32.ofNat (od o j)) (h135 : ∀ p, p < 6 → I 135 p = if tb.testBit p then 1 else 0) {a n : Nat} (hK : KS a = (100, n)) (ha : a < 699) (hn2 : 91 ≤ n ∧ n < 100000) : f_m_isReady311 a (Int32.ofNat o) I = some (rdyF (stF (I a 88) (I a 89) (od o 2) o) (I a (82 + od o 0)) (tb.testBit (od o 1)) (alkF (fun h => I a (10 + 12 * od o 0 + h)) (fun h => I (129 + od o 1) h))) := by
  obtain ⟨b0, b1⟩ := hod
  have hat : ∀ k, k < n → rd I a (Int32.ofNat k) = some (I a k) := fun k hk => rd_ok hK hk ha (by omega)
  have e0 := h o 0 ho (by decide)
  have e1 := h o 1 ho (by decide)
  unfold f_m_isReady311 rdyF
  rw [rdp_119 (by omega), ob_some, show rd I (120 + o) 0 = some (I (120 + o) 0) from rdr_119 (w := o) (k := 0) (by omega) (by decide), ob_some, ob_some, show rd I (120 + o) 1 = some (I (120 + o) 1) from rdr_119 (w := o) (k := 1) (by omega) (by decide), ob_some, m_stateOf ho hn h hK ha hn2, ob_some, e0, e1]
  by_cases h1 : stF (I a 88) (I a 89) (od o 2) o = 0
  · rw [if_pos h1, if_pos h1, m_hasSuit hK ha hn2 b0, ob_some]
    by_cases h2 : I a (82 + od o 0) = -1
    · rw [if_pos h2, if_pos h2]; rfl
    · rw [if_neg h2, if_neg h2, if_neg (by decide), rdb_135 b1, ob_some, h135 _ b1]
      by_cases h3 : (tb.testBit (od o 1)) = true
      · rw [if_pos h3, if_pos h3, if_neg (by decide)]
        refine wh_all (fun h => I a (10 + 12 * od o 0 + h) = I (129 + od o 1) h) 0 12 (by omega) (1 : Int32) (0 : Int32) ?_ ?_ ?_
        · intro k h3 h4 h5
          try dsimp only at h5
          simp (disch := omega) only [i_add, i_addr, i_addl, i_mul, i_mulr, i_mull, i_lt, i_ltr, i_ltl, i_eq, i_eqr, i_eql, i_clamp, i_neg1, i_lt0, n_lt, n_nlt, n_eq, n_ne, ob_some, tb_inr, tb_inl, o_ite, nar_0, nar_1, nar_ite, if_true, if_false, Nat.reduceAdd, Nat.reduceMul, Nat.reduceSub, f_m_suitOf310, hat, rdp_128, rdr_128, h5]
        · intro k h3 h4 h5
          try dsimp only at h5
          simp (disch := omega) only [i_add, i_addr, i_addl, i_mul, i_mulr, i_mull, i_lt, i_ltr, i_ltl, i_eq, i_eqr, i_eql, i_clamp, i_neg1, i_lt0, n_lt, n_nlt, n_eq, n_ne, ob_some, tb_inr, tb_inl, o_ite, nar_0, nar_1, nar_ite, if_true, if_false, Nat.reduceAdd, Nat.reduceMul, Nat.reduceSub, f_m_suitOf310, hat, rdp_128, rdr_128, h5]
        · rfl
      · rw [if_neg h3, if_neg h3]; rfl
  · rw [if_neg h1, if_neg h1]
end READ3
