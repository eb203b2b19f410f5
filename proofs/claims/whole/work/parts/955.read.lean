/-! what readers of the class and of the model answer -/
section READ
variable {I : MJ}
/-- 12 cells from a place: seams, runs, hours of a kind -/
def seamsF (r : Nat → Int32) : Int32 := sm (fun h => if r (h + 1) = r h then 0 else 1) 11
def runsF (r : Nat → Int32) : Int32 := sm (fun h => if r h = 6 then 0 else if h = 0 then 1 else if r h = r (h - 1) then 0 else 1) 12
def hoursF (r : Nat → Int32) (k : Int32) : Int32 := sm (fun h => if r h = k then 1 else 0) 12
theorem seamsF_congr {r r' : Nat → Int32} (h : ∀ k, k < 12 → r k = r' k) : seamsF r = seamsF r' := sm_congr (fun k hk => by (try dsimp only); rw [h k (by omega), h (k + 1) (by omega)])
theorem runsF_congr {r r' : Nat → Int32} (h : ∀ k, k < 12 → r k = r' k) : runsF r = runsF r' := sm_congr (fun k hk => by (try dsimp only); rw [h k (by omega), h (k - 1) (by omega)])
theorem hoursF_congr {r r' : Nat → Int32} {x : Int32} (h : ∀ k, k < 12 → r k = r' k) : hoursF r x = hoursF r' x := sm_congr (fun k hk => by (try dsimp only); rw [h k hk])
theorem x_seamsOf {a n f : Nat} (hK : KS a = (100, n)) (ha : a < 699) (hn : n < 100000) (hf : f + 12 ≤ n) : f_x_seamsOf133 a (Int32.ofNat f) I = some (seamsF (fun h => I a (f + h))) := by
  have hat : ∀ k, k < n → f_x_at16 a (Int32.ofNat k) I = some (I a k) := fun k hk => at_ok hK ha (by omega) hk
  unfold f_x_seamsOf133
  rw [wh_sum1 (fun h => if I a (f + (h + 1)) = I a (f + h) then 0 else 1) 11 ?_ ?_]
  · rfl
  · intro k hk s
    simp (disch := omega) only [i_add, i_addr, i_addl, i_mul, i_mulr, i_mull, i_lt, i_ltr, i_ltl, i_eq, i_eqr, i_eql, i_clamp, i_neg1, i_lt0, n_lt, n_nlt, n_eq, n_ne, ob_some, tb_inr, tb_inl, o_ite, nar_0, nar_1, nar_ite, if_true, if_false, hat, i_subr]
    rw [show f + (k + 1) - 1 = f + k by omega]
  · intro s; rfl
theorem x_runsOf {a n f : Nat} (hK : KS a = (100, n)) (ha : a < 699) (hn : n < 100000) (hf : f + 12 ≤ n) : f_x_runsOf79 a (Int32.ofNat f) I = some (runsF (fun h => I a (f + h))) := by
  have hat : ∀ k, k < n → f_x_at16 a (Int32.ofNat k) I = some (I a k) := fun k hk => at_ok hK ha (by omega) hk
  unfold f_x_runsOf79
  rw [wh_sum0 (fun h => if I a (f + h) = 6 then 0 else if h = 0 then 1 else if I a (f + h) = I a (f + (h - 1)) then 0 else 1) 12 ?_ ?_]
  · rfl
  · intro k hk s
    by_cases h0 : k = 0
    · subst h0
      simp (disch := omega) only [i_add, i_addr, i_addl, i_mul, i_mulr, i_mull, i_lt, i_ltr, i_ltl, i_eq, i_eqr, i_eql, i_clamp, i_neg1, i_lt0, n_lt, n_nlt, n_eq, n_ne, ob_some, tb_inr, tb_inl, o_ite, nar_0, nar_1, nar_ite, if_true, if_false, hat]
      by_cases h6 : I a (f + 0) = 6
      · simp [h6]
      · simp [h6]
    · simp (disch := omega) only [i_add, i_addr, i_addl, i_mul, i_mulr, i_mull, i_lt, i_ltr, i_ltl, i_eq, i_eqr, i_eql, i_clamp, i_neg1, i_lt0, n_lt, n_nlt, n_eq, n_ne, ob_some, tb_inr, tb_inl, o_ite, nar_0, nar_1, nar_ite, if_true, if_false, hat, i_subr, h0]
      rw [show f + k - 1 = f + (k - 1) by omega]
      by_cases h6 : I a (f + k) = 6 <;> by_cases h7 : I a (f + k) = I a (f + (k - 1)) <;> simp [h6, h7]
  · intro s; rfl
theorem x_hoursOf {a n f : Nat} {x : Int32} (hK : KS a = (100, n)) (ha : a < 699) (hn : n < 100000) (hf : f + 12 ≤ n) : f_x_hoursOf155 a (Int32.ofNat f) x I = some (hoursF (fun h => I a (f + h)) x) := by
  have hat : ∀ k, k < n → f_x_at16 a (Int32.ofNat k) I = some (I a k) := fun k hk => at_ok hK ha (by omega) hk
  unfold f_x_hoursOf155
  rw [wh_sum0 (fun h => if I a (f + h) = x then 1 else 0) 12 ?_ ?_]
  · rfl
  · intro k hk s
    simp (disch := omega) only [i_add, i_addr, i_addl, i_mul, i_mulr, i_mull, i_lt, i_ltr, i_ltl, i_eq, i_eqr, i_eql, i_clamp, i_neg1, i_lt0, n_lt, n_nlt, n_eq, n_ne, ob_some, tb_inr, tb_inl, o_ite, nar_0, nar_1, nar_ite, if_true, if_false, hat]
  · intro s; rfl
theorem m_seamsOf {a n f : Nat} (hK : KS a = (100, n)) (ha : a < 699) (hn : n < 100000) (hf : f + 12 ≤ n) : f_m_seamsOf316 a (Int32.ofNat f) I = some (seamsF (fun h => I a (f + h))) := by
  have hat : ∀ k, k < n → rd I a (Int32.ofNat k) = some (I a k) := fun k hk => rd_ok hK hk ha (by omega)
  unfold f_m_seamsOf316
  rw [wh_sum1 (fun h => if I a (f + (h + 1)) = I a (f + h) then 0 else 1) 11 ?_ ?_]
  · rfl
  · intro k hk s
    simp (disch := omega) only [i_add, i_addr, i_addl, i_mul, i_mulr, i_mull, i_lt, i_ltr, i_ltl, i_eq, i_eqr, i_eql, i_clamp, i_neg1, i_lt0, n_lt, n_nlt, n_eq, n_ne, ob_some, tb_inr, tb_inl, o_ite, nar_0, nar_1, nar_ite, if_true, if_false, hat, i_subr]
    rw [show f + (k + 1) - 1 = f + k by omega]
  · intro s; rfl
theorem m_runsOf {a n f : Nat} (hK : KS a = (100, n)) (ha : a < 699) (hn : n < 100000) (hf : f + 12 ≤ n) : f_m_runsOf291 a (Int32.ofNat f) I = some (runsF (fun h => I a (f + h))) := by
  have hat : ∀ k, k < n → rd I a (Int32.ofNat k) = some (I a k) := fun k hk => rd_ok hK hk ha (by omega)
  unfold f_m_runsOf291
  rw [wh_sum0 (fun h => if I a (f + h) = 6 then 0 else if h = 0 then 1 else if I a (f + h) = I a (f + (h - 1)) then 0 else 1) 12 ?_ ?_]
  · rfl
  · intro k hk s
    by_cases h0 : k = 0
    · subst h0
      simp (disch := omega) only [i_add, i_addr, i_addl, i_mul, i_mulr, i_mull, i_lt, i_ltr, i_ltl, i_eq, i_eqr, i_eql, i_clamp, i_neg1, i_lt0, n_lt, n_nlt, n_eq, n_ne, ob_some, tb_inr, tb_inl, o_ite, nar_0, nar_1, nar_ite, if_true, if_false, hat]
    · simp (disch := omega) only [i_add, i_addr, i_addl, i_mul, i_mulr, i_mull, i_lt, i_ltr, i_ltl, i_eq, i_eqr, i_eql, i_clamp, i_neg1, i_lt0, n_lt, n_nlt, n_eq, n_ne, ob_some, tb_inr, tb_inl, o_ite, nar_0, nar_1, nar_ite, if_true, if_false, hat, i_subr, h0]
      rw [show f + k - 1 = f + (k - 1) by omega]
  · intro s; rfl
theorem m_bareOf {a n c : Nat} (hK : KS a = (100, n)) (ha : a < 699) (hn : n < 100000) (hf : 10 + 12 * c + 12 ≤ n) : f_m_bareOf330 a (Int32.ofNat c) I = some (hoursF (fun h => I a (10 + 12 * c + h)) 6) := by
  have hat : ∀ k, k < n → rd I a (Int32.ofNat k) = some (I a k) := fun k hk => rd_ok hK hk ha (by omega)
  unfold f_m_bareOf330
  rw [wh_sum0 (fun h => if I a (10 + 12 * c + h) = 6 then 1 else 0) 12 ?_ ?_]
  · rfl
  · intro k hk s
    simp (disch := omega) only [i_add, i_addr, i_addl, i_mul, i_mulr, i_mull, i_lt, i_ltr, i_ltl, i_eq, i_eqr, i_eql, i_clamp, i_neg1, i_lt0, n_lt, n_nlt, n_eq, n_ne, ob_some, tb_inr, tb_inl, o_ite, nar_0, nar_1, nar_ite, if_true, if_false, f_m_suitOf310, hat]
  · intro s; rfl
theorem x_hoursLeft {t : Nat} (hK : KS (t + 1) = (100, 91)) (ha : t + 1 < 699) : f_sta_hoursLeft142 t I = some (sm (fun b => I (t + 1) (9 + b)) 10) := by
  have hat : ∀ k, k < 91 → f_x_at16 (t + 1) (Int32.ofNat k) I = some (I (t + 1) k) := fun k hk => at_ok hK ha (by decide) hk
  unfold f_sta_hoursLeft142
  rw [wh_sum0 (fun b => I (t + 1) (9 + b)) 10 ?_ ?_]
  · rfl
  · intro k hk s
    simp (disch := omega) only [i_add, i_addr, i_addl, i_mul, i_mulr, i_mull, i_lt, i_ltr, i_ltl, i_eq, i_eqr, i_eql, i_clamp, i_neg1, i_lt0, n_lt, n_nlt, n_eq, n_ne, ob_some, tb_inr, tb_inl, o_ite, nar_0, nar_1, nar_ite, if_true, if_false, f_sta_leftOn143, hat]
  · intro s; rfl
theorem x_hasSuit {t c : Nat} (hK : KS (t + 1) = (100, 91)) (ha : t + 1 < 699) (hc : c < 6) : f_sta_hasSuit108 t (Int32.ofNat c) I = some (if I (t + 1) (3 + c) = -1 then 0 else 1) := by
  have hat : ∀ k, k < 91 → f_x_at16 (t + 1) (Int32.ofNat k) I = some (I (t + 1) k) := fun k hk => at_ok hK ha (by decide) hk
  unfold f_sta_hasSuit108
  simp (disch := omega) only [i_add, i_addr, i_addl, i_mul, i_mulr, i_mull, i_lt, i_ltr, i_ltl, i_eq, i_eqr, i_eql, i_clamp, i_neg1, i_lt0, n_lt, n_nlt, n_eq, n_ne, ob_some, tb_inr, tb_inl, o_ite, nar_0, nar_1, nar_ite, if_true, if_false, hat]
theorem m_hasSuit {a n c : Nat} (hK : KS a = (100, n)) (ha : a < 699) (hn : 91 ≤ n ∧ n < 100000) (hc : c < 6) : f_m_hasSuit305 a (Int32.ofNat c) I = some (if I a (82 + c) = -1 then 0 else 1) := by
  have hat : ∀ k, k < n → rd I a (Int32.ofNat k) = some (I a k) := fun k hk => rd_ok hK hk ha (by omega)
  unfold f_m_hasSuit305
  simp (disch := omega) only [i_add, i_addr, i_addl, i_mul, i_mulr, i_mull, i_lt, i_ltr, i_ltl, i_eq, i_eqr, i_eql, i_clamp, i_neg1, i_lt0, n_lt, n_nlt, n_eq, n_ne, ob_some, tb_inr, tb_inl, o_ite, nar_0, nar_1, nar_ite, if_true, if_false, hat]
theorem ite10 {c : Prop} [Decidable c] : ((if c then (0 : Int32) else 1) = 0) = c := by
  by_cases h : c
  · simp [h]
  · simp [h]
theorem ite01 {c : Prop} [Decidable c] : ((if c then (1 : Int32) else 0) = 0) = ¬ c := by
  by_cases h : c
  · simp [h]
  · simp [h]
theorem x_suits : f_sta_suits144 I = some (sm (fun c => if I 16 (3 + c) = -1 then 0 else 1) 6) := by
  unfold f_sta_suits144
  rw [wh_sum0 (fun c => if I 16 (3 + c) = -1 then 0 else 1) 6 ?_ ?_]
  · rfl
  · intro k hk s
    simp (disch := omega) only [i_add, i_addr, i_addl, i_mul, i_mulr, i_mull, i_lt, i_ltr, i_ltl, i_eq, i_eqr, i_eql, i_clamp, i_neg1, i_lt0, n_lt, n_nlt, n_eq, n_ne, ob_some, tb_inr, tb_inl, o_ite, nar_0, nar_1, nar_ite, if_true, if_false, x_hasSuit (t := 15) rfl (by decide) hk, ite10]
  · intro s; rfl
theorem m_onBolts {a n nb : Nat} (hK : KS a = (100, n)) (ha : a < 699) (hn : 91 ≤ n ∧ n < 100000) (hb : nb ≤ 10) (e : I 51 0 = Int32.ofNat nb) : f_m_onBolts325 a I = some (sm (fun b => I a b) nb) := by
  have hat : ∀ k, k < n → rd I a (Int32.ofNat k) = some (I a k) := fun k hk => rd_ok hK hk ha (by omega)
  unfold f_m_onBolts325
  rw [wh_sum0 (fun b => I a b) nb ?_ ?_]
  · rfl
  · intro k hk s
    simp (disch := omega) only [i_add, i_addr, i_addl, i_mul, i_mulr, i_mull, i_lt, i_ltr, i_ltl, i_eq, i_eqr, i_eql, i_clamp, i_neg1, i_lt0, n_lt, n_nlt, n_eq, n_ne, ob_some, tb_inr, tb_inl, o_ite, nar_0, nar_1, nar_ite, if_true, if_false, hat, e, hk]
    rw [Nat.zero_add]
  · intro s
    simp (disch := omega) only [i_add, i_addr, i_addl, i_mul, i_mulr, i_mull, i_lt, i_ltr, i_ltl, i_eq, i_eqr, i_eql, i_clamp, i_neg1, i_lt0, n_lt, n_nlt, n_eq, n_ne, ob_some, tb_inr, tb_inl, o_ite, nar_0, nar_1, nar_ite, if_true, if_false, e]
theorem x_wantsOf {nw : Nat} {x : Int32} {wa : Nat → Nat → Nat} (hw : nw ≤ 16) (e : I 3 7 = Int32.ofNat nw) (hwa : ∀ w j, w < nw → j < 5 → I 7 (5 * w + j) = Int32.ofNat (wa w j)) : f_sho_wantsOf151 x I = some (bo (fun w => if Int32.ofNat (wa w 0) = x then 1 <<< (Int32.ofNat w &&& 31) else 0) nw) := by
  unfold f_sho_wantsOf151
  rw [wh_bits0 (fun w => if Int32.ofNat (wa w 0) = x then 1 <<< (Int32.ofNat w &&& 31) else 0) nw ?_ ?_]
  · rfl
  · intro k hk s
    simp (disch := omega) only [i_add, i_addr, i_addl, i_mul, i_mulr, i_mull, i_lt, i_ltr, i_ltl, i_eq, i_eqr, i_eql, i_clamp, i_neg1, i_lt0, n_lt, n_nlt, n_eq, n_ne, ob_some, tb_inr, tb_inl, o_ite, nar_0, nar_1, nar_ite, if_true, if_false, e, hk, f_sho_wantPart152, at_7]
    rw [show I 7 (5 * k + 0) = _ from hwa k 0 hk (by decide)]
  · intro s
    simp (disch := omega) only [i_add, i_addr, i_addl, i_mul, i_mulr, i_mull, i_lt, i_ltr, i_ltl, i_eq, i_eqr, i_eql, i_clamp, i_neg1, i_lt0, n_lt, n_nlt, n_eq, n_ne, ob_some, tb_inr, tb_inl, o_ite, nar_0, nar_1, nar_ite, if_true, if_false, e]
theorem m_wantsOf {nw : Nat} {x : Int32} {wa : Nat → Nat → Nat} (hw : nw ≤ 16) (e : I 51 2 = Int32.ofNat nw) (hwa : ∀ w j, w < nw → j < 5 → I (94 + w) j = Int32.ofNat (wa w j)) : f_m_wantsOf329 x I = some (bo (fun w => if Int32.ofNat (wa w 0) = x then 1 <<< (Int32.ofNat w &&& 31) else 0) nw) := by
  unfold f_m_wantsOf329
  rw [wh_bits0 (fun w => if Int32.ofNat (wa w 0) = x then 1 <<< (Int32.ofNat w &&& 31) else 0) nw ?_ ?_]
  · rfl
  · intro k hk s
    simp (disch := omega) only [i_add, i_addr, i_addl, i_mul, i_mulr, i_mull, i_lt, i_ltr, i_ltl, i_eq, i_eqr, i_eql, i_clamp, i_neg1, i_lt0, n_lt, n_nlt, n_eq, n_ne, ob_some, tb_inr, tb_inl, o_ite, nar_0, nar_1, nar_ite, if_true, if_false, e, hk, rdp_93, rdrl_93]
    rw [show I (94 + k) 0 = _ from hwa k 0 hk (by decide)]
  · intro s
    simp (disch := omega) only [i_add, i_addr, i_addl, i_mul, i_mulr, i_mull, i_lt, i_ltr, i_ltl, i_eq, i_eqr, i_eql, i_clamp, i_neg1, i_lt0, n_lt, n_nlt, n_eq, n_ne, ob_some, tb_inr, tb_inl, o_ite, nar_0, nar_1, nar_ite, if_true, if_false, e]
end READ
