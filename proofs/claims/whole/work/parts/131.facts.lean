set_option maxRecDepth 100000 in
theorem ta_M_ok2 : ta_M.all (fun me => ta_good me && (ta_n me.1).isSome && decide (me.2.2.1 ≤ 60) && me.2.2.2.2.2.all (fun q => (ta_LH.find? (fun e => e.1 == q.2.2.2)).isSome && decide (q.2.2.2 ≠ 0))) = true := by decide +kernel
set_option maxRecDepth 100000 in
theorem ta_LM_ok3 : ta_LM.all (fun e => if e.2.2.1 ≤ 5 ∨ e.2.2.1 = 12 then decide (e.2.2.2.1 < 386) && (if e.2.2.1 ≤ 1 then ta_kd e.2.2.2.1 == 0 && decide ((ta_me e.2.2.2.1).2.2.2.2.1 < 13) else if e.2.2.1 = 4 ∨ e.2.2.1 = 5 then ta_kd e.2.2.2.1 == 2 && decide ((ta_me e.2.2.2.1).1.name = "<init>") && decide ((ta_me e.2.2.2.1).2.2.2.1 = none) else ta_kd e.2.2.2.1 == 1) && (if e.2.2.1 = 12 then decide ((ta_me e.2.2.2.1).2.2.2.2.2 ≠ []) else decide ((ta_me e.2.2.2.1).2.2.2.2.2 = [])) else true) = true := by decide +kernel
theorem ta_Q2_all : (List.range 386).all (fun y => ta_Q2.any (fun e => e.2 == y)) = true := by decide +kernel
theorem ta_Q3_all : (List.range 386).all (fun y => !(ta_kd y == 0) || ta_Q3.any (fun e => e.2 == y)) = true := by decide +kernel
theorem ta_M_len : ta_M.length = 387 := by decide +kernel
theorem ta_Mmem {me : ta_Me} (h : me ∈ ta_M.take 386) : ta_wM me ∈ lw_tbl := by
  unfold ta_M at h
  rw [List.take_append, List.mem_append] at h
  rcases h with h | h
  · exact ta_Mw0 me (List.mem_of_mem_take h)
  rw [show ta_M0.length = 40 from rfl, List.take_append, List.mem_append] at h
  rcases h with h | h
  · exact ta_Mw1 me (List.mem_of_mem_take h)
  rw [show ta_M1.length = 40 from rfl, List.take_append, List.mem_append] at h
  rcases h with h | h
  · exact ta_Mw2 me (List.mem_of_mem_take h)
  rw [show ta_M2.length = 40 from rfl, List.take_append, List.mem_append] at h
  rcases h with h | h
  · exact ta_Mw3 me (List.mem_of_mem_take h)
  rw [show ta_M3.length = 40 from rfl, List.take_append, List.mem_append] at h
  rcases h with h | h
  · exact ta_Mw4 me (List.mem_of_mem_take h)
  rw [show ta_M4.length = 40 from rfl, List.take_append, List.mem_append] at h
  rcases h with h | h
  · exact ta_Mw5 me (List.mem_of_mem_take h)
  rw [show ta_M5.length = 40 from rfl, List.take_append, List.mem_append] at h
  rcases h with h | h
  · exact ta_Mw6 me (List.mem_of_mem_take h)
  rw [show ta_M6.length = 40 from rfl, List.take_append, List.mem_append] at h
  rcases h with h | h
  · exact ta_Mw7 me (List.mem_of_mem_take h)
  rw [show ta_M7.length = 40 from rfl, List.take_append, List.mem_append] at h
  rcases h with h | h
  · exact ta_Mw8 me (List.mem_of_mem_take h)
  · exact ta_Mw9 me h
theorem ta_me_mem {y : Nat} (hy : y < 386) : ta_me y ∈ ta_M.take 386 := by
  have h1 : y < ta_M.length := by rw [ta_M_len]; omega
  have h2 : ta_M[y]? = some ta_M[y] := List.getElem?_eq_getElem h1
  have h3 : ta_me y = ta_M[y] := by unfold ta_me; rw [h2]; rfl
  rw [h3]
  have h4 : (ta_M.take 386)[y]? = some ta_M[y] := by rw [List.getElem?_take_of_lt hy]; exact h2
  exact List.mem_of_getElem? h4
theorem so_wM {y : Nat} (hy : y < 386) : ta_wM (ta_me y) ∈ lw_tbl := ta_Mmem (ta_me_mem hy)
theorem so_wMg (me : ta_Me) : goodWord (ta_wM me) = true := by
  unfold ta_wM
  split <;> rfl
theorem so_facts {y : Nat} (hy : y < 386) : ta_good (ta_me y) = true ∧ (ta_n (ta_me y).1).isSome = true ∧ (ta_me y).2.2.1 ≤ 60 ∧ ∀ q ∈ (ta_me y).2.2.2.2.2, (ta_LH.find? (fun e => e.1 == q.2.2.2)).isSome = true ∧ q.2.2.2 ≠ 0 := by
  have h := List.all_eq_true.mp ta_M_ok2 _ (List.mem_of_mem_take (ta_me_mem hy))
  simp only [Bool.and_eq_true, decide_eq_true_eq, List.all_eq_true] at h
  exact ⟨h.1.1.1, h.1.1.2, h.1.2, fun q hq => h.2 q hq⟩
theorem so_good {y : Nat} (hy : y < 386) : (ta_me y).1.cls = ta_nm (ta_me y).2.2.2.2.1 ∧ plainName (ta_me y).1.cls = true ∧ (ta_me y).1.cls ≠ "java/lang/invoke/MethodHandle" ∧ (ta_me y).1.cls ≠ "java/lang/invoke/VarHandle" := by
  have h := (so_facts hy).1
  unfold ta_good at h
  simp only [Bool.and_eq_true, decide_eq_true_eq] at h
  exact ⟨h.1.1.1, h.1.1.2, h.1.2, h.2⟩
theorem so_w2 {y : Nat} (hy : y < 386) : ta_w2 y ∈ lw_tbl := by
  obtain ⟨e, he, h3⟩ := List.any_eq_true.mp (List.all_eq_true.mp ta_Q2_all y (List.mem_range.mpr hy))
  have h4 := ta_wkm ta_Q2_ok e he
  rw [beq_iff_eq] at h3
  rw [h3] at h4
  exact h4
theorem so_sel {y : Nat} (hy : y < 386) (hk : ta_kd y = 0) : Cond.selects (ta_me y).1.cls (ta_me y).1 (ta_me y).1 ∈ lw_tbl := by
  have h := List.all_eq_true.mp ta_Q3_all y (List.mem_range.mpr hy)
  rw [hk] at h
  change (false || ta_Q3.any (fun e => e.2 == y)) = true at h
  rw [Bool.false_or] at h
  obtain ⟨e, he, h3⟩ := List.any_eq_true.mp h
  have h4 := ta_wkm ta_Q3_ok e he
  rw [beq_iff_eq] at h3
  rw [h3] at h4
  exact h4
theorem so_inic {y : Nat} (hy : y < 386) : Cond.initialized (ta_me y).1.cls ∈ lw_tbl := by
  rw [(so_good hy).1]
  by_cases h : (ta_me y).2.2.2.2.1 < 14
  · exact so_init h
  · exfalso
    have hm := ta_me_mem hy
    have : ta_M.all (fun me => decide (me.2.2.2.2.1 < 14)) = true := by decide +kernel
    have h2 := List.all_eq_true.mp this _ (List.mem_of_mem_take hm)
    exact h (of_decide_eq_true h2)
theorem so_goodIn {ws : List Cond} (h : ∀ w ∈ ws, w ∈ lw_tbl ∧ goodWord w = true) : GoodIn so_T ws := fun w hw => ⟨so_in (h w hw).1 (h w hw).2, good_of_word (h w hw).2⟩
theorem so_wIn {y : Nat} (hy : y < 386) : ∀ w ∈ so_w y, w ∈ lw_tbl ∧ goodWord w = true := by
  intro w hw
  rcases List.mem_cons.mp hw with rfl | hw
  · exact ⟨so_wM hy, so_wMg _⟩
  · exact ⟨(List.mem_filter.mp hw).1, (List.mem_filter.mp hw).2⟩
theorem so_slen0 (vs : List Value) : (lg_sl vs).length = ab_cat vs := by
  induction vs with
  | nil => rfl
  | cons v r ih =>
    unfold lg_sl ab_cat at *
    rw [List.flatMap_cons, List.length_append, List.map_cons, List.sum_cons, ih]
    congr 1
    rcases lv_cat v with h | h <;> rw [h] <;> rfl
theorem so_slenV (fa : Nat → Nat) (vs : List Value) : (lg_sl (vs.map (so_v fa))).length = (lg_sl vs).length := by
  rw [so_slen0, so_slen0]
  exact so_cat fa vs
theorem so_args (fa : Nat → Nat) : ∀ (i : Nat) (vs : List Value), so_L fa (lv_args i vs) = lv_args i (vs.map (so_v fa))
  | _, [] => rfl
  | i, v :: r => by
    show so_L fa ((i, v) :: lv_args _ r) = (i, so_v fa v) :: lv_args _ (r.map (so_v fa))
    rw [so_vc, ← so_args fa _ r]
    rfl
