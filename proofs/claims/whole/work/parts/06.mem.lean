/-- each field link names a field of its class, declared there -/
theorem ta_LF_ok2 : ta_LF.all (fun e => match ta_cl[e.2.2.1]? with
  | none => false
  | some q => decide (e.2.2.2.1 < q.2.2) && decide ((q.2.1 e.2.2.2.1).1 = q.1)) = true := by decide +kernel
theorem ta_Q5_all : (List.range 13).all (fun ci => (List.range (ab_cnt ci)).all (fun k => ta_Q5.any (fun e => e.2.1 == ci && e.2.2 == k))) = true := by decide +kernel
theorem ta_cl_len : ta_cl.length = 13 := rfl
theorem so_lays {ci : Nat} {q : vw_C} (h : ta_cl[ci]? = some q) : ∀ w ∈ u_ws q.1 q.2.1 q.2.2, w ∈ so_T := by
  intro w hw
  obtain ⟨k, hk, rfl⟩ := List.mem_map.mp hw
  have hci : ci < 13 := by
    have := (List.getElem?_eq_some_iff.mp h).1
    rwa [ta_cl_len] at this
  have hcnt : ab_cnt ci = q.2.2 := by unfold ab_cnt; rw [h]
  have h1 := List.all_eq_true.mp ta_Q5_all ci (List.mem_range.mpr hci)
  have h2 := List.all_eq_true.mp h1 k (by rw [hcnt]; exact hk)
  obtain ⟨e, he, h3⟩ := List.any_eq_true.mp h2
  rw [Bool.and_eq_true, beq_iff_eq, beq_iff_eq] at h3
  have h4 := ta_wkm ta_Q5_ok e he
  obtain ⟨e1, e2⟩ := h3
  simp only [e1, e2, h] at h4
  exact so_in h4 (by unfold u_lay; split <;> rfl)
theorem ta_pfd : ta_cl.all (fun q => (List.range q.2.2).all (fun k => (parseFieldDescriptor (q.2.1 k).2.2.1).isSome)) = true := by decide +kernel
theorem ta_nmd : ta_cl.all (fun q => (List.range q.2.2).all (fun a => (List.range q.2.2).all (fun b => decide (a = b) || !decide ((q.2.1 a).2.1 = (q.2.1 b).2.1)))) = true := by decide +kernel
theorem so_pfd {ci : Nat} {q : vw_C} (h : ta_cl[ci]? = some q) : ∀ k, k < q.2.2 → parseFieldDescriptor (q.2.1 k).2.2.1 = some ((parseFieldDescriptor (q.2.1 k).2.2.1).getD .int) := by
  intro k hk
  have h1 := List.all_eq_true.mp (List.all_eq_true.mp ta_pfd q (List.mem_of_getElem? h)) k (List.mem_range.mpr hk)
  obtain ⟨t, ht⟩ := Option.isSome_iff_exists.mp h1
  rw [ht]; rfl
theorem so_nmd {ci : Nat} {q : vw_C} (h : ta_cl[ci]? = some q) : ∀ a, a < q.2.2 → ∀ b, b < q.2.2 → a ≠ b → (q.2.1 a).2.1 ≠ (q.2.1 b).2.1 := by
  intro a ha b hb hab
  have h1 := List.all_eq_true.mp (List.all_eq_true.mp (List.all_eq_true.mp ta_nmd q (List.mem_of_getElem? h)) a (List.mem_range.mpr ha)) b (List.mem_range.mpr hb)
  simpa [hab] using h1
section SOUND
variable {p : Program} {l : Launch} {e : Env} {R : Room} {s : State} {m : MethodId} {args : Array Value} {below : List Frame} {meth : Method} {c : Code} {Q : State → Prop}
variable {D : va_G} {tA : Nat → ClassId} {n0 b0 : Nat} {sa : Nat → Nat} {HL : Heap} {XL : Nat} {xs : Nat → Int32} {St : State → Prop} {y : Nat} {c0 z0 : Nat}
variable {pc len : Nat} {L : ab_L} {S r : ab_S} {h : ab_H}

theorem so_ent_o {fa : Nat → Nat} {a ci : Nat} (hK : (ab_K h a).1 = ci) (hci : ci < 13) : so_ent fa tA h a = .inr (ci, (List.range (ab_cnt ci)).map (so_fv fa h a ci)) := by
  subst hK
  unfold so_ent
  rw [if_pos hci]
theorem so_fs_at {fa : Nat → Nat} {a ci j : Nat} (hj : j < ab_cnt ci) : ((List.range (ab_cnt ci)).map (so_fv fa h a ci))[j]? = some (so_fv fa h a ci j) := by
  simp [List.getElem?_map, List.getElem?_range hj]
/-- what a field link gives -/
theorem so_lkF {c k ci j ne : Nat} (h : ab_lkF c k = some (ci, j, ne)) : ∃ q : vw_C, ta_cl[ci]? = some q ∧ ci < 13 ∧ j < q.2.2 ∧ (q.2.1 j).1 = q.1 ∧ ab_cnt ci = q.2.2 ∧
    (if ne = 0 then Cond.fieldLink (ta_nm c) k q.1 (q.2.1 j).2.1 (q.2.1 j).2.2.1 else Cond.fieldLinkNest (ta_nm c) k q.1 (q.2.1 j).2.1 (q.2.1 j).2.2.1 "SkyTailor") ∈ lw_tbl := by
  obtain ⟨e, he, he2⟩ := Option.map_eq_some_iff.mp h
  obtain ⟨hm, hq2⟩ := so_find he
  rw [Bool.and_eq_true, beq_iff_eq, beq_iff_eq] at hq2
  obtain ⟨c', k', ci', j', ne', p'⟩ := e
  obtain ⟨e1, e2⟩ := hq2
  cases he2
  dsimp only at e1 e2
  subst e1; subst e2
  have h1 := List.all_eq_true.mp ta_LF_ok2 _ hm
  have h2 := ta_wkm ta_LF_ok _ hm
  unfold ta_wF at h2
  dsimp only at h1 h2
  cases hq : ta_cl[ci']? with
  | none => rw [hq] at h1; cases h1
  | some q =>
    rw [hq] at h1 h2
    rw [Bool.and_eq_true, decide_eq_true_eq, decide_eq_true_eq] at h1
    refine ⟨q, rfl, ?_, h1.1, h1.2, by unfold ab_cnt; rw [hq], h2⟩
    have := (List.getElem?_eq_some_iff.mp hq).1
    rwa [ta_cl_len] at this
theorem so_getf (C : so_Cx p l s m args meth c D tA n0 b0 sa HL XL xs St y c0) {k : Nat} (hd : decode (ab_b y) pc = .ok (.getfield k, 3)) {ci j ne a : Nat} (hlk : ab_lkF (ab_c y) k = some (ci, j, ne)) (ha : a < ab_N h) (hK : (ab_K h a).1 = ci) {v : Value} (hv : so_fv (so_fa n0 b0 sa) h a ci j = so_v (so_fa n0 b0 sa) v)
    (k1 : so_G p l e R s m args below meth c Q D tA (so_fa n0 b0 sa) HL y c0 z0 (pc + 3) L (v :: S) h) : so_G p l e R s m args below meth c Q D tA (so_fa n0 b0 sa) HL y c0 z0 pc L (.ref a :: S) h := by
  intro ls H locs cells slots hl hR hc hs
  obtain ⟨C1, C2, C3, C4, C5, C6, C7, C8, ⟨A1, A2, A3⟩, C10⟩ := C
  obtain ⟨q, hq, hci, hj, hown, hcnt, hw⟩ := so_lkF hlk
  obtain ⟨R1, R2⟩ := hR
  have he := so_ws_at (fa := so_fa n0 b0 sa) (tA := tA) ha
  rw [so_ent_o hK hci] at he
  have hf := so_fs_at (fa := so_fa n0 b0 sa) (h := h) (a := a) (ci := ci) (j := j) (by rw [hcnt]; exact hj)
  have kk := k1 ls H locs cells slots hl ⟨R1, R2⟩ hc hs
  rw [show so_S (so_fa n0 b0 sa) (v :: S) = so_v (so_fa n0 b0 sa) v :: so_S (so_fa n0 b0 sa) S from rfl, ← hv] at kk
  by_cases hne : ne = 0
  · rw [if_pos hne] at hw
    exact va_get C1 C2 C8 (so_lays hq) C6 A1 R1 a he hq j hj (so_word C8 hw rfl) (by rw [hown]; exact fun _ h => h) hf hd kk
  · rw [if_neg hne] at hw
    exact va_getN C1 C2 C8 (so_lays hq) C6 A1 R1 a he hq j hj (va_Nw.use rfl (A2 _ hw rfl)) (by rw [hown]; exact fun _ h => h) hf hd kk
theorem so_ws_set {fa : Nat → Nat} {h' : ab_H} {a : Nat} (hN : ab_N h' = ab_N h) (ha : a < ab_N h) (ho : ∀ b, b ≠ a → so_ent fa tA h' b = so_ent fa tA h b) : (so_ws fa tA h).set a (fa a, so_ent fa tA h' a) = so_ws fa tA h' := by
  apply List.ext_getElem?
  intro k
  by_cases hk : k < ab_N h
  · rw [so_ws_at (by rw [hN]; exact hk)]
    by_cases hka : k = a
    · subst hka
      rw [List.getElem?_set_self (by simpa [so_ws] using hk)]
    · rw [List.getElem?_set_ne (Ne.symm hka), so_ws_at hk, ho k hka]
  · have e1 : (so_ws fa tA h').length = ab_N h := by simp [so_ws, hN]
    have e2 : ((so_ws fa tA h).set a (fa a, so_ent fa tA h' a)).length = ab_N h := by simp [so_ws]
    rw [List.getElem?_eq_none (by omega), List.getElem?_eq_none (by omega)]
theorem so_D {fa : Nat → Nat} (hfa : fa = so_fa HL.size b0 sa) (hN : ab_N h ≤ 900000) : va_D (so_A HL) (so_ws fa tA h) := by
  have key : ∀ (k : Nat) (q : Nat × va_E), (so_ws fa tA h)[k]? = some q → k < 900000 ∧ q.1 = HL.size + k := by
    intro k q hk
    have hlt := (List.getElem?_eq_some_iff.mp hk).1
    have hlt2 : k < ab_N h := by simpa [so_ws] using hlt
    rw [so_ws_at hlt2] at hk
    cases hk
    refine ⟨by omega, ?_⟩
    rw [hfa]
    show so_fa HL.size b0 sa k = _
    unfold so_fa ab_scr
    rw [if_pos (by omega)]
  refine ⟨fun i j x z hi hj hxz => ?_, fun k q hk => ?_⟩
  · have h1 := key i x hi
    have h2 := key j z hj
    omega
  · have h1 := key k q hk
    show HL.size ≤ q.1
    omega
theorem so_ent_wI {fa : Nat → Nat} {a j : Nat} {x : Int32} : ∀ b, b ≠ a → so_ent fa tA (ab_wI h a j x) b = so_ent fa tA h b := by
  intro b hb
  have e : ab_I (ab_wI h a j x) b = ab_I h b := if_neg hb
  have e2 : so_fv fa (ab_wI h a j x) b = so_fv fa h b := by
    funext t k
    unfold so_fv
    rw [e]
    rfl
  unfold so_ent
  rw [e, e2]
  rfl
theorem so_R_wI {fa : Nat → Nat} {H H1 : Heap} {locs locs1 : List Loc} {a j : Nat} {x : Int32} (hR : so_R D tA fa HL h H locs) (ha : a < ab_N h) (hP : va_P D ta_cl ((so_ws fa tA h).set a (fa a, so_ent fa tA (ab_wI h a j x) a)) H1) (hS : va_S (so_A HL) HL H1 locs1) : so_R D tA fa HL (ab_wI h a j x) H1 locs1 := by
  obtain ⟨R1, R2, R3, R4, R5⟩ := hR
  rw [so_ws_set (h := h) (h' := ab_wI h a j x) rfl ha so_ent_wI] at hP
  refine ⟨hP, hS, R3, R4, fun b hb => ?_⟩
  have hba : b ≠ a := by
    have : ab_N (ab_wI h a j x) = ab_N h := rfl
    omega
  have e : ab_I (ab_wI h a j x) b = ab_I h b := if_neg hba
  rw [e]
  exact R5 b hb
theorem so_putI (C : so_Cx p l s m args meth c D tA n0 b0 sa HL XL xs St y c0) {k : Nat} (hd : decode (ab_b y) pc = .ok (.putfield k, 3)) {ci j ne a : Nat} (hlk : ab_lkF (ab_c y) k = some (ci, j, ne)) (ha : a < ab_N h) (hK : (ab_K h a).1 = ci) (hr : ab_ref ci j = false) (hfi : ab_fin ci j = false) {x : Int32}
    (k1 : so_G p l e R s m args below meth c Q D tA (so_fa n0 b0 sa) HL y c0 z0 (pc + 3) L S (ab_wI h a j x)) : so_G p l e R s m args below meth c Q D tA (so_fa n0 b0 sa) HL y c0 z0 pc L (.int x :: .ref a :: S) h := by
  intro ls H locs cells slots hl hR hc hs
  have hfa := C.2.2.2.2.2.2.2.2.2.1
  obtain ⟨C1, C2, C3, C4, C5, C6, C7, C8, ⟨A1, A2, A3⟩, C10⟩ := C
  obtain ⟨q, hq, hci, hj, hown, hcnt, hw⟩ := so_lkF hlk
  have hR0 := hR
  obtain ⟨R1, R2, R3, R4, R5⟩ := hR
  have he := so_ws_at (fa := so_fa n0 b0 sa) (tA := tA) ha
  rw [so_ent_o hK hci] at he
  have hD : va_D (so_A HL) (so_ws (so_fa n0 b0 sa) tA h) := so_D (b0 := b0) (sa := sa) (by rw [hfa]) R4
  unfold ab_ref at hr
  unfold ab_fin at hfi
  rw [hq] at hr hfi
  have hdesc : (q.2.1 j).2.2.1 = "I" := by simpa using hr
  have hKx : (ab_K (ab_wI h a j x) a).1 = ci := hK
  have hset : ((List.range (ab_cnt ci)).map (so_fv (so_fa n0 b0 sa) h a ci)).set j (.int x) = (List.range (ab_cnt ci)).map (so_fv (so_fa n0 b0 sa) (ab_wI h a j x) a ci) := by
    apply List.ext_getElem?
    intro i
    by_cases hi : i < ab_cnt ci
    · rw [so_fs_at hi]
      by_cases hij : i = j
      · subst hij
        rw [List.getElem?_set_self (by simpa using hi)]
        unfold so_fv ab_ref
        rw [hq]
        have e : ab_I (ab_wI h a i x) a i = x := by
          show (if a = a then upd (ab_I h a) i x else ab_I h a) i = x
          rw [if_pos rfl]; exact if_pos rfl
        simp [hdesc, e]
      · rw [List.getElem?_set_ne (Ne.symm hij), so_fs_at hi]
        have e : ab_I (ab_wI h a j x) a i = ab_I h a i := by
          show (if a = a then upd (ab_I h a) j x else ab_I h a) i = _
          rw [if_pos rfl]; exact if_neg hij
        unfold so_fv
        rw [e]
        rfl
    · rw [List.getElem?_eq_none (by simpa using hi), List.getElem?_eq_none (by simpa using hi)]
  have kk : ∀ (H1 : Heap) (locs1 : List Loc), va_P D ta_cl ((so_ws (so_fa n0 b0 sa) tA h).set a (so_fa n0 b0 sa a, .inr (ci, ((List.range (ab_cnt ci)).map (so_fv (so_fa n0 b0 sa) h a ci)).set j (.int x)))) H1 → va_D (so_A HL) ((so_ws (so_fa n0 b0 sa) tA h).set a (so_fa n0 b0 sa a, .inr (ci, ((List.range (ab_cnt ci)).map (so_fv (so_fa n0 b0 sa) h a ci)).set j (.int x)))) → va_S (so_A HL) HL H1 locs1 → W p l e R s m args below meth c H1 locs1 cells slots Q (F0 m (pc + 3) ls (so_S (so_fa n0 b0 sa) S)) := by
    intro H1 locs1 hP _ hS
    rw [hset, ← so_ent_o (fa := so_fa n0 b0 sa) (tA := tA) hKx hci] at hP
    exact k1 ls H1 locs1 cells slots hl (so_R_wI hR0 ha hP hS) hc hs
  by_cases hne : ne = 0
  · rw [if_pos hne] at hw
    exact va_put C1 C2 C8 (so_lays hq) (fun k => ((parseFieldDescriptor (q.2.1 k).2.2.1).getD .int)) (so_pfd hq) (so_nmd hq) C6 A1 R1 hD R2 a he hq j hj (so_word C8 hw rfl) (by rw [hown]; exact fun _ h => h) hfi (ty := .int) (by rw [hdesc]; rfl) rfl rfl (by simpa [hcnt] using hj) hd kk
  · rw [if_neg hne] at hw
    exact va_putN C1 C2 C8 (so_lays hq) (fun k => ((parseFieldDescriptor (q.2.1 k).2.2.1).getD .int)) (so_pfd hq) (so_nmd hq) C6 A1 R1 hD R2 a he hq j hj (va_Nw.use rfl (A2 _ hw rfl)) (by rw [hown]; exact fun _ h => h) hfi (ty := .int) (by rw [hdesc]; rfl) rfl rfl (by simpa [hcnt] using hj) hd kk
end SOUND

