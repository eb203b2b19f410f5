theorem ab_rows_f (h : ab_H) (t n : Nat) : ∀ k, ab_C (ab_rows h t n k) = ab_C h + k ∧ ab_Z (ab_rows h t n k) = ab_Z h + k * n ∧ ab_N (ab_rows h t n k) = ab_N h + k ∧ ab_XL (ab_rows h t n k) = ab_XL h ∧ ab_X (ab_rows h t n k) = ab_X h
  | 0 => ⟨rfl, by simp [ab_rows], rfl, rfl, rfl⟩
  | k + 1 => by
    obtain ⟨a, b, c, d, e⟩ := ab_rows_f h t n k
    unfold ab_rows
    refine ⟨by rw [so_newC, a]; omega, by rw [so_newZ, b, Nat.succ_mul]; omega, by rw [so_newN, c]; omega, d, e⟩
theorem ab_newb_f (h : ab_H) (n m : Nat) : ab_C (ab_newb h n m) = ab_C h + 1 + n ∧ ab_Z (ab_newb h n m) = ab_Z h + n + n * m ∧ ab_N (ab_newb h n m) = ab_N h + 1 + n ∧ ab_XL (ab_newb h n m) = ab_XL h ∧ ab_X (ab_newb h n m) = ab_X h := by
  unfold ab_newb
  exact ab_rows_f _ _ _ _
theorem vr_outer (c : ClassId) (N h0 : Nat) : ∀ i : Nat, Jvm.Free.Multi.outerC c N h0 i = arrV c N (fun j => va_rf (if j < i then some (h0 + 1 + j) else none))
  | 0 => by
    show ({ cls := c, slots := Array.replicate N .null, vm := .none } : Cell) = _
    rw [arrV_new]
    refine congrArg (arrV c N) (funext fun j => ?_)
    simp [va_rf]
  | i + 1 => by
    show (Jvm.Free.Multi.outerC c N h0 i).setSlot i (.ref (h0 + 1 + i)) = _
    rw [vr_outer c N h0 i, arrV_store]
    refine congrArg (arrV c N) (funext fun j => ?_)
    by_cases e : j = i
    · subst e
      simp [updV, va_rf]
    · by_cases h : j < i
      · simp [updV, e, h, Nat.lt_succ_of_lt h]
      · simp [updV, e, h, show ¬ j < i + 1 by omega]
theorem ab_rows_K (h : ab_H) (t n : Nat) : ∀ k a, ab_K (ab_rows h t n k) a = if ab_N h ≤ a ∧ a < ab_N h + k then (t, n) else ab_K h a
  | 0, a => by
    rw [if_neg (by omega)]
    rfl
  | k + 1, a => by
    have hN := (ab_rows_f h t n k).2.2.1
    show (if a = ab_N (ab_rows h t n k) then (t, n) else ab_K (ab_rows h t n k) a) = _
    rw [hN, ab_rows_K h t n k a]
    by_cases h1 : a = ab_N h + k
    · rw [if_pos h1, if_pos (by omega)]
    · rw [if_neg h1]
      by_cases h2 : ab_N h ≤ a ∧ a < ab_N h + k
      · rw [if_pos h2, if_pos (by omega)]
      · rw [if_neg h2, if_neg (by omega)]
theorem ab_rows_P (h : ab_H) (t n : Nat) : ∀ k a, ab_P (ab_rows h t n k) a = if ab_N h ≤ a ∧ a < ab_N h + k then (fun _ => none) else ab_P h a
  | 0, a => by
    rw [if_neg (by omega)]
    rfl
  | k + 1, a => by
    have hN := (ab_rows_f h t n k).2.2.1
    show (if a = ab_N (ab_rows h t n k) then (fun _ => none) else ab_P (ab_rows h t n k) a) = _
    rw [hN, ab_rows_P h t n k a]
    by_cases h1 : a = ab_N h + k
    · rw [if_pos h1, if_pos (by omega)]
    · rw [if_neg h1]
      by_cases h2 : ab_N h ≤ a ∧ a < ab_N h + k
      · rw [if_pos h2, if_pos (by omega)]
      · rw [if_neg h2, if_neg (by omega)]
theorem ab_rows_IG (h : ab_H) (t n : Nat) : ∀ k, ab_I (ab_rows h t n k) = ab_I h ∧ ab_G (ab_rows h t n k) = ab_G h
  | 0 => ⟨rfl, rfl⟩
  | k + 1 => ab_rows_IG h t n k
theorem ab_newb_K (h : ab_H) (n m a : Nat) : ab_K (ab_newb h n m) a = if a = ab_N h then (104, n) else if ab_N h + 1 ≤ a ∧ a < ab_N h + 1 + n then (100, m) else ab_K h a := by
  unfold ab_newb
  rw [ab_rows_K, so_newN]
  show (if ab_N h + 1 ≤ a ∧ a < ab_N h + 1 + n then (100, m) else if a = ab_N h then (104, n) else ab_K h a) = _
  by_cases h1 : a = ab_N h
  · rw [if_neg (by omega), if_pos h1, if_pos h1]
  · rw [if_neg h1, if_neg h1]
theorem ab_newb_P (h : ab_H) (n m a : Nat) : ab_P (ab_newb h n m) a = if a = ab_N h then (fun i => if i < n then some (ab_N h + 1 + i) else none) else if ab_N h + 1 ≤ a ∧ a < ab_N h + 1 + n then (fun _ => none) else ab_P h a := by
  unfold ab_newb
  rw [ab_rows_P, so_newN]
  show (if ab_N h + 1 ≤ a ∧ a < ab_N h + 1 + n then (fun _ => none) else if a = ab_N h then _ else ab_P h a) = _
  by_cases h1 : a = ab_N h
  · rw [if_neg (by omega), if_pos h1, if_pos h1]
  · rw [if_neg h1, if_neg h1]
theorem ab_newb_IG (h : ab_H) (n m : Nat) : ab_I (ab_newb h n m) = ab_I h ∧ ab_G (ab_newb h n m) = ab_G h := by
  unfold ab_newb
  exact ab_rows_IG _ _ _ _
section SOUND
variable {p : Program} {l : Launch} {e : Env} {R : Room} {s : State} {m : MethodId} {args : Array Value} {below : List Frame} {meth : Method} {c : Code} {Q : State → Prop}
variable {D : va_G} {tA : Nat → ClassId} {n0 b0 : Nat} {sa : Nat → Nat} {HL : Heap} {XL : Nat} {xs : Nat → Int32} {St : State → Prop} {y : Nat} {c0 z0 : Nat}
variable {pc len : Nat} {L : ab_L} {S r : ab_S} {h : ab_H}

theorem so_faK {k : Nat} (hk : k < 1000000) : so_fa n0 b0 sa k = n0 + k := by
  have h1 : k < ab_scr := hk
  exact if_pos h1
theorem so_ent_same {fa : Nat → Nat} {h' : ab_H} {a : Nat} (hK : ab_K h' a = ab_K h a) (hP : ab_P h' a = ab_P h a) (hI : ab_I h' = ab_I h) (hG : ab_G h' = ab_G h) : so_ent fa tA h' a = so_ent fa tA h a := by
  have e2 : so_fv fa h' a = so_fv fa h a := by
    funext t k
    unfold so_fv
    rw [hP, hI]
  unfold so_ent
  rw [hK, hI, hG, e2, hP]
/-- several new cells at once -/
theorem so_R_grow {locs : List Loc} {H H1 : Heap} {h' : ab_H} {j : Nat} (hR : so_R D tA (so_fa n0 b0 sa) HL h H locs) (hN : ab_N h' = ab_N h + j) (hK : ∀ a, a < ab_N h → ab_K h' a = ab_K h a) (hP : ∀ a, a < ab_N h → ab_P h' a = ab_P h a) (hI : ab_I h' = ab_I h) (hG : ab_G h' = ab_G h)
    (hnew : ∀ a, ab_N h ≤ a → a < ab_N h + j → va_at D ta_cl (so_fa n0 b0 sa a, so_ent (so_fa n0 b0 sa) tA h' a) H1) (ho : ∀ q, q < H.size → H1[q]? = H[q]?) (hz : H.size ≤ H1.size) (hC : ab_N h' ≤ ab_C h') (h9 : ab_N h' ≤ 900000) : so_R D tA (so_fa n0 b0 sa) HL h' H1 locs := by
  obtain ⟨R1, R2, R3, R4, R5⟩ := hR
  refine ⟨fun k q hk => ?_, ⟨Nat.le_trans R2.1 hz, fun q h1 h2 => (ho q (Nat.lt_of_lt_of_le h1 R2.1)).trans (R2.2.1 q h1 h2), R2.2.2⟩, hC, h9, fun a ha => by rw [hI, hG]; exact R5 a (by omega)⟩
  have hlt : k < ab_N h' := by
    have := (List.getElem?_eq_some_iff.mp hk).1
    simpa [so_ws] using this
  rw [so_ws_at hlt] at hk
  cases hk
  by_cases hk : k < ab_N h
  · rw [so_ent_same (hK k hk) (hP k hk) hI hG]
    have h1 := R1 k _ (so_ws_at hk)
    exact h1.kept (ho _ h1.lt)
  · exact hnew k (by omega) (by omega)
theorem so_lkA {c k j : Nat} (h : ab_lkA c k = some j) : Cond.classLink (ta_nm c) k (if j = 2 then "[[I" else "[[[I") ∈ lw_tbl := by
  obtain ⟨e, he, he2⟩ := Option.map_eq_some_iff.mp h
  obtain ⟨hm, hq2⟩ := so_find he
  rw [Bool.and_eq_true, beq_iff_eq, beq_iff_eq] at hq2
  have hw := ta_wkm ta_LA_ok e hm
  rw [hq2.1, hq2.2, he2] at hw
  exact hw
set_option maxRecDepth 100000 in
theorem ta_over : Cond.arrayOver (.array .int) ∈ lw_tbl ∧ Cond.arrayOver (.array (.array .int)) ∈ lw_tbl := by
  have h : ([Cond.arrayOver (.array .int), .arrayOver (.array (.array .int))] : List Cond).all (fun w => decide (w ∈ lw_tbl)) = true := by decide +kernel
  rw [List.all_eq_true] at h
  exact ⟨of_decide_eq_true (h _ (by simp)), of_decide_eq_true (h _ (by simp))⟩
theorem so_nm4 (hA : va_K D ta_cl (so_tys tA) s) {cA : ClassId} (h1 : s.vm.findClass "[[I" = some cA) : cA = tA 4 := by
  have h2 := (hA.2 4 _ rfl).2
  exact Option.some.inj (h1.symm.trans h2)
theorem so_nm0 (hA : va_K D ta_cl (so_tys tA) s) {cA : ClassId} (h1 : s.vm.findClass "[I" = some cA) : cA = tA 0 := by
  have h2 := (hA.2 0 _ rfl).2
  exact Option.some.inj (h1.symm.trans h2)
theorem so_nm5 (hA : va_K D ta_cl (so_tys tA) s) {cA : ClassId} (h1 : s.vm.findClass "[[[I" = some cA) : cA = tA 5 := by
  have h2 := (hA.2 5 _ rfl).2
  exact Option.some.inj (h1.symm.trans h2)
theorem so_row0 {fa : Nat → Nat} {h' : ab_H} {a n : Nat} (hK : ab_K h' a = (100, n)) (hI : ab_I h' a = fun _ => 0) : so_ent fa tA h' a = .inl (tA 0, n, .inl (fun _ => 0)) := by
  rw [so_ent_a (t := 100) (by rw [hK]) (by omega) (by omega), hK, hI]
set_option maxHeartbeats 4000000 in
theorem so_two (C : so_Cx p l s m args meth c D tA n0 b0 sa HL XL xs St y c0) {k : Nat} (hd : decode (ab_b y) pc = .ok (.multianewarray k 2, 4)) (hk : ab_lkA (ab_c y) k = some 2) {n m' : Int32} (h1 : 0 ≤ n) (h2 : 0 ≤ m') (h3 : n.toNatClampNeg ≤ 1000) (h4 : m'.toNatClampNeg ≤ 100000) (hCN : ab_C h = ab_N h) (hN : ab_N h + n.toNatClampNeg < 900000) (hC : ab_C (ab_newb h n.toNatClampNeg m'.toNatClampNeg) ≤ c0 + R.cells) (hZ : ab_Z (ab_newb h n.toNatClampNeg m'.toNatClampNeg) ≤ z0 + R.slots)
    (k1 : so_G p l e R s m args below meth c Q D tA (so_fa n0 b0 sa) HL y c0 z0 (pc + 4) L (.ref (ab_N h) :: S) (ab_newb h n.toNatClampNeg m'.toNatClampNeg)) : so_G p l e R s m args below meth c Q D tA (so_fa n0 b0 sa) HL y c0 z0 pc L (.int m' :: .int n :: S) h := by
  intro ls H locs cells slots hl hR hc hs T hT X
  obtain ⟨C1, C2, C3, C4, C5, C6, C7, C8, C9, C10, C11, C12, C13, C14⟩ := C
  have hsz := so_end (D := D) (tA := tA) (b0 := b0) (sa := sa) hT X hR C10 C13 hc hCN
  obtain ⟨q1, q2, q3, q4, q5⟩ := ab_newb_f h n.toNatClampNeg m'.toNatClampNeg
  generalize hN' : n.toNatClampNeg = N at *
  generalize hM' : m'.toNatClampNeg = M at *
  rw [q1] at hC
  rw [q2] at hZ
  have hlink := so_word C8 (so_lkA hk) rfl
  obtain ⟨vm₁, cA, comp, -, fA, fC, -, -, X', step⟩ := X.multianewarray2F C1 (ty := .int) C6 hlink (Jvm.Stand.arrayOver_alikeB (Vm.Alike.refl s.vm) (C9.2.1 _ ta_over.1 rfl)) (so_word C8 (so_libw 10 rfl) rfl) (g := F0 m pc ls (.int m' :: .int n :: so_S (so_fa n0 b0 sa) S)) rfl (by rw [C2]; exact hd) rfl (so_nn h1) (so_nn h2)
    (by rw [hN']; omega) (by rw [hM']; exact Nat.le_trans (Nat.mul_le_mul h4 (show componentBytes .int ≤ 4 by decide)) (Nat.le_of_ble_eq_true rfl)) (by rw [hM']; exact Nat.le_trans h4 (Nat.le_of_ble_eq_true rfl)) rfl rfl (by rw [hN']; omega) (by rw [hN', hM']; omega)
  have hcA := so_nm4 C9.1 fA
  have hcomp := so_nm0 C9.1 fC
  subst hcA; subst hcomp
  rw [hN', hM'] at X' step
  have hTh : (T.setVm vm₁).heap = H := hT
  obtain ⟨f1, f2, -, -⟩ := Jvm.Free.Multi.fill_facts (T.setVm vm₁) (tA 4) (tA 0) N M (defaultValue .int) N
  have hold : ∀ x : Nat, x < H.size → (Jvm.Free.Multi.fill (T.setVm vm₁) (tA 4) (tA 0) N M (defaultValue .int) N).heap[x]? = H[x]? := fun x hx => by
    have := Jvm.Free.Multi.fill_old (T.setVm vm₁) (tA 4) (tA 0) N M (defaultValue .int) (a := x) (by rw [hTh]; exact hx) N
    rw [hTh] at this
    exact this
  have hrow : ∀ j : Nat, j < N → (Jvm.Free.Multi.fill (T.setVm vm₁) (tA 4) (tA 0) N M (defaultValue .int) N).heap[H.size + 1 + j]? = some (vp_cell (tA 0) (M, .inl (fun _ => 0))) := fun j hj => by
    have := Jvm.Free.Multi.fill_inner (T.setVm vm₁) (tA 4) (tA 0) N M (defaultValue .int) N j hj
    rw [hTh] at this
    rw [this]
    congr 1
    exact arrV_new (tA 0) M (.int 0)
  generalize Jvm.Free.Multi.fill (T.setVm vm₁) (tA 4) (tA 0) N M (defaultValue .int) N = F at *
  rw [hTh] at f1 f2
  rw [vr_outer] at f2
  have hfa : ∀ a, a < 900000 → so_fa n0 b0 sa a = HL.size + a := fun a ha => by rw [so_faK (by omega), C10]
  obtain ⟨i1, i2⟩ := ab_newb_IG h N M
  have hz := hR.2.2.2.2
  have hRn : so_R D tA (so_fa n0 b0 sa) HL (ab_newb h N M) F.heap locs := by
    refine so_R_grow hR (j := 1 + N) (by rw [q3]; omega) (fun a ha => by rw [ab_newb_K, if_neg (by omega), if_neg (by omega)]) (fun a ha => by rw [ab_newb_P, if_neg (by omega), if_neg (by omega)]) i1 i2 (fun a g1 g2 => ?_) hold (by omega) (by omega) (by omega)
    rw [hfa a (by omega)]
    by_cases ha : a = ab_N h
    · subst ha
      have hK := ab_newb_K h N M (ab_N h)
      rw [if_pos rfl] at hK
      have hP := ab_newb_P h N M (ab_N h)
      rw [if_pos rfl] at hP
      rw [so_ent_q (t := 104) (by rw [hK]) (by omega), hK, hP]
      show F.heap[HL.size + ab_N h]? = some (vp_cell (tA 4) (N, _))
      rw [← hsz, f2, vp_cell_q]
      congr 2
      funext j
      dsimp only
      by_cases hj : j < N
      · rw [if_pos hj, if_pos hj]
        show va_rf (some (H.size + 1 + j)) = va_rf (some (so_fa n0 b0 sa (ab_N h + 1 + j)))
        rw [hfa _ (by omega), hsz]
        congr 2
        omega
      · rw [if_neg hj, if_neg hj]
        rfl
    · have hK := ab_newb_K h N M a
      rw [if_neg ha, if_pos (by omega)] at hK
      rw [so_row0 hK (by rw [i1]; exact (hz a (by omega)).1)]
      show F.heap[HL.size + a]? = _
      have h6 := hrow (a - (ab_N h + 1)) (by omega)
      rw [show H.size + 1 + (a - (ab_N h + 1)) = HL.size + a by omega] at h6
      exact h6
  have kk := k1 ls F.heap locs (cells + 1 + N) (slots + N + N * M) hl hRn (by rw [q1]; omega) (by rw [q2]; omega) F rfl X'
  rw [show so_S (so_fa n0 b0 sa) (.ref (ab_N h) :: S) = .ref (so_fa n0 b0 sa (ab_N h)) :: so_S (so_fa n0 b0 sa) S from rfl, hfa _ (by omega), ← hsz, ← hT] at kk
  obtain ⟨t, a1, b1⟩ := kk
  exact ⟨t, step t a1, b1⟩
end SOUND

