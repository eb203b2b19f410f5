section SOUND
variable {p : Program} {l : Launch} {e : Env} {R : Room} {s : State} {m : MethodId} {args : Array Value} {below : List Frame} {meth : Method} {c : Code} {Q : State → Prop}
variable {D : va_G} {tA : Nat → ClassId} {n0 b0 : Nat} {sa : Nat → Nat} {HL : Heap} {XL : Nat} {xs : Nat → Int32} {St : State → Prop} {y : Nat} {c0 z0 : Nat}
variable {pc len : Nat} {L : ab_L} {S r : ab_S} {h : ab_H}

theorem so_new (C : so_Cx p l s m args meth c D tA n0 b0 sa HL XL xs St y c0) {k ci : Nat} (hd : decode (ab_b y) pc = .ok (.new k, 3)) (hk : ab_lkN (ab_c y) k = some ci) (hci : ci < 13) (hCN : ab_C h = ab_N h) (hN : ab_N h < 900000) (hC : ab_C h + 1 ≤ c0 + R.cells) (hZ : ab_Z h + ab_cnt ci ≤ z0 + R.slots)
    (k1 : so_G p l e R s m args below meth c Q D tA (so_fa n0 b0 sa) HL y c0 z0 (pc + 3) L (.ref (ab_N h) :: S) (ab_new h ci 0 (ab_cnt ci) (fun _ => none))) : so_G p l e R s m args below meth c Q D tA (so_fa n0 b0 sa) HL y c0 z0 pc L S h := by
  intro ls H locs cells slots hl hR hc hs T hT X
  obtain ⟨C1, C2, C3, C4, C5, C6, C7, C8, ⟨A1, A2, A3⟩, C10, C11, C12, C13, C14⟩ := C
  have hsz := so_end (D := D) (tA := tA) (b0 := b0) (sa := sa) hT X hR C10 C13 hc hCN
  have hq : ∃ q, ta_cl[ci]? = some q := by
    cases hq : ta_cl[ci]? with
    | some q => exact ⟨q, rfl⟩
    | none =>
      have := List.getElem?_eq_none_iff.mp hq
      rw [ta_cl_len] at this
      omega
  obtain ⟨q, hq⟩ := hq
  have hcnt : ab_cnt ci = q.2.2 := by unfold ab_cnt; rw [hq]
  have hKn := A1.1 ci _ hq
  have hw1 := so_lkN hk
  rw [← so_clnm hq hci] at hw1
  have hin := so_init (ci := ci) (by omega)
  rw [← so_clnm hq hci] at hin
  have hfa : so_fa n0 b0 sa (ab_N h) = H.size := by
    rw [so_faN hN, hsz, C10]
  refine (?_ : W p l e R s m args below meth c H locs cells slots Q (F0 m pc ls (so_S (so_fa n0 b0 sa) S))) T hT X
  refine W.newcK (n := q.2.2) C1 C2 C6 (so_word C8 hw1 rfl) (so_word C8 (so_inst hq hci) rfl) (so_word C8 hin rfl) rfl hd (by omega) (by omega) hKn.2.1 rfl (fun H1 kC hkC e1 z1 o1 => ?_)
  have hK0 : ab_K (ab_new h ci 0 (ab_cnt ci) (fun _ => none)) (ab_N h) = (ci, 0) := so_newK
  have hP0 : ab_P (ab_new h ci 0 (ab_cnt ci) (fun _ => none)) (ab_N h) = (fun _ => none) := so_newP
  have hI0 : ab_I (ab_new h ci 0 (ab_cnt ci) (fun _ => none)) (ab_N h) = (fun _ => 0) := by
    rw [so_newI]
    exact (hR.2.2.2.2 (ab_N h) (Nat.le_refl _)).1
  have hat : va_at D ta_cl (H.size, so_ent (so_fa n0 b0 sa) tA (ab_new h ci 0 (ab_cnt ci) (fun _ => none)) (ab_N h)) H1 := by
    rw [so_ent_o (by rw [hK0]) hci]
    refine ⟨q, hq, (u_born (fun k => ((parseFieldDescriptor (q.2.1 k).2.2.1).getD .int)) C8 (so_lays hq) hKn hkC e1 (so_pfd hq)).to (fun j hj => ?_)⟩
    have hf := so_fs_at (fa := so_fa n0 b0 sa) (h := ab_new h ci 0 (ab_cnt ci) (fun _ => none)) (a := ab_N h) (ci := ci) (j := j) (by rw [hcnt]; exact hj)
    unfold vp_V
    rw [List.getD_eq_getElem?_getD, hf]
    show defaultValue ((parseFieldDescriptor (q.2.1 j).2.2.1).getD .int) = so_fv _ _ _ _ _
    unfold so_fv ab_ref
    rw [hq, hP0, hI0]
    by_cases hdesc : (q.2.1 j).2.2.1 = "I"
    · simp only [hdesc, ne_eq, not_true_eq_false, decide_false, Bool.false_eq_true, if_false]
      rfl
    · obtain ⟨ty, hty, htr⟩ := so_rfd hq hj hdesc
      rw [hty]
      simp only [hdesc, ne_eq, not_false_eq_true, decide_true, if_true]
      rcases htr with ⟨n, rfl⟩ | ⟨t, rfl⟩ <;> rfl
  have kk := k1 ls H1 locs (cells + 1) (slots + q.2.2) hl (so_R_new hR C10 hN hsz z1 o1 hat) (by rw [so_newC]; omega) (by rw [so_newZ]; omega)
  rw [show so_S (so_fa n0 b0 sa) (.ref (ab_N h) :: S) = .ref (so_fa n0 b0 sa (ab_N h)) :: so_S (so_fa n0 b0 sa) S from rfl, hfa] at kk
  exact kk
theorem so_newa {nN : Nat} {ent0 : (Nat → Int32) ⊕ (Nat → Int64) ⊕ (Nat → UInt32) ⊕ (Nat → UInt64) ⊕ (Nat → Option Nat)} (C : so_Cx p l s m args meth c D tA n0 b0 sa HL XL xs St y c0) {aty : ArrayType} {ty : FieldType} {t : Nat} {vd : Value} (hty : newarray.typeOf aty = ty) (hvd : defaultValue ty = vd) (hcb : componentBytes ty ≤ 8) (haw : Cond.arrayClass ty ∈ lw_tbl) (hname : ∀ cA, s.vm.findClass ("[" ++ ty.toString) = some cA → cA = tA (t - 100)) (hent : so_ent (so_fa n0 b0 sa) tA (ab_new h t nN nN (fun _ => none)) (ab_N h) = .inl (tA (t - 100), nN, ent0)) (hcell : ∀ cA, vp_cell cA (nN, ent0) = arrV cA nN (fun _ => vd))
    (hd : decode (ab_b y) pc = .ok (.newarray aty, 2)) {n : Int32} (hn : 0 ≤ n) (hnN : n.toNatClampNeg = nN) (hnb : nN ≤ 100000) (hCN : ab_C h = ab_N h) (hN : ab_N h < 900000) (hC : ab_C h + 1 ≤ c0 + R.cells) (hZ : ab_Z h + nN ≤ z0 + R.slots)
    (k1 : so_G p l e R s m args below meth c Q D tA (so_fa n0 b0 sa) HL y c0 z0 (pc + 2) L (.ref (ab_N h) :: S) (ab_new h t nN nN (fun _ => none))) : so_G p l e R s m args below meth c Q D tA (so_fa n0 b0 sa) HL y c0 z0 pc L (.int n :: S) h := by
  intro ls H locs cells slots hl hR hc hs T hT X
  subst hty
  obtain ⟨C1, C2, C3, C4, C5, C6, C7, C8, ⟨A1, A2, A3⟩, C10, C11, C12, C13, C14⟩ := C
  have hsz := so_end (D := D) (tA := tA) (b0 := b0) (sa := sa) hT X hR C10 C13 hc hCN
  have hfa : so_fa n0 b0 sa (ab_N h) = H.size := by
    rw [so_faN hN, hsz, C10]
  have hby : nN * componentBytes (newarray.typeOf aty) ≤ 536870912 := Nat.le_trans (Nat.mul_le_mul hnb hcb) (Nat.le_of_ble_eq_true rfl)
  refine (?_ : W p l e R s m args below meth c H locs cells slots Q (F0 m pc ls (.int n :: so_S (so_fa n0 b0 sa) S))) T hT X
  refine va_newaK C1 C2 (so_word C8 haw rfl) rfl hd rfl (so_nn hn) hnN hby (by omega) (by omega) rfl (fun H1 cA e1 z1 o1 hAr hNm => ?_)
  have hcA := hname cA hNm
  subst hcA
  have hat : va_at D ta_cl (H.size, so_ent (so_fa n0 b0 sa) tA (ab_new h t nN nN (fun _ => none)) (ab_N h)) H1 := by
    rw [hent]
    show H1[H.size]? = some (vp_cell (tA (t - 100)) (nN, ent0))
    rw [hcell, e1, hvd]
  have kk := k1 ls H1 locs (cells + 1) (slots + nN) hl (so_R_new hR C10 hN hsz z1 o1 hat) (by rw [so_newC]; omega) (by rw [so_newZ]; omega)
  rw [show so_S (so_fa n0 b0 sa) (.ref (ab_N h) :: S) = .ref (so_fa n0 b0 sa (ab_N h)) :: so_S (so_fa n0 b0 sa) S from rfl, hfa] at kk
  exact kk
end SOUND

