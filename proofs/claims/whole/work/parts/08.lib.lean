theorem ta_rfd : ta_cl.all (fun q => (List.range q.2.2).all (fun k => decide ((q.2.1 k).2.2.1 = "I") || (match parseFieldDescriptor (q.2.1 k).2.2.1 with
  | some (.object _) => true
  | some (.array _) => true
  | _ => false))) = true := by decide +kernel
theorem ta_clnm : (List.range 13).all (fun i => (ta_cl[i]?).map (fun q => q.1) == some (ta_nm i)) = true := by decide +kernel
theorem so_clnm {ci : Nat} {q : vw_C} (h : ta_cl[ci]? = some q) (hci : ci < 13) : q.1 = ta_nm ci := by
  have h1 := List.all_eq_true.mp ta_clnm ci (List.mem_range.mpr hci)
  rw [h] at h1
  simpa using h1
theorem so_rfd {ci j : Nat} {q : vw_C} (h : ta_cl[ci]? = some q) (hj : j < q.2.2) (hn : (q.2.1 j).2.2.1 ≠ "I") : ∃ ty, parseFieldDescriptor (q.2.1 j).2.2.1 = some ty ∧ ((∃ n, ty = .object n) ∨ ∃ t, ty = .array t) := by
  have h1 := List.all_eq_true.mp (List.all_eq_true.mp ta_rfd q (List.mem_of_getElem? h)) j (List.mem_range.mpr hj)
  rw [Bool.or_eq_true, decide_eq_true_eq] at h1
  rcases h1 with h1 | h1
  · exact absurd h1 hn
  · cases hp : parseFieldDescriptor (q.2.1 j).2.2.1 with
    | none => rw [hp] at h1; cases h1
    | some ty =>
      rw [hp] at h1
      refine ⟨ty, rfl, ?_⟩
      cases ty with
      | object n => exact Or.inl ⟨n, rfl⟩
      | array t => exact Or.inr ⟨t, rfl⟩
      | _ => cases h1
set_option maxRecDepth 100000 in
theorem ta_libw : [Cond.static Lib.Math.max.name, .initialized "java/lang/Math", .code Lib.Math.max.name Lib.Math.max.code 2 (some .int), .static Lib.Math.min.name, .code Lib.Math.min.name Lib.Math.min.code 2 (some .int), .native arraycopyName, .static arraycopyName, .initialized "java/lang/System", .instanceMethod Lib.objectInit, .code Lib.objectInit ⟨#[0xb1]⟩ 1 none, .arrayClass .int, .arrayClass .byte, .arrayClass .boolean, .arrayClass .long].all (fun w => decide (w ∈ lw_tbl)) = true := by decide +kernel
theorem so_libw {w : Cond} (i : Nat) (h : [Cond.static Lib.Math.max.name, .initialized "java/lang/Math", .code Lib.Math.max.name Lib.Math.max.code 2 (some .int), .static Lib.Math.min.name, .code Lib.Math.min.name Lib.Math.min.code 2 (some .int), .native arraycopyName, .static arraycopyName, .initialized "java/lang/System", .instanceMethod Lib.objectInit, .code Lib.objectInit ⟨#[0xb1]⟩ 1 none, .arrayClass .int, .arrayClass .byte, .arrayClass .boolean, .arrayClass .long][i]? = some w) : w ∈ lw_tbl :=
  of_decide_eq_true (List.all_eq_true.mp ta_libw w (List.mem_of_getElem? h))
theorem so_lkM {c k kd y : Nat} (h : ab_lkM c k = some (kd, y)) : ∃ p, (c, k, kd, y, p) ∈ ta_LM ∧ ta_wL (c, k, kd, y, p) ∈ lw_tbl := by
  obtain ⟨e, he, he2⟩ := Option.map_eq_some_iff.mp h
  obtain ⟨hm, hq2⟩ := so_find he
  rw [Bool.and_eq_true, beq_iff_eq, beq_iff_eq] at hq2
  obtain ⟨c', k', kd', y', p'⟩ := e
  obtain ⟨e1, e2⟩ := hq2
  cases he2
  dsimp only at e1 e2
  subst e1; subst e2
  exact ⟨p', hm, ta_wkm ta_LM_ok _ hm⟩
section SOUND
variable {p : Program} {l : Launch} {e : Env} {R : Room} {s : State} {m : MethodId} {args : Array Value} {below : List Frame} {meth : Method} {c : Code} {Q : State → Prop}
variable {D : va_G} {tA : Nat → ClassId} {n0 b0 : Nat} {sa : Nat → Nat} {HL : Heap} {XL : Nat} {xs : Nat → Int32} {St : State → Prop} {y : Nat} {c0 z0 : Nat}
variable {pc len : Nat} {L : ab_L} {S r : ab_S} {h : ab_H}

theorem so_max (C : so_Cx p l s m args meth c D tA n0 b0 sa HL XL xs St y c0) (hF : 6 ≤ R.frames) (hLo : 100 ≤ R.locals) (hC : ab_C h ≤ c0 + R.cells) (hZ : ab_Z h ≤ z0 + R.slots) {k y' : Nat} (hd : decode (ab_b y) pc = .ok (.invokestatic k, 3)) (hk : ab_lkM (ab_c y) k = some (7, y')) {x z : Int32} (hr : ab_cat S ≤ 8) (k1 : so_G p l e R s m args below meth c Q D tA (so_fa n0 b0 sa) HL y c0 z0 (pc + 3) L (.int (if x < z then z else x) :: S) h) : so_G p l e R s m args below meth c Q D tA (so_fa n0 b0 sa) HL y c0 z0 pc L (.int z :: .int x :: S) h := by
  intro ls H locs cells slots hl hR hc hs
  obtain ⟨C1, C2, C3, C4, C5, C6, C7, C8, C9⟩ := C
  obtain ⟨p0, -, hw⟩ := so_lkM hk
  have hcs := so_cat (so_fa n0 b0 sa) S
  exact va_mmax C1 C2 (C3.trans hl.1.symm) C6 (so_word C8 hw rfl) (so_word C8 (so_libw 0 rfl) rfl) (so_word C8 (so_libw 1 rfl) rfl) (so_word C8 (so_libw 2 rfl) rfl) (by omega) (by show ((so_S _ S).map _).sum + 13 ≤ _; omega) (by omega) (by omega) hd (k1 ls H locs cells slots hl hR hc hs)
theorem so_min (C : so_Cx p l s m args meth c D tA n0 b0 sa HL XL xs St y c0) (hF : 6 ≤ R.frames) (hLo : 100 ≤ R.locals) (hC : ab_C h ≤ c0 + R.cells) (hZ : ab_Z h ≤ z0 + R.slots) {k y' : Nat} (hd : decode (ab_b y) pc = .ok (.invokestatic k, 3)) (hk : ab_lkM (ab_c y) k = some (8, y')) {x z : Int32} (hr : ab_cat S ≤ 8) (k1 : so_G p l e R s m args below meth c Q D tA (so_fa n0 b0 sa) HL y c0 z0 (pc + 3) L (.int (if z < x then z else x) :: S) h) : so_G p l e R s m args below meth c Q D tA (so_fa n0 b0 sa) HL y c0 z0 pc L (.int z :: .int x :: S) h := by
  intro ls H locs cells slots hl hR hc hs
  obtain ⟨C1, C2, C3, C4, C5, C6, C7, C8, C9⟩ := C
  obtain ⟨p0, -, hw⟩ := so_lkM hk
  have hcs := so_cat (so_fa n0 b0 sa) S
  exact va_mmin C1 C2 (C3.trans hl.1.symm) C6 (so_word C8 hw rfl) (so_word C8 (so_libw 3 rfl) rfl) (so_word C8 (so_libw 1 rfl) rfl) (so_word C8 (so_libw 4 rfl) rfl) (by omega) (by show ((so_S _ S).map _).sum + 13 ≤ _; omega) (by omega) (by omega) hd (k1 ls H locs cells slots hl hR hc hs)
theorem so_oini (C : so_Cx p l s m args meth c D tA n0 b0 sa HL XL xs St y c0) (hF : 6 ≤ R.frames) (hLo : 100 ≤ R.locals) {k y' : Nat} (hd : decode (ab_b y) pc = .ok (.invokespecial k, 3)) (hk : ab_lkM (ab_c y) k = some (6, y')) {a : Nat} (hr : ab_cat S ≤ 8) (k1 : so_G p l e R s m args below meth c Q D tA (so_fa n0 b0 sa) HL y c0 z0 (pc + 3) L S h) : so_G p l e R s m args below meth c Q D tA (so_fa n0 b0 sa) HL y c0 z0 pc L (.ref a :: S) h := by
  intro ls H locs cells slots hl hR hc hs
  obtain ⟨C1, C2, C3, C4, C5, C6, C7, C8, C9⟩ := C
  obtain ⟨p0, -, hw⟩ := so_lkM hk
  have hcs := so_cat (so_fa n0 b0 sa) S
  refine W.objInit C1 C2 C6 (so_word C8 hw rfl) (so_word C8 (so_libw 8 rfl) rfl) (so_word C8 (so_libw 9 rfl) rfl) rfl (hl.1.trans C3.symm) rfl hd (by omega) ?_ (k1 ls H locs cells slots hl hR hc hs)
  show 2 * 0 + ((so_S _ S).map _).sum + 12 ≤ _
  omega
theorem so_ent_wC {fa : Nat → Nat} {a b sp dp n : Nat} : ∀ q, q ≠ b → so_ent fa tA (ab_wC h a b sp dp n) q = so_ent fa tA h q := by
  intro q hb
  have e : ab_I (ab_wC h a b sp dp n) q = ab_I h q := if_neg hb
  have e2 : so_fv fa (ab_wC h a b sp dp n) q = so_fv fa h q := by
    funext t k
    unfold so_fv
    rw [e]
    rfl
  unfold so_ent
  rw [e, e2]
  rfl
theorem so_nn {i : Int32} (h : 0 ≤ i) : ¬ i < 0 := fun q => absurd h (Int32.not_le.mpr q)
theorem so_copy (C : so_Cx p l s m args meth c D tA n0 b0 sa HL XL xs St y c0) (hF : 6 ≤ R.frames) (hLo : 100 ≤ R.locals) {k y' : Nat} (hd : decode (ab_b y) pc = .ok (.invokestatic k, 3)) (hk : ab_lkM (ab_c y) k = some (9, y')) {a b : Nat} {n dp sp : Int32} (ha : a < ab_N h) (hb : b < ab_N h) (hKa : (ab_K h a).1 = 100) (hKb : (ab_K h b).1 = 100) (h1 : 0 ≤ n) (h2 : 0 ≤ dp) (h3 : 0 ≤ sp) (h4 : sp.toNatClampNeg + n.toNatClampNeg ≤ (ab_K h a).2) (h5 : dp.toNatClampNeg + n.toNatClampNeg ≤ (ab_K h b).2) (hr : ab_cat S ≤ 8)
    (k1 : so_G p l e R s m args below meth c Q D tA (so_fa n0 b0 sa) HL y c0 z0 (pc + 3) L S (ab_wC h a b sp.toNatClampNeg dp.toNatClampNeg n.toNatClampNeg)) : so_G p l e R s m args below meth c Q D tA (so_fa n0 b0 sa) HL y c0 z0 pc L (.int n :: .int dp :: .ref b :: .int sp :: .ref a :: S) h := by
  intro ls H locs cells slots hl hR hc hs
  have hfa := C.2.2.2.2.2.2.2.2.2.1
  obtain ⟨C1, C2, C3, C4, C5, C6, C7, C8, C9⟩ := C
  obtain ⟨p0, -, hw⟩ := so_lkM hk
  have hcs := so_cat (so_fa n0 b0 sa) S
  have hea := so_ws_at (fa := so_fa n0 b0 sa) (tA := tA) ha
  have heb := so_ws_at (fa := so_fa n0 b0 sa) (tA := tA) hb
  rw [so_ent_a hKa (by omega) (by omega)] at hea
  rw [so_ent_a hKb (by omega) (by omega)] at heb
  have hD : va_D (so_A HL) (so_ws (so_fa n0 b0 sa) tA h) := so_D (b0 := b0) (sa := sa) (by rw [hfa]) hR.2.2.2.1
  refine va_copyi C1 C2 (C3.trans hl.1.symm) C6 (so_word C8 hw rfl) (so_word C8 (so_libw 5 rfl) rfl) (so_word C8 (so_libw 6 rfl) rfl) (so_word C8 (so_libw 7 rfl) rfl) C9.1.1 hR.1 hD hR.2.1 a b 0 0 hea heb (ty := .int) rfl rfl rfl (so_nn h3) (so_nn h2) (so_nn h1) h4 h5 (fun _ _ => rfl) (by omega) ?_ hd (fun H1 locs1 hP _ hS => ?_)
  · have hq : nativeFrameWords "java/lang/System" "arraycopy" 5 ≤ 7 := by decide
    show ((so_S _ S).map _).sum + _ ≤ _
    omega
  have eI : ab_I (ab_wC h a b sp.toNatClampNeg dp.toNatClampNeg n.toNatClampNeg) b = va_cpy (ab_I h a) (ab_I h b) sp.toNatClampNeg dp.toNatClampNeg n.toNatClampNeg := if_pos rfl
  have hE : so_ent (so_fa n0 b0 sa) tA (ab_wC h a b sp.toNatClampNeg dp.toNatClampNeg n.toNatClampNeg) b = .inl (tA (100 - 100), (ab_K h b).2, .inl (va_cpy (ab_I h a) (ab_I h b) sp.toNatClampNeg dp.toNatClampNeg n.toNatClampNeg)) := (so_ent_a (h := ab_wC h a b sp.toNatClampNeg dp.toNatClampNeg n.toNatClampNeg) hKb (by omega) (by omega)).trans (by rw [eI]; rfl)
  rw [← hE] at hP
  rw [so_ws_set (h := h) (h' := ab_wC h a b sp.toNatClampNeg dp.toNatClampNeg n.toNatClampNeg) rfl hb so_ent_wC] at hP
  obtain ⟨R1, R2, R3, R4, R5⟩ := hR
  refine k1 ls H1 locs1 cells slots hl ⟨hP, hS, R3, R4, fun q hq => ?_⟩ hc hs
  have hqb : q ≠ b := by
    have : ab_N (ab_wC h a b sp.toNatClampNeg dp.toNatClampNeg n.toNatClampNeg) = ab_N h := rfl
    omega
  have e : ab_I (ab_wC h a b sp.toNatClampNeg dp.toNatClampNeg n.toNatClampNeg) q = ab_I h q := if_neg hqb
  rw [e]
  exact R5 q hq
theorem so_ent_wP {fa : Nat → Nat} {a j b : Nat} : ∀ q, q ≠ a → so_ent fa tA (ab_wP h a j b) q = so_ent fa tA h q := by
  intro q hb
  have e : ab_P (ab_wP h a j b) q = ab_P h q := if_neg hb
  have e2 : so_fv fa (ab_wP h a j b) q = so_fv fa h q := by
    funext t k
    unfold so_fv
    rw [e]
    rfl
  unfold so_ent
  rw [e, e2]
  rfl
theorem so_putP (C : so_Cx p l s m args meth c D tA n0 b0 sa HL XL xs St y c0) {k : Nat} (hd : decode (ab_b y) pc = .ok (.putfield k, 3)) {ci j a b : Nat} (hini : (ab_y y).name = "<init>") (hcc : ab_c y = ci) (hlk : ab_lkF (ab_c y) k = some (ci, j, 0)) (ha : a < ab_N h) (hK : (ab_K h a).1 = ci) (hr : ab_ref ci j = true) (hfi : ab_fin ci j = true)
    (k1 : so_G p l e R s m args below meth c Q D tA (so_fa n0 b0 sa) HL y c0 z0 (pc + 3) L S (ab_wP h a j b)) : so_G p l e R s m args below meth c Q D tA (so_fa n0 b0 sa) HL y c0 z0 pc L (.ref b :: .ref a :: S) h := by
  intro ls H locs cells slots hl hR hc hs
  have hfa := C.2.2.2.2.2.2.2.2.2.1
  obtain ⟨C1, C2, C3, C4, C5, C6, C7, C8, ⟨A1, A2, A3⟩, C10⟩ := C
  obtain ⟨q, hq, hci, hj, hown, hcnt, hw⟩ := so_lkF hlk
  rw [if_pos rfl] at hw
  obtain ⟨R1, R2, R3, R4, R5⟩ := hR
  have he := so_ws_at (fa := so_fa n0 b0 sa) (tA := tA) ha
  rw [so_ent_o hK hci] at he
  have hD : va_D (so_A HL) (so_ws (so_fa n0 b0 sa) tA h) := so_D (b0 := b0) (sa := sa) (by rw [hfa]) R4
  have hr0 := hr
  unfold ab_ref at hr
  unfold ab_fin at hfi
  rw [hq] at hr hfi
  have hdesc : (q.2.1 j).2.2.1 ≠ "I" := by simpa using hr
  obtain ⟨ty, hty, htr⟩ := so_rfd hq hj hdesc
  have hKx : (ab_K (ab_wP h a j b) a).1 = ci := hK
  have hset : ((List.range (ab_cnt ci)).map (so_fv (so_fa n0 b0 sa) h a ci)).set j (.ref (so_fa n0 b0 sa b)) = (List.range (ab_cnt ci)).map (so_fv (so_fa n0 b0 sa) (ab_wP h a j b) a ci) := by
    apply List.ext_getElem?
    intro i
    by_cases hi : i < ab_cnt ci
    · rw [so_fs_at hi]
      by_cases hij : i = j
      · subst hij
        rw [List.getElem?_set_self (by simpa using hi)]
        have e : ab_P (ab_wP h a i b) a i = some b := by
          show (if a = a then (fun k => if k = i then some b else ab_P h a k) else ab_P h a) i = some b
          rw [if_pos rfl]; exact if_pos rfl
        unfold so_fv
        rw [if_pos hr0, e]
        rfl
      · rw [List.getElem?_set_ne (Ne.symm hij), so_fs_at hi]
        have e : ab_P (ab_wP h a j b) a i = ab_P h a i := by
          show (if a = a then (fun k => if k = j then some b else ab_P h a k) else ab_P h a) i = _
          rw [if_pos rfl]; exact if_neg hij
        unfold so_fv
        rw [e]
        rfl
    · rw [List.getElem?_eq_none (by simpa using hi), List.getElem?_eq_none (by simpa using hi)]
  refine va_putF C1 C2 C8 (so_lays hq) (fun k => ((parseFieldDescriptor (q.2.1 k).2.2.1).getD .int)) (so_pfd hq) (so_nmd hq) C6 A1 R1 hD R2 a he hq j hj (so_word C8 hw rfl) (by rw [hown]; exact fun _ h => h) hfi (C7 hini) (by rw [hown, hcc]; exact so_clnm hq hci) (ty := ty) hty ?_ ?_ (by simpa [hcnt] using hj) hd (fun H1 locs1 hP _ hS => ?_)
  · rcases htr with ⟨n, rfl⟩ | ⟨t, rfl⟩ <;> rfl
  · rcases htr with ⟨n, rfl⟩ | ⟨t, rfl⟩ <;> rfl
  · have hP2 : va_P D ta_cl ((so_ws (so_fa n0 b0 sa) tA h).set a (so_fa n0 b0 sa a, .inr (ci, ((List.range (ab_cnt ci)).map (so_fv (so_fa n0 b0 sa) h a ci)).set j (.ref (so_fa n0 b0 sa b))))) H1 := hP
    rw [hset, ← so_ent_o (fa := so_fa n0 b0 sa) (tA := tA) hKx hci] at hP2
    rw [so_ws_set (h := h) (h' := ab_wP h a j b) rfl ha so_ent_wP] at hP2
    exact k1 ls H1 locs1 cells slots hl ⟨hP2, hS, R3, R4, R5⟩ hc hs
end SOUND

