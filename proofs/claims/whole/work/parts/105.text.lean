/-! String constants: what the JDK's own length and charAt answer of them -/
def so_sb (t j : Nat) : Int32 := Int32.ofNat ((ta_tx t).toList.getD j ' ').toNat
def so_St (HL : Heap) (sa : Nat → Nat) (U : State) : Prop :=
  (∀ e ∈ ta_LS, vk_R (ta_nm e.1) e.2.1 (ta_tx e.2.2.1) (sa e.2.2.1) U) ∧
  (∀ t, t < 8 → ∃ av : Nat, va_O "java/lang/String" (sa t) (so_A HL) U HL ∧ va_OF "java/lang/String" "coder" "B" (.int 0) (sa t) (so_A HL) U HL ∧ va_OF "java/lang/String" "value" "[B" (.ref av) (sa t) (so_A HL) U HL ∧ va_T .byte av (ta_tx t).length (fun j => .int (so_sb t j)) (so_A HL) U HL) ∧
  va_Z "java/lang/String" "COMPACT_STRINGS" "Z" (.int 1) (so_A HL) U HL ∧ va_Zq "jdk/internal/util/Preconditions" "SIOOBE_FORMATTER" "Ljava/util/function/BiFunction;" (so_A HL) U HL
theorem so_St_moved {HL : Heap} {sa : Nat → Nat} (s U : State) (h : so_St HL sa s) (hW : s.WarmedH U.vm) : so_St HL sa U := by
  obtain ⟨h1, h2, h3, h4⟩ := h
  refine ⟨fun e he => vk_R.warm hW (h1 e he), fun t ht => ?_, va_Z.moved hW.alike h3, va_Zq.moved hW.alike h4⟩
  obtain ⟨av, g1, g2, g3, g4⟩ := h2 t ht
  exact ⟨av, va_O.moved hW.alike g1, va_OF.moved hW.alike g2, va_OF.moved hW.alike g3, va_T.moved hW.alike g4⟩
/-- what a JDK method's call finds: the texts, and the cells below HL's end -/
def jc_F (HL : Heap) (sa : Nat → Nat) (U : State) : Prop := so_St HL sa U ∧ HL.size ≤ U.heap.size ∧ ∀ q : Nat, q < HL.size → U.heap[q]? = HL[q]?
def jc_Q (v : Option Value) : Array Value → State → Outcome → State → Prop := fun _ st oc t => oc = .returned v ∧ t.heap = st.heap
theorem jc_blind {HL : Heap} {sa : Nat → Nat} {As : List Value} : FrameBlind (va_Pc As (jc_F HL sa)) := fun a U g mk hp => ⟨hp.1, so_St_moved _ _ hp.2.1 (State.WarmedH.refl U), hp.2.2⟩
theorem jc_cont {p : Program} {l : Launch} {e : Env} {R : Room} {s : State} {m : MethodId} {args : Array Value} {below : List Frame} {meth : Method} {c : Code} {H : Heap} {locs : List Loc} {cells slots pc : Nat} {Q : State → Prop} {ls : Array Slot} {st0 rest : List Value} {a : Array Value} {v : Option Value}
    (hr : va_Run p l e R s m args below meth c H locs cells slots 0 0 (F0 m pc ls st0) rest (jc_Q v a) (fun _ => False)) (k : W p l e R s m args below meth c H locs cells slots Q (F0 m (pc + 3) ls (v.toList ++ rest))) : W p l e R s m args below meth c H locs cells slots Q (F0 m pc ls st0) := by
  intro T hT X
  obtain ⟨w, st₀, t, T', L, h0, X', hL, e1, e2, ⟨hv, hh⟩, st⟩ := hr T hT X
  cases hv
  have hL0 : L = [] := by
    cases L with
    | nil => rfl
    | cons z r => exact absurd (hL z List.mem_cons_self) id
  subst hL0
  rw [List.append_nil] at X'
  obtain ⟨t2, a1, b1⟩ := k T' (by rw [e1, hh, h0]) X'
  exact ⟨t2, st t2 a1, b1⟩
abbrev jc_S : String := "java/lang/String"
def jy_coder : MethodName := ⟨jc_S, "coder", "()B"⟩
def jy_length : MethodName := ⟨jc_S, "length", "()I"⟩
def jy_latin : MethodName := ⟨jc_S, "isLatin1", "()Z"⟩
def jy_charAt : MethodName := ⟨jc_S, "charAt", "(I)C"⟩
def jy_lchar : MethodName := ⟨"java/lang/StringLatin1", "charAt", "([BI)C"⟩
def jy_check : MethodName := ⟨jc_S, "checkIndex", "(II)V"⟩
def jy_pcheck : MethodName := ⟨"jdk/internal/util/Preconditions", "checkIndex", "(IILjava/util/function/BiFunction;)I"⟩
def jc_words : List Cond := [.code jy_coder prog_23_method_152_code 1 (some .byte), .code jy_length prog_23_method_54_code 1 (some .int), .code jy_latin prog_23_method_154_code 1 (some .boolean), .code jy_charAt prog_23_method_56_code 2 (some .char), .code jy_lchar prog_24_method_2_code 2 (some .char), .code jy_check prog_23_method_155_code 2 none, .code jy_pcheck prog_31_method_11_code 3 (some .int),
  .instanceMethod jy_coder, .selects jc_S jy_coder jy_coder, .instanceMethod jy_length, .selects jc_S jy_length jy_length, .instanceMethod jy_latin, .selects jc_S jy_latin jy_latin, .instanceMethod jy_charAt, .selects jc_S jy_charAt jy_charAt,
  .static jy_lchar, .static jy_check, .static jy_pcheck, .initialized jc_S, .initialized "java/lang/StringLatin1", .initialized "jdk/internal/util/Preconditions",
  .methodLink jc_S 335 jy_coder, .methodLink jc_S 492 jy_latin, .methodLink jc_S 495 jy_lchar, .methodLink "java/lang/StringLatin1" 9 jy_check, .methodLink jc_S 1059 jy_pcheck,
  .fieldLink jc_S 38 jc_S "COMPACT_STRINGS" "Z", .fieldLink jc_S 9 jc_S "value" "[B", .fieldLink jc_S 15 jc_S "coder" "B", .fieldLink jc_S 1053 "jdk/internal/util/Preconditions" "SIOOBE_FORMATTER" "Ljava/util/function/BiFunction;"]
set_option maxRecDepth 100000 in
theorem jc_words_ok : ∀ w ∈ jc_words, w ∈ lw_tbl := by
  have h : (jc_words.drop 7).all (fun w => decide (w ∈ lw_tbl)) = true := by decide +kernel
  have h7 : ∀ w ∈ jc_words.take 7, w ∈ lw_tbl := by
    exact List.forall_mem_cons.mpr ⟨ta_k3 138 rfl, List.forall_mem_cons.mpr ⟨ta_k3 134 rfl, List.forall_mem_cons.mpr ⟨ta_k3 148 rfl, List.forall_mem_cons.mpr ⟨ta_k3 144 rfl, List.forall_mem_cons.mpr ⟨ta_k3 151 rfl, List.forall_mem_cons.mpr ⟨ta_k3 154 rfl, List.forall_mem_cons.mpr ⟨ta_k3 159 rfl, fun _ h => absurd h List.not_mem_nil⟩⟩⟩⟩⟩⟩⟩
  intro w hw
  rw [← List.take_append_drop 7 jc_words] at hw
  rcases List.mem_append.mp hw with hw | hw
  · exact h7 w hw
  · exact of_decide_eq_true (List.all_eq_true.mp h w hw)
theorem jc_w {w : Cond} {args : Array Value} {s : State} (hts : ∀ w ∈ so_T, w.before args s = true) (i : Nat) (h : jc_words[i]? = some w) (hg : goodWord w = true) : w.before args s = true := hts w (so_in (jc_words_ok w (List.mem_of_getElem? h)) hg)
theorem jc_in {w : Cond} (i : Nat) (h : jc_words[i]? = some w) : w ∈ lw_tbl := jc_words_ok w (List.mem_of_getElem? h)
theorem jc_G {ws : List Cond} (h : ∀ w ∈ ws, w ∈ lw_tbl ∧ goodWord w = true) : GoodIn so_T ws := fun w hw => ⟨so_in (h w hw).1 (h w hw).2, good_of_word (h w hw).2⟩
theorem jc_GT {c : Cond} (h : c ∈ lw_tbl) (hg : goodWord c = true) : ∀ w ∈ c :: so_T, w ∈ lw_tbl ∧ goodWord w = true := by
  intro w hw
  rcases List.mem_cons.mp hw with rfl | hw
  · exact ⟨h, hg⟩
  · exact ⟨(List.mem_filter.mp hw).1, (List.mem_filter.mp hw).2⟩
theorem jc_GV {own C : String} {idx : Nat} {y : MethodName} {c : Cond} (h1 : Cond.methodLink own idx y ∈ lw_tbl) (h2 : Cond.instanceMethod y ∈ lw_tbl) (h3 : Cond.selects C y y ∈ lw_tbl) (h4 : Cond.initialized C ∈ lw_tbl) (h : c ∈ lw_tbl) (hg : goodWord c = true) : GoodIn so_T (wsV own idx C y (c :: so_T)) := jc_G (fun w hw => by
  unfold wsV at hw
  rcases List.mem_append.mp hw with hw | hw
  · simp only [List.mem_cons, List.not_mem_nil, or_false] at hw
    rcases hw with rfl | rfl | rfl | rfl
    · exact ⟨h1, rfl⟩
    · exact ⟨h2, rfl⟩
    · exact ⟨h3, rfl⟩
    · exact ⟨h4, rfl⟩
  · exact jc_GT h hg w hw)
theorem jc_GS {own : String} {idx : Nat} {y : MethodName} {c : Cond} (h1 : Cond.methodLink own idx y ∈ lw_tbl) (h2 : Cond.static y ∈ lw_tbl) (h4 : Cond.initialized y.cls ∈ lw_tbl) (h : c ∈ lw_tbl) (hg : goodWord c = true) : GoodIn so_T (va_wsS own idx y (c :: so_T)) := jc_G (fun w hw => by
  unfold va_wsS at hw
  rcases List.mem_append.mp hw with hw | hw
  · simp only [List.mem_cons, List.not_mem_nil, or_false] at hw
    rcases hw with rfl | rfl | rfl
    · exact ⟨h1, rfl⟩
    · exact ⟨h2, rfl⟩
    · exact ⟨h4, rfl⟩
  · exact jc_GT h hg w hw)
def jc_rm (f lo : Nat) : Room := { frames := f, cells := 0, slots := 0, locals := lo }
section JC
variable {l : Launch} {HL : Heap} {sa : Nat → Nat}
theorem jc_up {s : State} (h : jc_F HL sa s) : va_Z jc_S "COMPACT_STRINGS" "Z" (.int 1) (so_A HL) s s.heap ∧ va_Zq "jdk/internal/util/Preconditions" "SIOOBE_FORMATTER" "Ljava/util/function/BiFunction;" (so_A HL) s s.heap ∧ ∀ t, t < 8 → ∃ av : Nat, va_O jc_S (sa t) (so_A HL) s s.heap ∧ va_OF jc_S "coder" "B" (.int 0) (sa t) (so_A HL) s s.heap ∧ va_OF jc_S "value" "[B" (.ref av) (sa t) (so_A HL) s s.heap ∧ va_T .byte av (ta_tx t).length (fun j => .int (so_sb t j)) (so_A HL) s s.heap := by
  obtain ⟨⟨-, h2, h3, h4⟩, h5, h6⟩ := h
  have hk : ∀ a : Nat, a < HL.size → ¬ so_A HL a → s.heap[a]? = HL[a]? := fun a h _ => h6 a h
  refine ⟨va_Z.kept h3 hk, va_Zq.kept h4 hk, fun t ht => ?_⟩
  obtain ⟨av, g1, g2, g3, g4⟩ := h2 t ht
  exact ⟨av, va_O.kept g1 hk, va_OF.kept g2 hk, va_OF.kept g3 hk, va_T.kept g4 hk⟩
set_option maxHeartbeats 4000000 in
theorem jc_coder {t : Nat} (ht : t < 8) : Met l jy_coder (.code jy_coder prog_23_method_152_code 1 (some .byte) :: so_T) (jc_rm 0 0) (va_Pc [.ref (sa t)] (jc_F HL sa)) (jc_Q (some (.int 0))) 0 0 (fun _ => False) := by
  refine Met.ofW (cc := prog_23_method_152_code) (maxL := 1) (ret := some .byte) (by decide) rfl ?_
  intro p e s m args below meth c s₁ B hml hv
  obtain ⟨rfl, hF⟩ := hv
  have hx := B.exec
  have hb := B.bytes
  have hr := B.returns
  have hlocks := B.notSynchronized
  have hts := fun w hw => atoms_spec (ws := .code jy_coder prog_23_method_152_code 1 (some .byte) :: so_T) B.pre w (List.mem_cons_of_mem _ hw)
  have hown : s.vm.findClass jc_S = some m.cls := findClass_of_methodNamed B.named
  obtain ⟨u1, u2, u3⟩ := jc_up hF
  obtain ⟨av, g1, g2, g3, g4⟩ := u3 t ht
  have hl := lv_entry ([.ref (sa t)]) (n := 1) (Nat.le_of_ble_eq_true rfl)
  rw [lg_entry_eq]
  generalize (lg_sl ([.ref (sa t)]) ++ List.replicate (1 - (lg_sl ([.ref (sa t)])).length) Slot.unset).toArray = ls at hl ⊢
  have hl : lv_has ls 1 [(0, .ref (sa t))] := hl
  refine va_gets hx hb u1 va_S.rf hown (jc_w hts 26 rfl rfl) (fun _ h => h) (by decide +kernel) ?_
  refine lv_if_eq (tgt := 13) hx hb (off := 10) (by decide +kernel) (by decide) (fun q => absurd q (by decide)) (fun _ => ?_)
  refine lv_aload_n hx hb (k := 0) (by decide +kernel) rfl (lv_at hl 0 rfl) ?_
  refine vk_getf hx hb g2 va_S.rf hown (jc_w hts 28 rfl rfl) (fun _ h => h) (by decide +kernel) ?_
  refine lv_goto (tgt := 14) hx hb (off := 4) (by decide +kernel) (by decide) ?_
  exact W.zret hx hb hr rfl (fun t ht _ => ⟨rfl, ht⟩) (fun q hq => by cases hq) (by decide +kernel)
set_option maxHeartbeats 4000000 in
theorem jc_latin {t : Nat} (ht : t < 8) : Met l jy_latin (.code jy_latin prog_23_method_154_code 1 (some .boolean) :: so_T) (jc_rm 0 0) (va_Pc [.ref (sa t)] (jc_F HL sa)) (jc_Q (some (.int 1))) 0 0 (fun _ => False) := by
  refine Met.ofW (cc := prog_23_method_154_code) (maxL := 1) (ret := some .boolean) (by decide) rfl ?_
  intro p e s m args below meth c s₁ B hml hv
  obtain ⟨rfl, hF⟩ := hv
  have hx := B.exec
  have hb := B.bytes
  have hr := B.returns
  have hlocks := B.notSynchronized
  have hts := fun w hw => atoms_spec (ws := .code jy_latin prog_23_method_154_code 1 (some .boolean) :: so_T) B.pre w (List.mem_cons_of_mem _ hw)
  have hown : s.vm.findClass jc_S = some m.cls := findClass_of_methodNamed B.named
  obtain ⟨u1, u2, u3⟩ := jc_up hF
  obtain ⟨av, g1, g2, g3, g4⟩ := u3 t ht
  have hl := lv_entry ([.ref (sa t)]) (n := 1) (Nat.le_of_ble_eq_true rfl)
  rw [lg_entry_eq]
  generalize (lg_sl ([.ref (sa t)]) ++ List.replicate (1 - (lg_sl ([.ref (sa t)])).length) Slot.unset).toArray = ls at hl ⊢
  have hl : lv_has ls 1 [(0, .ref (sa t))] := hl
  refine va_gets hx hb u1 va_S.rf hown (jc_w hts 26 rfl rfl) (fun _ h => h) (by decide +kernel) ?_
  refine lv_if_eq (tgt := 17) hx hb (off := 14) (by decide +kernel) (by decide) (fun q => absurd q (by decide)) (fun _ => ?_)
  refine lv_aload_n hx hb (k := 0) (by decide +kernel) rfl (lv_at hl 0 rfl) ?_
  refine vk_getf hx hb g2 va_S.rf hown (jc_w hts 28 rfl rfl) (fun _ h => h) (by decide +kernel) ?_
  refine lv_if_ne (tgt := 17) hx hb (off := 7) (by decide +kernel) (by decide) (fun q => absurd rfl q) (fun _ => ?_)
  refine lv_iconst (v := 1) hx hb (n := 1) (by decide +kernel) (by decide) ?_
  refine lv_goto (tgt := 18) hx hb (off := 4) (by decide +kernel) (by decide) ?_
  exact W.zret hx hb hr rfl (fun t ht _ => ⟨rfl, ht⟩) (fun q hq => by cases hq) (by decide +kernel)
set_option maxHeartbeats 4000000 in
theorem jc_length {t : Nat} (ht : t < 8) : Met l jy_length (.code jy_length prog_23_method_54_code 1 (some .int) :: so_T) (jc_rm 1 20) (va_Pc [.ref (sa t)] (jc_F HL sa)) (jc_Q (some (.int (Int32.ofNat (ta_tx t).length)))) 0 0 (fun _ => False) := by
  refine Met.ofW (cc := prog_23_method_54_code) (maxL := 1) (ret := some .int) (by decide) rfl ?_
  intro p e s m args below meth c s₁ B hml hv
  obtain ⟨rfl, hF⟩ := hv
  have hx := B.exec
  have hb := B.bytes
  have hr := B.returns
  have hlocks := B.notSynchronized
  have hts := fun w hw => atoms_spec (ws := .code jy_length prog_23_method_54_code 1 (some .int) :: so_T) B.pre w (List.mem_cons_of_mem _ hw)
  have hown : s.vm.findClass jc_S = some m.cls := findClass_of_methodNamed B.named
  obtain ⟨u1, u2, u3⟩ := jc_up hF
  obtain ⟨av, g1, g2, g3, g4⟩ := u3 t ht
  have hl := lv_entry ([.ref (sa t)]) (n := 1) (Nat.le_of_ble_eq_true rfl)
  rw [lg_entry_eq]
  generalize (lg_sl ([.ref (sa t)]) ++ List.replicate (1 - (lg_sl ([.ref (sa t)])).length) Slot.unset).toArray = ls at hl ⊢
  have hl : lv_has ls 1 [(0, .ref (sa t))] := hl
  refine lv_aload_n hx hb (k := 0) (by decide +kernel) rfl (lv_at hl 0 rfl) ?_
  refine vk_getf hx hb g3 va_S.rf hown (jc_w hts 27 rfl rfl) (fun _ h => h) (by decide +kernel) ?_
  refine va_tlen hx hb g4 va_S.rf rfl (by decide +kernel) ?_
  refine lv_aload_n hx hb (k := 0) (by decide +kernel) rfl (lv_at hl 0 rfl) ?_
  refine jc_cont (va_runV (n := 0) (As := []) (rest := [.int (Int32.ofNat (ta_tx t).length)]) ⟨hx, hb, hml, hown, hts⟩ (jc_coder (HL := HL) (sa := sa) ht) (cwV 0 hts (jc_GV (jc_in 21 rfl) (jc_in 7 rfl) (jc_in 8 rfl) (jc_in 18 rfl) (jc_in 0 rfl) rfl) rfl rfl rfl (by decide +kernel) ⟨by decide, by decide⟩) ⟨jc_blind, va_Orecv g1 va_S.rf, fun U hU hW => ⟨rfl, so_St_moved _ _ hF.1 hW, by rw [hU]; exact hF.2⟩⟩ rfl rfl hl.1 rfl (lv_room (Nat.le_of_ble_eq_true rfl)) (show decode prog_23_method_54_code 6 = .ok (.invokevirtual 335, 3) by decide +kernel) ⟨by decide, by decide⟩) ?_
  refine lv_ishr hx hb (by decide +kernel) ?_
  rw [show Int32.ofNat (ta_tx t).length >>> ((0 : Int32) &&& 31) = Int32.ofNat (ta_tx t).length from sb_shr0 _]
  exact W.iret hx hb hr (fun t ht _ => ⟨rfl, ht⟩) (fun q hq => by cases hq) (by decide +kernel)
set_option maxHeartbeats 4000000 in
theorem jc_pcheck {i n : Int32} {v : Value} (hv0 : v = .null ∨ ∃ a, v = .ref a) (h0 : ¬ i < 0) (h1 : i < n) : Met l jy_pcheck (.code jy_pcheck prog_31_method_11_code 3 (some .int) :: so_T) (jc_rm 0 0) (va_Pc [.int i, .int n, v] (jc_F HL sa)) (jc_Q (some (.int i))) 0 0 (fun _ => False) := by
  refine Met.ofW (cc := prog_31_method_11_code) (maxL := 3) (ret := some .int) (by decide) rfl ?_
  intro p e s m args below meth c s₁ B hml hv
  obtain ⟨rfl, hF⟩ := hv
  have hx := B.exec
  have hb := B.bytes
  have hr := B.returns
  have hlocks := B.notSynchronized
  have hcat : v.category = 1 := by rcases hv0 with rfl | ⟨a, rfl⟩ <;> rfl
  have hsl : (lg_sl [.int i, .int n, v]).length = 3 := by
    rcases hv0 with rfl | ⟨a, rfl⟩ <;> rfl
  have hl := lv_entry ([.int i, .int n, v]) (n := 3) (by rw [hsl]; exact Nat.le_refl _)
  rw [lg_entry_eq]
  generalize (lg_sl ([.int i, .int n, v]) ++ List.replicate (3 - (lg_sl ([.int i, .int n, v])).length) Slot.unset).toArray = ls at hl ⊢
  refine lv_iload_n hx hb (k := 0) (by decide +kernel) rfl (lv_at hl 0 rfl) ?_
  refine lv_if_lt (tgt := 9) hx hb (off := 8) (by decide +kernel) (by decide) (fun q => absurd q h0) (fun _ => ?_)
  refine lv_iload_n hx hb (k := 0) (by decide +kernel) rfl (lv_at hl 0 rfl) ?_
  refine lv_iload_n hx hb (k := 1) (by decide +kernel) rfl (lv_at hl 1 rfl) ?_
  refine lv_icmp_lt (tgt := 16) hx hb (off := 10) (by decide +kernel) (by decide) (fun _ => ?_) (fun q => absurd h1 q)
  refine lv_iload_n hx hb (k := 0) (by decide +kernel) rfl (lv_at hl 0 rfl) ?_
  exact W.iret hx hb hr (fun t ht _ => ⟨rfl, ht⟩) (fun q hq => by cases hq) (by decide +kernel)
set_option maxHeartbeats 4000000 in
theorem jc_check {i n : Int32} (h0 : ¬ i < 0) (h1 : i < n) : Met l jy_check (.code jy_check prog_23_method_155_code 2 none :: so_T) (jc_rm 1 22) (va_Pc [.int i, .int n] (jc_F HL sa)) (jc_Q none) 0 0 (fun _ => False) := by
  refine Met.ofW (cc := prog_23_method_155_code) (maxL := 2) (ret := none) (by decide) rfl ?_
  intro p e s m args below meth c s₁ B hml hv
  obtain ⟨rfl, hF⟩ := hv
  have hx := B.exec
  have hb := B.bytes
  have hr := B.returns
  have hlocks := B.notSynchronized
  have hts := fun w hw => atoms_spec (ws := .code jy_check prog_23_method_155_code 2 none :: so_T) B.pre w (List.mem_cons_of_mem _ hw)
  have hown : s.vm.findClass jc_S = some m.cls := findClass_of_methodNamed B.named
  obtain ⟨u1, u2, u3⟩ := jc_up hF
  have hl := lv_entry ([.int i, .int n]) (n := 2) (Nat.le_of_ble_eq_true rfl)
  rw [lg_entry_eq]
  generalize (lg_sl ([.int i, .int n]) ++ List.replicate (2 - (lg_sl ([.int i, .int n])).length) Slot.unset).toArray = ls at hl ⊢
  have hl : lv_has ls 2 [(0, .int i), (1, .int n)] := hl
  refine lv_iload_n hx hb (k := 0) (by decide +kernel) rfl (lv_at hl 0 rfl) ?_
  refine lv_iload_n hx hb (k := 1) (by decide +kernel) rfl (lv_at hl 1 rfl) ?_
  have go : ∀ v : Value, (v = .null ∨ ∃ a, v = .ref a) → va_Z "jdk/internal/util/Preconditions" "SIOOBE_FORMATTER" "Ljava/util/function/BiFunction;" v (so_A HL) s s.heap → W p l e (headSpec (.code jy_check prog_23_method_155_code 2 none :: so_T) (jc_rm 1 22)).room s m ([.int i, .int n] : List Value).toArray below meth c s.heap [] 0 0 (MQ below (jc_Q none) ([.int i, .int n] : List Value).toArray s 0 0 (fun _ => False)) (F0 m (0 + 1 + 1) ls [.int n, .int i]) := by
    intro v hv0 hz
    have hcat : (v :: [] : List Value).map (fun v => v.category) = [1] := by rcases hv0 with rfl | ⟨a, rfl⟩ <;> rfl
    refine va_gets hx hb hz va_S.rf hown (jc_w hts 29 rfl rfl) (fun _ h => h) (by decide +kernel) ?_
    refine jc_cont (va_runS (n := 3) (As := [.int i, .int n, v]) (rest := []) ⟨hx, hb, hml, hown, hts⟩ (jc_pcheck (HL := HL) (sa := sa) hv0 h0 h1) (va_cwS 3 hts (jc_GS (jc_in 25 rfl) (jc_in 17 rfl) (jc_in 20 rfl) (jc_in 6 rfl) rfl) rfl rfl rfl (by decide +kernel) ⟨by decide, by decide⟩) ⟨jc_blind, fun U hU hW => ⟨rfl, so_St_moved _ _ hF.1 hW, by rw [hU]; exact hF.2⟩⟩ rfl rfl hl.1 rfl (lv_room (Nat.le_of_ble_eq_true rfl)) (show decode prog_23_method_155_code 5 = .ok (.invokestatic 1059, 3) by decide +kernel) ⟨by decide, by decide⟩) ?_
    refine lv_pop hx hb (by decide +kernel) rfl ?_
    exact W.vret hx hb hr (fun t ht _ => ⟨rfl, ht⟩) (fun q hq => by cases hq) (by decide +kernel)
  rcases u2 with hz | ⟨t, hz⟩
  · exact go _ (Or.inl rfl) hz
  · exact go _ (Or.inr ⟨t, rfl⟩) hz
set_option maxHeartbeats 4000000 in
theorem jc_lchar {t : Nat} {i : Int32} {av : Nat} (hin : vp_in i (ta_tx t).length) (h1 : i < Int32.ofNat (ta_tx t).length) (hch : ((so_sb t i.toNatClampNeg &&& 255).toUInt32 % 65536).toInt32 = so_sb t i.toNatClampNeg ∧ narrow .char (.int (so_sb t i.toNatClampNeg)) = .int (so_sb t i.toNatClampNeg)) : Met l jy_lchar (.code jy_lchar prog_24_method_2_code 2 (some .char) :: so_T) (jc_rm 2 43) (va_Pc [.ref av, .int i] (fun U => jc_F HL sa U ∧ va_T .byte av (ta_tx t).length (fun j => .int (so_sb t j)) (so_A HL) U HL)) (jc_Q (some (.int (so_sb t i.toNatClampNeg)))) 0 0 (fun _ => False) := by
  refine Met.ofW (cc := prog_24_method_2_code) (maxL := 2) (ret := some .char) (by decide) rfl ?_
  intro p e s m args below meth c s₁ B hml hv
  obtain ⟨rfl, hF, hT0⟩ := hv
  have hx := B.exec
  have hb := B.bytes
  have hr := B.returns
  have hlocks := B.notSynchronized
  have hts := fun w hw => atoms_spec (ws := .code jy_lchar prog_24_method_2_code 2 (some .char) :: so_T) B.pre w (List.mem_cons_of_mem _ hw)
  have hown : s.vm.findClass "java/lang/StringLatin1" = some m.cls := findClass_of_methodNamed B.named
  have g4 := va_T.kept hT0 (fun a h (_ : ¬ so_A HL a) => hF.2.2 a h)
  have h0 : ¬ i < 0 := fun q => hin (Or.inl q)
  have hl := lv_entry ([.ref av, .int i]) (n := 2) (Nat.le_of_ble_eq_true rfl)
  rw [lg_entry_eq]
  generalize (lg_sl ([.ref av, .int i]) ++ List.replicate (2 - (lg_sl ([.ref av, .int i])).length) Slot.unset).toArray = ls at hl ⊢
  have hl : lv_has ls 2 [(0, .ref av), (1, .int i)] := hl
  refine lv_iload_n hx hb (k := 1) (by decide +kernel) rfl (lv_at hl 1 rfl) ?_
  refine lv_aload_n hx hb (k := 0) (by decide +kernel) rfl (lv_at hl 0 rfl) ?_
  refine va_tlen hx hb g4 va_S.rf rfl (by decide +kernel) ?_
  refine jc_cont (va_runS (n := 2) (As := [.int i, .int (Int32.ofNat (ta_tx t).length)]) (rest := []) ⟨hx, hb, hml, hown, hts⟩ (jc_check (HL := HL) (sa := sa) h0 h1) (va_cwS 2 hts (jc_GS (jc_in 24 rfl) (jc_in 16 rfl) (jc_in 18 rfl) (jc_in 5 rfl) rfl) rfl rfl rfl (by decide +kernel) ⟨by decide, by decide⟩) ⟨jc_blind, fun U hU hW => ⟨rfl, so_St_moved _ _ hF.1 hW, by rw [hU]; exact hF.2⟩⟩ rfl rfl hl.1 rfl (lv_room (Nat.le_of_ble_eq_true rfl)) (show decode prog_24_method_2_code 3 = .ok (.invokestatic 9, 3) by decide +kernel) ⟨by decide, by decide⟩) ?_
  refine lv_aload_n hx hb (k := 0) (by decide +kernel) rfl (lv_at hl 0 rfl) ?_
  refine lv_iload_n hx hb (k := 1) (by decide +kernel) rfl (lv_at hl 1 rfl) ?_
  refine va_tb hx hb g4 va_S.rf hin rfl (by decide +kernel) ?_
  refine lv_sipush (v := 255) hx hb (n := 255) (by decide +kernel) (by decide) ?_
  refine lv_iand hx hb (by decide +kernel) ?_
  refine lv_i2c hx hb (by decide +kernel) hch.1 ?_
  exact W.zret hx hb hr hch.2 (fun t ht _ => ⟨rfl, ht⟩) (fun q hq => by cases hq) (by decide +kernel)
set_option maxHeartbeats 4000000 in
theorem jc_charAt {t : Nat} (ht : t < 8) {i : Int32} (hin : vp_in i (ta_tx t).length) (h1 : i < Int32.ofNat (ta_tx t).length) (hch : ((so_sb t i.toNatClampNeg &&& 255).toUInt32 % 65536).toInt32 = so_sb t i.toNatClampNeg ∧ narrow .char (.int (so_sb t i.toNatClampNeg)) = .int (so_sb t i.toNatClampNeg)) : Met l jy_charAt (.code jy_charAt prog_23_method_56_code 2 (some .char) :: so_T) (jc_rm 3 64) (va_Pc [.ref (sa t), .int i] (jc_F HL sa)) (jc_Q (some (.int (so_sb t i.toNatClampNeg)))) 0 0 (fun _ => False) := by
  refine Met.ofW (cc := prog_23_method_56_code) (maxL := 2) (ret := some .char) (by decide) rfl ?_
  intro p e s m args below meth c s₁ B hml hv
  obtain ⟨rfl, hF⟩ := hv
  have hx := B.exec
  have hb := B.bytes
  have hr := B.returns
  have hlocks := B.notSynchronized
  have hts := fun w hw => atoms_spec (ws := .code jy_charAt prog_23_method_56_code 2 (some .char) :: so_T) B.pre w (List.mem_cons_of_mem _ hw)
  have hown : s.vm.findClass jc_S = some m.cls := findClass_of_methodNamed B.named
  obtain ⟨u1, u2, u3⟩ := jc_up hF
  have hl := lv_entry ([.ref (sa t), .int i]) (n := 2) (Nat.le_of_ble_eq_true rfl)
  rw [lg_entry_eq]
  generalize (lg_sl ([.ref (sa t), .int i]) ++ List.replicate (2 - (lg_sl ([.ref (sa t), .int i])).length) Slot.unset).toArray = ls at hl ⊢
  have hl : lv_has ls 2 [(0, .ref (sa t)), (1, .int i)] := hl
  obtain ⟨av, g1, g2, g3, g4⟩ := hF.1.2.1 t ht
  have hk : ∀ a : Nat, a < HL.size → ¬ so_A HL a → s.heap[a]? = HL[a]? := fun a h _ => hF.2.2 a h
  refine lv_aload_n hx hb (k := 0) (by decide +kernel) rfl (lv_at hl 0 rfl) ?_
  refine jc_cont (va_runV (n := 0) (As := []) (rest := []) ⟨hx, hb, hml, hown, hts⟩ (jc_latin (HL := HL) (sa := sa) ht) (cwV 0 hts (jc_GV (jc_in 22 rfl) (jc_in 11 rfl) (jc_in 12 rfl) (jc_in 18 rfl) (jc_in 2 rfl) rfl) rfl rfl rfl (by decide +kernel) ⟨by decide, by decide⟩) ⟨jc_blind, va_Orecv (va_O.kept g1 hk) va_S.rf, fun U hU hW => ⟨rfl, so_St_moved _ _ hF.1 hW, by rw [hU]; exact hF.2⟩⟩ rfl rfl hl.1 rfl (lv_room (Nat.le_of_ble_eq_true rfl)) (show decode prog_23_method_56_code 1 = .ok (.invokevirtual 492, 3) by decide +kernel) ⟨by decide, by decide⟩) ?_
  refine lv_if_eq (tgt := 16) hx hb (off := 12) (by decide +kernel) (by decide) (fun q => absurd q (by decide)) (fun _ => ?_)
  refine lv_aload_n hx hb (k := 0) (by decide +kernel) rfl (lv_at hl 0 rfl) ?_
  refine vk_getf hx hb (va_OF.kept g3 hk) va_S.rf hown (jc_w hts 27 rfl rfl) (fun _ h => h) (by decide +kernel) ?_
  refine lv_iload_n hx hb (k := 1) (by decide +kernel) rfl (lv_at hl 1 rfl) ?_
  refine jc_cont (va_runS (n := 2) (As := [.ref av, .int i]) (rest := []) ⟨hx, hb, hml, hown, hts⟩ (jc_lchar (HL := HL) (sa := sa) (av := av) hin h1 hch) (va_cwS 2 hts (jc_GS (jc_in 23 rfl) (jc_in 15 rfl) (jc_in 19 rfl) (jc_in 4 rfl) rfl) rfl rfl rfl (by decide +kernel) ⟨by decide, by decide⟩) ⟨fun a U g mk hp => ⟨hp.1, ⟨so_St_moved _ _ hp.2.1.1 (State.WarmedH.refl U), hp.2.1.2⟩, va_T.moved (U := U.calling g mk a) (Vm.Alike.refl U.vm) hp.2.2⟩, fun U hU hW => ⟨rfl, ⟨so_St_moved _ _ hF.1 hW, by rw [hU]; exact hF.2⟩, va_T.moved hW.alike g4⟩⟩ rfl rfl hl.1 rfl (lv_room (Nat.le_of_ble_eq_true rfl)) (show decode prog_23_method_56_code 12 = .ok (.invokestatic 495, 3) by decide +kernel) ⟨by decide, by decide⟩) ?_
  exact W.zret hx hb hr hch.2 (fun t ht _ => ⟨rfl, ht⟩) (fun q hq => by cases hq) (by decide +kernel)
end JC
