def R_law : String := "SkyTailorLaw"
def lw_P (b : Addr) (xs : List Int32) (args : Array Value) (s : State) : Prop := args = #[.ref b] ∧ s.IntsAt b xs ∧ xs.length ≤ 3584 ∧ (Jvm.Cond.and given_1 narrow_1).before args s = true
def lw_Q (_ : Array Value) (s : State) (o : Outcome) (t : State) : Prop := o = .returned (some (.int 1)) ∧ Framed s o t [] 601024 7293034
def lw_Z (below : List Frame) (a : Array Value) (s : State) : State → Prop := fun t => ∃ o, t.status = .running ∧ Ended t below o ∧ lw_Q a s o t
/-- the law's own end, with 1 on the stack, nothing written that was there before, its room as the claim has it -/
theorem lw_ret {p : Program} {l : Launch} {e : Env} {s : State} {m : MethodId} {below : List Frame} {meth : Method} {c : Code} {b : Nat} (hx : p.tables.exec = Jvm.exec) (hb : c.code = code) (hr : meth.sig.returnType = ret) (hlocks : meth.locks = false) {pc : Nat} {H : Heap} {ls : Array Slot} (hdg : decode code pc = .ok (.ireturn, 1)) : W p l e room_1 s m #[Value.ref b] below meth c H [] 601024 7293034 (lw_Z below #[Value.ref b] s) (F0 m pc ls [.int 1]) := by
  intro T hT X
  obtain ⟨fs, hret, hrun, hended, hW, hframe⟩ := X.leave (v := some (.int 1)) (hlocks := hlocks) (fun h => by rw [hr] at h; cases h)
  have hmeth' : T.vm.method? m = some meth := X.method'
  refine ⟨T.setFrames fs, ?_, .returned (some (.int 1)), hrun, hended, rfl, ⟨_, rfl⟩, hW, hframe⟩
  jvm_step X.here [X.here.top, hx, hb, hdg, hmeth', hr, ret, narrow_b1]
  (try refine ⟨rfl, ?_⟩); (try refine ⟨rfl, ?_⟩)
  first | (intro acts; rw [hret _ acts rfl rfl rfl]) | rw [hret _ _ rfl rfl rfl]
  exact Steps.refl _
/-- what holds at the law's entry: the machine, the code, the tables' words (any of lw_tbl by 'hts w (by decide +kernel)'), the script of L ints xs at the cell b, what the Statement gives of the start (any of its parts by flat_of_before) -/
def lw_At (p : Program) (s : State) (m : MethodId) (meth : Method) (c : Code) (b L : Nat) (xs : Nat → Int32) : Prop :=
  p.tables.exec = Jvm.exec ∧ c.code = code ∧ meth.sig.returnType = ret ∧ c.maxLocals = 8 ∧ s.vm.findClass R_law = some m.cls ∧ (∀ w ∈ lw_tbl, w.before #[Value.ref b] s = true) ∧ va_X b L xs s s.heap ∧ b < s.heap.size ∧ meth.locks = false ∧ (Jvm.Cond.and given_1 narrow_1).before #[Value.ref b] s = true
/-! the law's walk out of a run of the abstract machine -/
def la_h0 (L : Nat) (xs : Nat → Int32) : ab_H := ((0, (fun _ => (0, 0)), (fun _ _ => none), L, xs), ((fun _ _ => 0), (fun _ _ => 0), 0, 0))
def la_tm (t : Nat) : Term := match ta_LS[t]? with
  | some e => .string (ta_nm e.1) e.2.1
  | none => .arg 0
def la_val (t : Nat) : Term := .field (la_tm t) "java/lang/String" "value" "[B"
def la_w (k t j : Nat) : Cond := match k with
  | 0 => .exactly (la_tm t) "java/lang/String"
  | 1 => .eq (.field (la_tm t) "java/lang/String" "coder" "B") (.int 0)
  | 2 => .arrayOf (la_val t) .byte
  | 3 => .eq (.length (la_val t)) (.int (Int32.ofNat (ta_tx t).length))
  | 4 => .eq (.elem (la_val t) (.int (Int32.ofNat j))) (.int (so_sb t j))
  | 5 => (match t with
    | 0 => .isRef (.static Bundle.tN "UNASSIGNED_STACK" Bundle.steD)
    | 1 => .isRef (.static Bundle.tN "SUPPRESSED_SENTINEL" Bundle.listD)
    | 2 => .eq (.static "java/lang/String" "COMPACT_STRINGS" "Z") (.int 1)
    | _ => .isRef (.static "jdk/internal/util/Preconditions" "SIOOBE_FORMATTER" "Ljava/util/function/BiFunction;"))
  | _ => .not (.castable (ta_ex t) (ta_ex j))
/-- where they stand: place, kind, which -/
def la_pl : List (Nat × Nat × Nat × Nat) := [(2, 5, 0, 0), (3, 5, 1, 0), (4, 5, 2, 0), (5, 5, 3, 0), (22, 6, 0, 1), (23, 6, 2, 1), (37, 6, 1, 0), (38, 6, 2, 0), (52, 6, 1, 2), (53, 6, 0, 2), (54, 0, 0, 0), (55, 1, 0, 0), (56, 2, 0, 0), (57, 3, 0, 0), (58, 4, 0, 0), (59, 4, 0, 1), (60, 4, 0, 2), (61, 4, 0, 3), (62, 4, 0, 4), (63, 4, 0, 5), (64, 4, 0, 6), (65, 4, 0, 7), (66, 4, 0, 8), (67, 4, 0, 9), (68, 4, 0, 10), (69, 4, 0, 11), (70, 4, 0, 12), (71, 4, 0, 13), (72, 4, 0, 14), (73, 4, 0, 15), (74, 4, 0, 16), (75, 4, 0, 17), (76, 4, 0, 18), (77, 4, 0, 19), (78, 4, 0, 20), (79, 4, 0, 21), (80, 4, 0, 22), (81, 4, 0, 23), (82, 4, 0, 24), (83, 4, 0, 25), (84, 4, 0, 26), (85, 4, 0, 27), (86, 4, 0, 28), (87, 4, 0, 29), (88, 4, 0, 30), (89, 4, 0, 31), (90, 4, 0, 32), (91, 4, 0, 33), (92, 0, 1, 0), (93, 1, 1, 0), (94, 2, 1, 0), (95, 3, 1, 0), (96, 4, 1, 0), (97, 4, 1, 1), (98, 4, 1, 2), (99, 4, 1, 3), (100, 4, 1, 4), (101, 4, 1, 5), (102, 4, 1, 6), (103, 4, 1, 7), (104, 4, 1, 8), (105, 4, 1, 9), (106, 4, 1, 10), (107, 4, 1, 11), (108, 4, 1, 12), (109, 4, 1, 13), (110, 4, 1, 14), (111, 4, 1, 15), (112, 4, 1, 16), (113, 4, 1, 17), (114, 4, 1, 18), (115, 4, 1, 19), (116, 4, 1, 20), (117, 4, 1, 21), (118, 4, 1, 22), (119, 4, 1, 23), (120, 4, 1, 24), (121, 4, 1, 25), (122, 4, 1, 26), (123, 4, 1, 27), (125, 0, 2, 0), (126, 1, 2, 0), (127, 2, 2, 0), (128, 3, 2, 0), (129, 4, 2, 0), (130, 4, 2, 1), (131, 4, 2, 2), (132, 4, 2, 3), (133, 4, 2, 4), (134, 4, 2, 5), (135, 4, 2, 6), (136, 4, 2, 7), (137, 4, 2, 8), (138, 4, 2, 9), (139, 4, 2, 10), (140, 4, 2, 11), (141, 4, 2, 12), (142, 4, 2, 13), (143, 4, 2, 14), (144, 4, 2, 15), (145, 4, 2, 16), (146, 4, 2, 17), (147, 4, 2, 18), (148, 4, 2, 19), (149, 4, 2, 20), (150, 4, 2, 21), (151, 4, 2, 22), (152, 4, 2, 23), (153, 4, 2, 24), (154, 4, 2, 25), (155, 4, 2, 26), (156, 4, 2, 27), (159, 0, 3, 0), (160, 1, 3, 0), (161, 2, 3, 0), (162, 3, 3, 0), (163, 4, 3, 0), (164, 4, 3, 1), (165, 4, 3, 2), (166, 4, 3, 3), (167, 4, 3, 4), (171, 0, 4, 0), (172, 1, 4, 0), (173, 2, 4, 0), (174, 3, 4, 0), (175, 4, 4, 0), (176, 4, 4, 1), (177, 4, 4, 2), (178, 4, 4, 3), (179, 4, 4, 4), (180, 4, 4, 5), (181, 4, 4, 6), (182, 4, 4, 7), (183, 4, 4, 8), (184, 4, 4, 9), (185, 4, 4, 10), (186, 4, 4, 11), (187, 4, 4, 12), (188, 4, 4, 13), (189, 4, 4, 14), (190, 4, 4, 15), (191, 4, 4, 16), (192, 4, 4, 17), (193, 4, 4, 18), (194, 4, 4, 19), (195, 4, 4, 20), (196, 4, 4, 21), (197, 4, 4, 22), (198, 4, 4, 23), (199, 4, 4, 24), (200, 4, 4, 25), (201, 4, 4, 26), (202, 4, 4, 27), (203, 4, 4, 28), (204, 4, 4, 29), (205, 4, 4, 30), (206, 4, 4, 31), (207, 4, 4, 32), (208, 4, 4, 33), (209, 4, 4, 34), (210, 4, 4, 35), (211, 4, 4, 36), (212, 4, 4, 37), (213, 4, 4, 38), (214, 4, 4, 39), (215, 4, 4, 40), (220, 0, 5, 0), (221, 1, 5, 0), (222, 2, 5, 0), (223, 3, 5, 0), (224, 4, 5, 0), (225, 4, 5, 1), (226, 4, 5, 2), (227, 4, 5, 3), (228, 4, 5, 4), (229, 4, 5, 5), (230, 4, 5, 6), (231, 4, 5, 7), (232, 4, 5, 8), (233, 4, 5, 9), (234, 4, 5, 10), (235, 4, 5, 11), (236, 4, 5, 12), (237, 4, 5, 13), (238, 4, 5, 14), (239, 4, 5, 15), (240, 4, 5, 16), (241, 4, 5, 17), (242, 4, 5, 18), (243, 4, 5, 19), (244, 4, 5, 20), (245, 4, 5, 21), (246, 4, 5, 22), (247, 4, 5, 23), (248, 4, 5, 24), (249, 4, 5, 25), (250, 4, 5, 26), (251, 4, 5, 27), (252, 4, 5, 28), (253, 4, 5, 29), (254, 4, 5, 30), (255, 4, 5, 31), (256, 4, 5, 32), (257, 4, 5, 33), (258, 4, 5, 34), (264, 0, 6, 0), (265, 1, 6, 0), (266, 2, 6, 0), (267, 3, 6, 0), (268, 4, 6, 0), (269, 4, 6, 1), (270, 4, 6, 2), (271, 4, 6, 3), (272, 4, 6, 4), (273, 4, 6, 5), (274, 4, 6, 6), (275, 4, 6, 7), (276, 4, 6, 8), (277, 4, 6, 9), (278, 4, 6, 10), (279, 4, 6, 11), (280, 4, 6, 12), (281, 4, 6, 13), (282, 4, 6, 14), (283, 4, 6, 15), (284, 4, 6, 16), (285, 4, 6, 17), (286, 4, 6, 18), (287, 4, 6, 19), (288, 4, 6, 20), (289, 4, 6, 21), (290, 4, 6, 22), (291, 4, 6, 23), (292, 4, 6, 24), (293, 4, 6, 25), (294, 4, 6, 26), (295, 4, 6, 27), (302, 0, 7, 0), (303, 1, 7, 0), (304, 2, 7, 0), (305, 3, 7, 0), (306, 4, 7, 0), (307, 4, 7, 1), (308, 4, 7, 2), (309, 4, 7, 3), (310, 4, 7, 4), (311, 4, 7, 5), (312, 4, 7, 6), (313, 4, 7, 7), (314, 4, 7, 8), (315, 4, 7, 9), (316, 4, 7, 10), (317, 4, 7, 11), (318, 4, 7, 12), (319, 4, 7, 13), (320, 4, 7, 14), (321, 4, 7, 15), (322, 4, 7, 16), (323, 4, 7, 17), (324, 4, 7, 18), (325, 4, 7, 19), (326, 4, 7, 20), (327, 4, 7, 21), (328, 4, 7, 22), (329, 4, 7, 23), (330, 4, 7, 24), (331, 4, 7, 25), (332, 4, 7, 26), (333, 4, 7, 27)]
def la_flat : Cond → List Cond
  | .and a b => la_flat a ++ la_flat b
  | w => [w]
theorem la_flat_ok {args : Array Value} {s : State} : ∀ {w : Cond}, w.before args s = true → ∀ c ∈ la_flat w, c.before args s = true := by
  intro w
  induction w with
  | and a b iha ihb =>
    intro h c hc
    rw [Cond.before_and, Bool.and_eq_true] at h
    rcases List.mem_append.mp hc with hc | hc
    · exact iha h.1 c hc
    · exact ihb h.2 c hc
  | _ => intro h c hc; rw [List.mem_singleton.mp hc]; exact h
set_option maxRecDepth 100000 in
theorem la_pl_ok : ta_wk (la_flat narrow_1) 0 (la_pl.map (fun e => (e.1, la_w e.2.1 e.2.2.1 e.2.2.2))) = true := by decide +kernel
def la_has (k t j : Nat) : Bool := la_pl.any (fun e => e.2.1 == k && (e.2.2.1 == t && e.2.2.2 == j))
theorem la_use {k t j : Nat} (h : la_has k t j = true) : la_w k t j ∈ la_flat narrow_1 := by
  obtain ⟨e, he, h2⟩ := List.any_eq_true.mp h
  rw [Bool.and_eq_true, Bool.and_eq_true, beq_iff_eq, beq_iff_eq, beq_iff_eq] at h2
  have h3 := ta_wk_mem _ _ _ la_pl_ok (e.1, la_w e.2.1 e.2.2.1 e.2.2.2) (List.mem_map.mpr ⟨e, he, rfl⟩)
  rw [h2.1, h2.2.1, h2.2.2] at h3
  exact h3
theorem la_all : ((List.range 8).all (fun t => la_has 0 t 0 && la_has 1 t 0 && la_has 2 t 0 && la_has 3 t 0 && (List.range (ta_tx t).length).all (fun j => la_has 4 t j)) && (List.range 4).all (fun t => la_has 5 t 0) && (List.range 3).all (fun i => (List.range 3).all (fun j => decide (i = j) || la_has 6 i j))) = true := by decide +kernel
/-- the law's own end, with x on the stack, x taken for 1 -/
theorem la_ret {p : Program} {l : Launch} {e : Env} {s : State} {m : MethodId} {args : Array Value} {below : List Frame} {meth : Method} {c : Code} {cc : ByteArray} {v : Int32} (hx : p.tables.exec = Jvm.exec) (hb : c.code = cc) (hr : meth.sig.returnType = some .boolean) (hlocks : meth.locks = false) {pc : Nat} {H : Heap} {ls : Array Slot} (hdg : decode cc pc = .ok (.ireturn, 1)) (hv : vp_nar .boolean v = 1) : W p l e room_1 s m args below meth c H [] 601024 7293034 (lw_Z below args s) (F0 m pc ls [.int v]) := by
  intro T hT X
  obtain ⟨fs, hret, hrun, hended, hW, hframe⟩ := X.leave (v := some (.int (vp_nar .boolean v))) (hlocks := hlocks) (fun h => by rw [hr] at h; cases h)
  have hmeth' : T.vm.method? m = some meth := X.method'
  have hn : narrow .boolean (.int v) = .int (vp_nar .boolean v) := rfl
  refine ⟨T.setFrames fs, ?_, .returned (some (.int (vp_nar .boolean v))), hrun, hended, (by rw [hv]), ⟨_, rfl⟩, hW, hframe⟩
  jvm_step X.here [X.here.top, hx, hb, hdg, hmeth', hr, hn]
  (try refine ⟨rfl, ?_⟩); (try refine ⟨rfl, ?_⟩)
  first | (intro acts; rw [hret _ acts rfl rfl rfl]) | rw [hret _ _ rfl rfl rfl]
  exact Steps.refl _
def la_ws : List Cond := [.initialized "java/lang/Throwable", .initialized "java/lang/String", .initialized "jdk/internal/util/Preconditions", .laysStatic "java/lang/Throwable" "UNASSIGNED_STACK" "[Ljava/lang/StackTraceElement;", .laysStatic "java/lang/Throwable" "SUPPRESSED_SENTINEL" "Ljava/util/List;", .laysStatic "java/lang/String" "COMPACT_STRINGS" "Z", .laysStatic "jdk/internal/util/Preconditions" "SIOOBE_FORMATTER" "Ljava/util/function/BiFunction;"]
set_option maxRecDepth 1000000 in
theorem la_ws_all : la_ws.all (fun w => decide (w ∈ lw_tbl)) = true := by decide +kernel
theorem la_wsw (i : Nat) {w : Cond} (h : la_ws[i]? = some w) : w ∈ lw_tbl := of_decide_eq_true (List.all_eq_true.mp la_ws_all w (List.mem_of_getElem? h))
theorem la_nest {args : Array Value} {s : State} {w : Cond} (hw : so_nest w = true) (h : w.before args s = true) : va_Nw w s := by
  cases w <;> first
    | (simp [so_nest] at hw; done)
    | exact va_Nw.of rfl h
    | (rename_i t; cases t <;> first | (simp [so_nest] at hw; done) | exact Jvm.Stand.arrayOver_alikeB (Vm.Alike.refl s.vm) h)
theorem la_prim {args : Array Value} {s : State} {ty : FieldType} {t : FieldType} (h : (Cond.arrayClass ty).before args s = true) (hn : ∀ C, ty ≠ .object C) : ∃ cA : ClassId, ArrOfT s cA ty ∧ va_RA s cA ty := by
  obtain ⟨c, k, comp, h1, h2, h3⟩ := Cond.arrayClass_spec h
  refine ⟨c, fun n z => ⟨by simp [arrV], k, h2, comp, h3⟩, ?_⟩
  cases ty <;> first | exact h1 | exact absurd rfl (hn _)
theorem la_over {args : Array Value} {s : State} {t : FieldType} (h : (Cond.arrayOver (.array t)).before args s = true) : ∃ cA : ClassId, ArrOfT s cA (.array t) ∧ va_RA s cA (.array t) := by
  obtain ⟨comp, c, k, h1, h2, h3, h4⟩ := Cond.arrayOver_specA h
  exact ⟨c, fun n z => ⟨by simp [arrV], k, h2, comp, h3⟩, h4⟩
theorem la_tys {args : Array Value} {s : State} (hts : ∀ w ∈ lw_tbl, w.before args s = true) : ∃ tA : Nat → ClassId, ∀ (k : Nat) (q : ClassId × FieldType), (so_tys tA)[k]? = some q → ArrOfT s q.1 q.2 ∧ va_RA s q.1 q.2 := by
  obtain ⟨a0, h0⟩ := la_prim (t := .int) (hts _ (so_libw 10 rfl)) (by intro C h; cases h)
  obtain ⟨a1, h1⟩ := la_prim (t := .int) (hts _ (so_libw 11 rfl)) (by intro C h; cases h)
  obtain ⟨a2, h2⟩ := la_prim (t := .int) (hts _ (so_libw 12 rfl)) (by intro C h; cases h)
  obtain ⟨a3, h3⟩ := la_prim (t := .int) (hts _ (so_libw 13 rfl)) (by intro C h; cases h)
  obtain ⟨a4, h4⟩ := la_over (hts _ ta_over.1)
  obtain ⟨a5, h5⟩ := la_over (hts _ ta_over.2)
  refine ⟨fun k => match k with
    | 0 => a0
    | 1 => a1
    | 2 => a2
    | 3 => a3
    | 4 => a4
    | _ => a5, fun k q hq => ?_⟩
  match k, hq with
  | 0, hq => cases hq; exact h0
  | 1, hq => cases hq; exact h1
  | 2, hq => cases hq; exact h2
  | 3, hq => cases hq; exact h3
  | 4, hq => cases hq; exact h4
  | 5, hq => cases hq; exact h5
  | k + 6, hq => simp [so_tys] at hq
theorem la_cl {args : Array Value} {s : State} (hts : ∀ w ∈ lw_tbl, w.before args s = true) : ∃ D : va_G, ∀ (c : Nat) (q : vw_C), ta_cl[c]? = some q → u_Kn s q.1 q.2.1 q.2.2 (D.1 c) (D.2 c) := by
  have h0 : ∀ c : Nat, ∃ d : ClassId × (Nat → Nat), ∀ q : vw_C, ta_cl[c]? = some q → u_Kn s q.1 q.2.1 q.2.2 d.1 d.2 := by
    intro c
    cases hc : ta_cl[c]? with
    | none => exact ⟨(0, fun _ => 0), fun q hq => by cases hq⟩
    | some q =>
      have hlt : c < 13 := by
        have := (List.getElem?_eq_some_iff.mp hc).1
        rw [show ta_cl.length = 13 from rfl] at this
        exact this
      obtain ⟨cC, iS, hk⟩ := u_known (ws := so_T) (s := s) (args := args) (fun w hw => hts w (List.mem_filter.mp hw).1) (so_lays hc) (hts _ (so_inst hc hlt))
      exact ⟨(cC, iS), fun q' hq' => by cases hq'; exact hk⟩
  obtain ⟨f, hf⟩ := Classical.axiomOfChoice h0
  exact ⟨(fun c => (f c).1, fun c => (f c).2), fun c q hq => hf c q hq⟩
theorem la_lenT : (List.range 8).all (fun t => decide ((ta_tx t).length < 2 ^ 31)) = true := by decide +kernel
theorem la_LSt : (List.range 8).all (fun t => match ta_LS[t]? with | some e => decide (e.2.2.1 = t) | none => false) = true := by decide +kernel
theorem la_str {args : Array Value} {s : State} (hts : ∀ w ∈ lw_tbl, w.before args s = true) (hn : narrow_1.before args s = true) : ∃ sa : Nat → Nat, so_St s.heap sa s := by
  have hA : ∀ a : Nat, a < s.heap.size → ¬ so_A s.heap a := fun a h1 h2 => by
    have : s.heap.size ≤ a := h2
    omega
  have hu := la_flat_ok hn
  have hal := la_all
  rw [Bool.and_eq_true, Bool.and_eq_true] at hal
  have hb : ∀ t, t < 8 → (((la_has 0 t 0 = true ∧ la_has 1 t 0 = true) ∧ la_has 2 t 0 = true) ∧ la_has 3 t 0 = true) ∧ ∀ j, j < (ta_tx t).length → la_has 4 t j = true := fun t ht => by
    have h := List.all_eq_true.mp hal.1.1 t (List.mem_range.mpr ht)
    simp only [Bool.and_eq_true, List.all_eq_true, List.mem_range] at h
    exact h
  have h0 : ∀ t : Nat, ∃ q : Nat × Nat, t < 8 → (la_tm t).eval args s none [] s = some (.ref q.1) ∧ va_O "java/lang/String" q.1 (so_A s.heap) s s.heap ∧ va_OF "java/lang/String" "coder" "B" (.int 0) q.1 (so_A s.heap) s s.heap ∧ va_OF "java/lang/String" "value" "[B" (.ref q.2) q.1 (so_A s.heap) s s.heap ∧ va_T .byte q.2 (ta_tx t).length (fun j => .int (so_sb t j)) (so_A s.heap) s s.heap := by
    intro t
    by_cases ht : t < 8
    · obtain ⟨⟨⟨⟨g0, g1⟩, g2⟩, g3⟩, g4⟩ := hb t ht
      have hlen : (ta_tx t).length < 2 ^ 31 := of_decide_eq_true (List.all_eq_true.mp la_lenT t (List.mem_range.mpr ht))
      obtain ⟨a, c, cA, kA, q1, q2, q3, q4, q5, q6, -⟩ := Cond.exactly_spec (args := args) (first := s) (o := none) (s := s) (idx := []) (t := la_tm t) (cls := "java/lang/String") (hu _ (la_use g0))
      obtain ⟨u, hu1, hT⟩ := va_Tof (f := fun j => .int (so_sb t j)) (A := so_A s.heap) (tm := la_val t) (ty := .byte) (N := (ta_tx t).length) hlen (hu _ (la_use g2)) (va_eqt (hu _ (la_use g3))) (fun j hj => va_eqt (hu _ (la_use (g4 j hj)))) hA
      exact ⟨(a, u), fun _ => ⟨q1, ⟨cA, q3, q5, by rw [q6]; exact q2, hA a (Array.getElem?_eq_some_iff.mp q3).1⟩, vk_OFof q1 (va_eqt (hu _ (la_use g1))) hA, vk_OFof q1 hu1 hA, hT⟩⟩
    · exact ⟨(0, 0), fun h => absurd h ht⟩
  obtain ⟨ad, had⟩ := Classical.axiomOfChoice h0
  have h5 : ∀ t, t < 4 → la_has 5 t 0 = true := fun t ht => List.all_eq_true.mp hal.1.2 t (List.mem_range.mpr ht)
  refine ⟨fun t => (ad t).1, fun e he => ?_, fun t ht => ⟨(ad t).2, (had t ht).2⟩, ?_, ?_⟩
  · obtain ⟨i, hi⟩ := List.getElem?_of_mem he
    have hlt : i < 8 := by
      have := (List.getElem?_eq_some_iff.mp hi).1
      rw [show ta_LS.length = 8 from rfl] at this
      exact this
    have h3 := List.all_eq_true.mp la_LSt i (List.mem_range.mpr hlt)
    rw [hi] at h3
    have h4 : e.2.2.1 = i := of_decide_eq_true h3
    have h6 := ta_wk_mem _ _ _ ta_LS_ok _ (List.mem_map.mpr ⟨e, he, rfl⟩)
    refine vk_R.of (hts _ h6) ?_
    have h7 := (had i hlt).1
    have h8 : la_tm i = .string (ta_nm e.1) e.2.1 := by unfold la_tm; rw [hi]
    rw [h8] at h7
    rw [h4]
    exact h7
  · exact va_Zof (hts _ (la_wsw 5 rfl)) (hts _ (la_wsw 1 rfl)) (va_eqt (hu _ (la_use (h5 2 (by omega))))) hA
  · exact va_Zqof (hts _ (la_wsw 6 rfl)) (hts _ (la_wsw 2 rfl)) (hu _ (la_use (h5 3 (by omega)))) hA
theorem la_Am {args : Array Value} {s : State} {b L : Nat} {xs : Nat → Int32} (hts : ∀ w ∈ lw_tbl, w.before args s = true) (hn : narrow_1.before args s = true) (hX : va_X b L xs s s.heap) (hb : b < s.heap.size) : ∃ (D : va_G) (tA : Nat → ClassId) (sa : Nat → Nat), so_Am D tA (so_fa s.heap.size b sa) s.heap L xs (so_St s.heap sa) s := by
  obtain ⟨D, hD⟩ := la_cl hts
  obtain ⟨tA, hA⟩ := la_tys hts
  obtain ⟨sa, hs⟩ := la_str hts hn
  have hA0 : ∀ a : Nat, a < s.heap.size → ¬ so_A s.heap a := fun a h1 h2 => by
    have : s.heap.size ≤ a := h2
    omega
  have hu := la_flat_ok hn
  have hal := la_all
  rw [Bool.and_eq_true, Bool.and_eq_true] at hal
  have h5 : ∀ t, t < 4 → la_has 5 t 0 = true := fun t ht => List.all_eq_true.mp hal.1.2 t (List.mem_range.mpr ht)
  have hfa : so_fa s.heap.size b sa ab_scr = b := by
    unfold so_fa
    rw [if_neg (by omega), if_pos (by decide)]
  refine ⟨D, tA, sa, ⟨hD, hA⟩, fun w hw hz => la_nest hz (hts w hw), by rw [hfa]; exact hX, by rw [hfa]; exact hb, ?_, ?_, ?_, hs⟩
  · exact vx_Zqof (hts _ (la_wsw 3 rfl)) (hts _ (la_wsw 0 rfl)) (hu _ (la_use (h5 0 (by omega)))) hA0
  · exact vx_Zqof (hts _ (la_wsw 4 rfl)) (hts _ (la_wsw 0 rfl)) (hu _ (la_use (h5 1 (by omega)))) hA0
  · intro i j hi hj hij
    have h := List.all_eq_true.mp (List.all_eq_true.mp hal.2 i (List.mem_range.mpr hi)) j (List.mem_range.mpr hj)
    rw [Bool.or_eq_true] at h
    rcases h with h | h
    · exact absurd (of_decide_eq_true h) hij
    · exact va_Nc.of (hu _ (la_use h))
def la_run : Prop := ∀ (L : Nat) (xs : Nat → Int32), L ≤ 3584 → ∃ (n : Nat) (h' : ab_H), ab_run n 300 386 0 [(0, .ref ab_scr)] [] (la_h0 L xs) = some (.inl (some (.int 1)), h') ∧ ab_C h' ≤ 601024 ∧ ab_Z h' ≤ 7293034
theorem la_b386 : ab_b 386 = code := rfl
theorem la_ret386 : ab_ret 386 = some .boolean := rfl
theorem la_whole (hrun : la_run) {p : Program} {e : Env} {s : State} {m : MethodId} {below : List Frame} {meth : Method} {c : Code} (l : Launch) (hflags : l.flags = flags0) {b L : Nat} {xs : Nat → Int32} (hL : L ≤ 3584) (C0 : lw_At p s m meth c b L xs) : W p l e room_1 s m #[Value.ref b] below meth c s.heap [] 0 0 (lw_Z below #[Value.ref b] s) (entryFrame m ([Value.ref b] : List Value).toArray 8) := by
  obtain ⟨c1, c2, c3, c4, c5, c6, c7, c8, c9, c10⟩ := C0
  rw [Cond.before_and, Bool.and_eq_true] at c10
  obtain ⟨D, tA, sa, hAm⟩ := la_Am c6 c10.2 c7 c8
  obtain ⟨n, h', hr, hC, hZ⟩ := hrun L xs hL
  have hl0 : l.stackTraces = false := by
    unfold Launch.stackTraces
    rw [hflags]
    rfl
  have hret : meth.sig.returnType = some .boolean := c3
  have hcode : c.code = ab_b 386 := c2
  have C : so_Cx p l s m #[Value.ref b] meth c D tA s.heap.size b sa s.heap L xs (so_St s.heap sa) 386 0 :=
    ⟨c1, hcode, c4, hret, c9, c5, fun hnm => absurd hnm (by decide), fun w hw => c6 w (List.mem_filter.mp hw).1, hAm, rfl, hl0, va_S.rf, Nat.le_refl _, fun h => absurd h (by decide)⟩
  have hB := so_all (l := l) (D := D) (tA := tA) (n0 := s.heap.size) (b0 := b) (sa := sa) (HL := s.heap) (XL := L) (xs := xs) (St := so_St s.heap sa) (fun s U hs hW => so_St_moved s U hs hW) (fun U hU => hU) hl0 rfl n
  have hG := hB p e room_1 s m #[Value.ref b] below meth c (lw_Z below #[Value.ref b] s) 386 0 0 300 0 [(0, .ref ab_scr)] [] (la_h0 L xs) h' (.inl (some (.int 1))) C (by decide) (by decide) (by decide) hr rfl rfl
    (by show ab_C h' ≤ 0 + 601024; omega) (by show ab_Z h' ≤ 0 + 7293034; omega)
    (fun pc i len L1 S h1 hd hlen hend => by
      intro ls H locs cells slots hl hR hc hs
      have hfin : ∀ x : Int32, i = .ireturn → S = [.int x] → vp_nar .boolean x = 1 → h1 = h' → W p l e room_1 s m #[Value.ref b] below meth c H locs cells slots (lw_Z below #[Value.ref b] s) (F0 m pc ls (so_S (so_fa s.heap.size b sa) S)) := by
        rintro x rfl rfl hx rfl
        obtain rfl : len = 1 := by simpa [ab_len] using hlen
        exact va_forget (fun q hq => hR.2.1.2.2 q hq) (W.widen (k := 601024) (n := 7293034) (by omega) (by omega) (la_ret c1 hcode hret c9 hd hx))
      unfold ab_end at hend
      split at hend
      · split at hend
        · cases hend
        · cases hend
      · split at hend
        · rw [la_ret386] at hend
          simp only [Option.some.injEq, Prod.mk.injEq, Sum.inl.injEq, Value.int.injEq] at hend
          exact hfin _ rfl rfl hend.1 hend.2
        · cases hend
      · split at hend
        · split at hend
          · cases hend
          · cases hend
        · cases hend
      · split at hend
        · split at hend
          · cases hend
          · cases hend
        · cases hend
      · cases hend)
    (fun E h => by cases h)
  rw [lg_entry_eq]
  have hent := lv_entry [Value.ref b] (n := 8) (Nat.succ_le_succ (Nat.zero_le 7))
  refine hG _ s.heap [] 0 0 ?_ ⟨?_, va_S.rf, Nat.le_refl _, Nat.zero_le _, fun a _ => ⟨rfl, rfl⟩⟩ rfl rfl
  · have hfa : so_fa s.heap.size b sa ab_scr = b := by
      unfold so_fa
      rw [if_neg (by omega), if_pos (by decide)]
    show lv_has _ 8 [(0, .ref (so_fa s.heap.size b sa ab_scr))]
    rw [hfa]
    exact hent
  · intro k q hk
    simp [so_ws, la_h0, ab_N] at hk
