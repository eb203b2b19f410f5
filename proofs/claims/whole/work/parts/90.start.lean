def R_law : String := "SkyTailorLaw"
def lw_P (b : Addr) (xs : List Int32) (args : Array Value) (s : State) : Prop := args = #[.ref b] ∧ s.IntsAt b xs ∧ xs.length ≤ 3584 ∧ (Jvm.Cond.and given_1 narrow_1).before args s = true
def lw_Q (_ : Array Value) (s : State) (o : Outcome) (t : State) : Prop := o = .returned (some (.int 1)) ∧ Framed s o t [] 601024 7293034
def lw_Z (below : List Frame) (a : Array Value) (s : State) : State → Prop := fun t => ∃ o, t.status = .running ∧ Ended t below o ∧ lw_Q a s o t
/-- the law's own end, with 1 on the stack, nothing written that was there before, its room as the claim has it -/
theorem lw_ret {p : Program} {l : Launch} {e : Env} {s : State} {m : MethodId} {below : List Frame} {meth : Method} {c : Code} {b : Nat} (hx : p.tables.exec = Jvm.exec) (hb : c.code = code) (hr : meth.sig.returnType = ret) (hlocks : meth.locks = false) {pc : Nat} {H : Heap} {ls : Array Slot} (hdg : decode code pc = .ok (.ireturn, 1)) : W p l e room_1 s m #[Value.ref b] below meth c H [] 601024 7293034 (lw_Z below #[Value.ref b] s) (F0 m pc ls [.int 1]) := by
  intro T hT X
  obtain ⟨fs, hret, hrun, hended, hW, hframe⟩ := X.leave (v := some (.int 1)) (hlocks := hlocks) (fun h => by rw [hr] at h; cases h)
  have hmeth' : T.vm.method? m = some meth := X.method'
  refine ⟨T.setFrames fs, ?_, .returned (some (.int 1)), hrun, hended, rfl, ⟨_, rfl⟩, hW, hframe⟩
  jvm_step X.here [X.here.top, hx, hb, hdg, hmeth', hr, ret, narrow_b1]
  (try refine ⟨rfl, ?_⟩); (try refine ⟨rfl, ?_⟩)
  first | (intro acts; rw [hret _ acts rfl rfl rfl]) | rw [hret _ _ rfl rfl rfl]
  exact Steps.refl _
/-- what holds at the law's entry: the machine, the code, the tables' words (any of lw_tbl by 'hts w (by decide +kernel)'), the script of L ints xs at the cell b, what the Statement gives of the start (any of its parts by flat_of_before) -/
def lw_At (p : Program) (s : State) (m : MethodId) (meth : Method) (c : Code) (b L : Nat) (xs : Nat → Int32) : Prop :=
  p.tables.exec = Jvm.exec ∧ c.code = code ∧ meth.sig.returnType = ret ∧ c.maxLocals = 8 ∧ s.vm.findClass R_law = some m.cls ∧ (∀ w ∈ lw_tbl, w.before #[Value.ref b] s = true) ∧ va_X b L xs s s.heap ∧ b < s.heap.size ∧ meth.locks = false ∧ (Jvm.Cond.and given_1 narrow_1).before #[Value.ref b] s = true
/-! the law's walk out of a run of the abstract machine -/
def la_h0 (L : Nat) (xs : Nat → Int32) : ab_H := ((0, (fun _ => (0, 0)), (fun _ _ => none), L, xs), ((fun _ _ => 0), (fun _ _ => 0), 0, 0))
def la_tm (t : Nat) : Term := match ta_LS[t]? with
  | some e => .string (ta_nm e.1) e.2.1
  | none => .arg 0
def la_val (t : Nat) : Term := .field (la_tm t) "java/lang/String" "value" "[B"
def la_w (k t j : Nat) : Cond := match k with
  | 0 => .exactly (la_tm t) "java/lang/String"
  | 1 => .eq (.field (la_tm t) "java/lang/String" "coder" "B") (.int 0)
  | 2 => .arrayOf (la_val t) .byte
  | 3 => .eq (.length (la_val t)) (.int (Int32.ofNat (ta_tx t).length))
  | 4 => .eq (.elem (la_val t) (.int (Int32.ofNat j))) (.int (so_sb t j))
  | 5 => (match t with
    | 0 => .isRef (.static Bundle.tN "UNASSIGNED_STACK" Bundle.steD)
    | 1 => .isRef (.static Bundle.tN "SUPPRESSED_SENTINEL" Bundle.listD)
    | 2 => .eq (.static "java/lang/String" "COMPACT_STRINGS" "Z") (.int 1)
    | _ => .isRef (.static "jdk/internal/util/Preconditions" "SIOOBE_FORMATTER" "Ljava/util/function/BiFunction;"))
  | _ => .not (.castable (ta_ex t) (ta_ex j))
/-- where they stand: place, kind, which -/
def la_pl : List (Nat × Nat × Nat × Nat) := [(2, 5, 0, 0), (3, 5, 1, 0), (4, 5, 2, 0), (5, 5, 3, 0), (22, 6, 0, 1), (23, 6, 2, 1), (37, 6, 1, 0), (38, 6, 2, 0), (52, 6, 1, 2), (53, 6, 0, 2), (54, 0, 0, 0), (55, 1, 0, 0), (56, 2, 0, 0), (57, 3, 0, 0), (58, 4, 0, 0), (59, 4, 0, 1), (60, 4, 0, 2), (61, 4, 0, 3), (62, 4, 0, 4), (63, 4, 0, 5), (64, 4, 0, 6), (65, 4, 0, 7), (66, 4, 0, 8), (67, 4, 0, 9), (68, 4, 0, 10), (69, 4, 0, 11), (70, 4, 0, 12), (71, 4, 0, 13), (72, 4, 0, 14), (73, 4, 0, 15), (74, 4, 0, 16), (75, 4, 0, 17), (76, 4, 0, 18), (77, 4, 0, 19), (78, 4, 0, 20), (79, 4, 0, 21), (80, 4, 0, 22), (81, 4, 0, 23), (82, 4, 0, 24), (83, 4, 0, 25), (84, 4, 0, 26), (85, 4, 0, 27), (86, 4, 0, 28), (87, 4, 0, 29), (88, 4, 0, 30), (89, 4, 0, 31), (90, 4, 0, 32), (91, 4, 0, 33), (92, 0, 1, 0), (93, 1, 1, 0), (94, 2, 1, 0), (95, 3, 1, 0), (96, 4, 1, 0), (97, 4, 1, 1), (98, 4, 1, 2), (99, 4, 1, 3), (100, 4, 1, 4), (101, 4, 1, 5), (102, 4, 1, 6), (103, 4, 1, 7), (104, 4, 1, 8), (105, 4, 1, 9), (106, 4, 1, 10), (107, 4, 1, 11), (108, 4, 1, 12), (109, 4, 1, 13), (110, 4, 1, 14), (111, 4, 1, 15), (112, 4, 1, 16), (113, 4, 1, 17), (114, 4, 1, 18), (115, 4, 1, 19), (116, 4, 1, 20), (117, 4, 1, 21), (118, 4, 1, 22), (119, 4, 1, 23), (120, 4, 1, 24), (121, 4, 1, 25), (122, 4, 1, 26), (123, 4, 1, 27), (125, 0, 2, 0), (126, 1, 2, 0), (127, 2, 2, 0), (128, 3, 2, 0), (129, 4, 2, 0), (130, 4, 2, 1), (131, 4, 2, 2), (132, 4, 2, 3), (133, 4, 2, 4), (134, 4, 2, 5), (135, 4, 2, 6), (136, 4, 2, 7), (137, 4, 2, 8), (138, 4, 2, 9), (139, 4, 2, 10), (140, 4, 2, 11), (141, 4, 2, 12), (142, 4, 2, 13), (143, 4, 2, 14), (144, 4, 2, 15), (145, 4, 2, 16), (146, 4, 2, 17), (147, 4, 2, 18), (148, 4, 2, 19), (149, 4, 2, 20), (150, 4, 2, 21), (151, 4, 2, 22), (152, 4, 2, 23), (153, 4, 2, 24), (154, 4, 2, 25), (155, 4, 2, 26), (156, 4, 2, 27), (159, 0, 3, 0), (160, 1, 3, 0), (161, 2, 3, 0), (162, 3, 3, 0), (163, 4, 3, 0), (164, 4, 3, 1), (165, 4, 3, 2), (166, 4, 3, 3), (167, 4, 3, 4), (171, 0, 4, 0), (172, 1, 4, 0), (173, 2, 4, 0), (174, 3, 4, 0), (175, 4, 4, 0), (176, 4, 4, 1), (177, 4, 4, 2), (178, 4, 4, 3), (179, 4, 4, 4), (180, 4, 4, 5), (181, 4, 4, 6), (182, 4, 4, 7), (183, 4, 4, 8), (184, 4, 4, 9), (185, 4, 4, 10), (186, 4, 4, 11), (187, 4, 4, 12), (188, 4, 4, 13), (189, 4, 4, 14), (190, 4, 4, 15), (191, 4, 4, 16), (192, 4, 4, 17), (193, 4, 4, 18), (194, 4, 4, 19), (195, 4, 4, 20), (196, 4, 4, 21), (197, 4, 4, 22), (198, 4, 4, 23), (199, 4, 4, 24), (200, 4, 4, 25), (201, 4, 4, 26), (202, 4, 4, 27), (203, 4, 4, 28), (204, 4, 4, 29), (205, 4, 4, 30), (206, 4, 4, 31), (207, 4, 4, 32), (208, 4, 4, 33), (209, 4, 4, 34), (210, 4, 4, 35), (211, 4, 4, 36), (212, 4, 4, 37), (213, 4, 4, 38), (214, 4, 4, 39), (215, 4, 4, 40), (220, 0, 5, 0), (221, 1, 5, 0), (222, 2, 5, 0), (223, 3, 5, 0), (224, 4, 5, 0), (225, 4, 5, 1), (226, 4, 5, 2), (227, 4, 5, 3), (228, 4, 5, 4), (229, 4, 5, 5), (230, 4, 5, 6), (231, 4, 5, 7), (232, 4, 5, 8), (233, 4, 5, 9), (234, 4, 5, 10), (235, 4, 5, 11), (236, 4, 5, 12), (237, 4, 5, 13), (238, 4, 5, 14), (239, 4, 5, 15), (240, 4, 5, 16), (241, 4, 5, 17), (242, 4, 5, 18), (243, 4, 5, 19), (244, 4, 5, 20), (245, 4, 5, 21), (246, 4, 5, 22), (247, 4, 5, 23), (248, 4, 5, 24), (249, 4, 5, 25), (250, 4, 5, 26), (251, 4, 5, 27), (252, 4, 5, 28), (253, 4, 5, 29), (254, 4, 5, 30), (255, 4, 5, 31), (256, 4, 5, 32), (257, 4, 5, 33), (258, 4, 5, 34), (264, 0, 6, 0), (265, 1, 6, 0), (266, 2, 6, 0), (267, 3, 6, 0), (268, 4, 6, 0), (269, 4, 6, 1), (270, 4, 6, 2), (271, 4, 6, 3), (272, 4, 6, 4), (273, 4, 6, 5), (274, 4, 6, 6), (275, 4, 6, 7), (276, 4, 6, 8), (277, 4, 6, 9), (278, 4, 6, 10), (279, 4, 6, 11), (280, 4, 6, 12), (281, 4, 6, 13), (282, 4, 6, 14), (283, 4, 6, 15), (284, 4, 6, 16), (285, 4, 6, 17), (286, 4, 6, 18), (287, 4, 6, 19), (288, 4, 6, 20), (289, 4, 6, 21), (290, 4, 6, 22), (291, 4, 6, 23), (292, 4, 6, 24), (293, 4, 6, 25), (294, 4, 6, 26), (295, 4, 6, 27), (302, 0, 7, 0), (303, 1, 7, 0), (304, 2, 7, 0), (305, 3, 7, 0), (306, 4, 7, 0), (307, 4, 7, 1), (308, 4, 7, 2), (309, 4, 7, 3), (310, 4, 7, 4), (311, 4, 7, 5), (312, 4, 7, 6), (313, 4, 7, 7), (314, 4, 7, 8), (315, 4, 7, 9), (316, 4, 7, 10), (317, 4, 7, 11), (318, 4, 7, 12), (319, 4, 7, 13), (320, 4, 7, 14), (321, 4, 7, 15), (322, 4, 7, 16), (323, 4, 7, 17), (324, 4, 7, 18), (325, 4, 7, 19), (326, 4, 7, 20), (327, 4, 7, 21), (328, 4, 7, 22), (329, 4, 7, 23), (330, 4, 7, 24), (331, 4, 7, 25), (332, 4, 7, 26), (333, 4, 7, 27)]
def la_flat : Cond → List Cond
  | .and a b => la_flat a ++ la_flat b
  | w => [w]
theorem la_flat_ok {args : Array Value} {s : State} : ∀ {w : Cond}, w.before args s = true → ∀ c ∈ la_flat w, c.before args s = true := by
  intro w
  induction w with
  | and a b iha ihb =>
    intro h c hc
    rw [Cond.before_and, Bool.and_eq_true] at h
    rcases List.mem_append.mp hc with hc | hc
    · exact iha h.1 c hc
    · exact ihb h.2 c hc
  | _ => intro h c hc; rw [List.mem_singleton.mp hc]; exact h
set_option maxRecDepth 100000 in
theorem la_pl_ok : ta_wk (la_flat narrow_1) 0 (la_pl.map (fun e => (e.1, la_w e.2.1 e.2.2.1 e.2.2.2))) = true := by decide +kernel
def la_has (k t j : Nat) : Bool := la_pl.any (fun e => e.2.1 == k && (e.2.2.1 == t && e.2.2.2 == j))
theorem la_use {k t j : Nat} (h : la_has k t j = true) : la_w k t j ∈ la_flat narrow_1 := by
  obtain ⟨e, he, h2⟩ := List.any_eq_true.mp h
  rw [Bool.and_eq_true, Bool.and_eq_true, beq_iff_eq, beq_iff_eq, beq_iff_eq] at h2
  have h3 := ta_wk_mem _ _ _ la_pl_ok (e.1, la_w e.2.1 e.2.2.1 e.2.2.2) (List.mem_map.mpr ⟨e, he, rfl⟩)
  rw [h2.1, h2.2.1, h2.2.2] at h3
  exact h3
theorem la_all : ((List.range 8).all (fun t => la_has 0 t 0 && la_has 1 t 0 && la_has 2 t 0 && la_has 3 t 0 && (List.range (ta_tx t).length).all (fun j => la_has 4 t j)) && (List.range 4).all (fun t => la_has 5 t 0) && (List.range 3).all (fun i => (List.range 3).all (fun j => decide (i = j) || la_has 6 i j))) = true := by decide +kernel
