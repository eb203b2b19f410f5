/-! the abstract machine and the machine: what a heap is, seen from the other -/
def so_fa (n0 b0 : Nat) (sa : Nat → Nat) (k : Nat) : Nat := if k < ab_scr then n0 + k else if k < ab_str then b0 else sa (k - ab_str)
def so_v (fa : Nat → Nat) (v : Value) : Value := match v with
  | .ref a => .ref (fa a)
  | w => w
theorem so_vc (fa : Nat → Nat) (v : Value) : (so_v fa v).category = v.category := by cases v <;> rfl
def so_L (fa : Nat → Nat) (L : ab_L) : ab_L := L.map (fun q => (q.1, so_v fa q.2))
def so_S (fa : Nat → Nat) (S : ab_S) : ab_S := S.map (so_v fa)
theorem so_cat (fa : Nat → Nat) (S : ab_S) : ((so_S fa S).map fun v => v.category).sum = ab_cat S := by
  unfold so_S ab_cat
  rw [List.map_map]
  congr 1
  exact List.map_congr_left (fun v _ => so_vc fa v)
theorem so_get {fa : Nat → Nat} : ∀ {L : ab_L} {i : Nat} {v : Value}, ab_get L i = some v → (i, so_v fa v) ∈ so_L fa L
  | [], i, v, h => by simp [ab_get] at h
  | (k, w) :: r, i, v, h => by
    unfold ab_get at h
    split at h
    · rename_i hk
      cases h
      have : k = i := by simpa using hk
      subst this
      exact List.mem_cons_self
    · exact List.mem_cons_of_mem _ (so_get h)
theorem so_flt (fa : Nat → Nat) (L : ab_L) (f : Nat → Nat → Bool) : (so_L fa L).filter (fun q => f q.1 q.2.category) = so_L fa (L.filter (fun q => f q.1 q.2.category)) := by
  unfold so_L
  rw [List.filter_map]
  congr 1
  apply List.filter_congr
  intro q _
  simp [Function.comp, so_vc]
theorem so_put (fa : Nat → Nat) (L : ab_L) (i : Nat) (v : Value) : (i, so_v fa v) :: (so_L fa L).filter (fun q => !(q.1 == i) && !(q.1 + 1 == i && q.2.category == 2)) = so_L fa (ab_put L i v) := by
  have h := so_flt fa L (fun a b => !(a == i) && !(a + 1 == i && b == 2))
  show _ :: _ = (i, so_v fa v) :: so_L fa _
  exact congrArg _ h
theorem so_put2 (fa : Nat → Nat) (L : ab_L) (i : Nat) (v : Value) : (i, so_v fa v) :: (so_L fa L).filter (fun q => !(q.1 == i) && (!(q.1 == i + 1) && !(q.1 + 1 == i && q.2.category == 2))) = so_L fa (ab_put2 L i v) := by
  have h := so_flt fa L (fun a b => !(a == i) && (!(a == i + 1) && !(a + 1 == i && b == 2)))
  show _ :: _ = (i, so_v fa v) :: so_L fa _
  exact congrArg _ h
/-- a cell, as the kit writes it -/
def so_fv (fa : Nat → Nat) (h : ab_H) (a t k : Nat) : Value := if ab_ref t k = true then va_rf ((ab_P h a k).map fa) else .int (ab_I h a k)
def so_ent (fa : Nat → Nat) (tA : Nat → ClassId) (h : ab_H) (a : Nat) : va_E :=
  if (ab_K h a).1 < 13 then .inr ((ab_K h a).1, (List.range (ab_cnt (ab_K h a).1)).map (so_fv fa h a (ab_K h a).1))
  else if (ab_K h a).1 < 103 then .inl (tA ((ab_K h a).1 - 100), (ab_K h a).2, .inl (ab_I h a))
  else if (ab_K h a).1 = 103 then .inl (tA 3, (ab_K h a).2, .inr (.inl (ab_G h a)))
  else .inl (tA ((ab_K h a).1 - 100), (ab_K h a).2, .inr (.inr (.inr (.inr (fun i => (ab_P h a i).map fa)))))
def so_ws (fa : Nat → Nat) (tA : Nat → ClassId) (h : ab_H) : va_W := (List.range (ab_N h)).map (fun a => (fa a, so_ent fa tA h a))
theorem so_ws_at {fa : Nat → Nat} {tA : Nat → ClassId} {h : ab_H} {a : Nat} (ha : a < ab_N h) : (so_ws fa tA h)[a]? = some (fa a, so_ent fa tA h a) := by
  simp [so_ws, List.getElem?_map, List.getElem?_range ha]
def so_tys (tA : Nat → ClassId) : List (ClassId × FieldType) := [(tA 0, .int), (tA 1, .byte), (tA 2, .boolean), (tA 3, .long), (tA 4, .array .int), (tA 5, .array (.array .int))]
abbrev so_A (HL : Heap) : Nat → Prop := fun q => HL.size ≤ q
/-- the heap H holds what h says -/
def so_R (D : va_G) (tA : Nat → ClassId) (fa : Nat → Nat) (HL : Heap) (h : ab_H) (H : Heap) (locs : List Loc) : Prop :=
  va_P D ta_cl (so_ws fa tA h) H ∧ va_S (so_A HL) HL H locs ∧ ab_N h ≤ ab_C h ∧ ab_N h ≤ 900000 ∧ ∀ a, ab_N h ≤ a → ab_I h a = (fun _ => 0) ∧ ab_G h a = (fun _ => 0)
def so_nest : Cond → Bool
  | .methodLinkNest .. => true
  | .fieldLinkNest .. => true
  | .castable .. => true
  | .declares .. => true
  | .arrayOver (.array _) => true
  | _ => false
/-- what the machine's tables and the cells below HL's end hold, in every state of the run -/
def so_Am (D : va_G) (tA : Nat → ClassId) (fa : Nat → Nat) (HL : Heap) (XL : Nat) (xs : Nat → Int32) (St : State → Prop) (U : State) : Prop :=
  va_K D ta_cl (so_tys tA) U ∧ (∀ w ∈ lw_tbl, so_nest w = true → va_Nw w U) ∧ va_X (fa ab_scr) XL xs U HL ∧ fa ab_scr < HL.size ∧
  vx_Zq Bundle.tN "UNASSIGNED_STACK" Bundle.steD (so_A HL) U HL ∧ vx_Zq Bundle.tN "SUPPRESSED_SENTINEL" Bundle.listD (so_A HL) U HL ∧ (∀ i j, i < 3 → j < 3 → i ≠ j → va_Nc (ta_ex i) (ta_ex j) U) ∧ St U
/-- the words of a method: its own code first -/
def so_T : List Cond := lw_tbl.filter goodWord
def so_w (y : Nat) : List Cond := ta_wM (ta_me y) :: so_T
theorem so_in {w : Cond} (h : w ∈ lw_tbl) (hg : goodWord w = true) : w ∈ so_T := List.mem_filter.mpr ⟨h, hg⟩
section SOUND
variable {p : Program} {l : Launch} {e : Env} {R : Room} {s : State} {m : MethodId} {args : Array Value} {below : List Frame} {meth : Method} {c : Code} {Q : State → Prop}
variable {D : va_G} {tA : Nat → ClassId} {n0 b0 : Nat} {sa : Nat → Nat} {HL : Heap} {XL : Nat} {xs : Nat → Int32} {St : State → Prop} {y : Nat} {c0 z0 : Nat}
/-- a method's body: what is fixed over it -/
def so_Cx (p : Program) (l : Launch) (s : State) (m : MethodId) (args : Array Value) (meth : Method) (c : Code) (D : va_G) (tA : Nat → ClassId) (n0 b0 : Nat) (sa : Nat → Nat) (HL : Heap) (XL : Nat) (xs : Nat → Int32) (St : State → Prop) (y c0 : Nat) : Prop :=
  p.tables.exec = Jvm.exec ∧ c.code = ab_b y ∧ c.maxLocals = ab_nL y ∧ meth.sig.returnType = ab_ret y ∧ meth.locks = false ∧ s.vm.findClass (ta_nm (ab_c y)) = some m.cls ∧ ((ab_y y).name = "<init>" → meth.name = "<init>") ∧
  (∀ w ∈ so_T, w.before args s = true) ∧ so_Am D tA (so_fa n0 b0 sa) HL XL xs St s ∧ n0 = HL.size ∧ l.stackTraces = false ∧ va_S (so_A HL) HL s.heap [] ∧ s.heap.size ≤ HL.size + c0 ∧ (y < 386 → c.exceptionTable.toList = tableOf (ta_me y).2.2.2.2.2)
/-- from every heap that holds h the machine comes to a state with Q -/
def so_G (p : Program) (l : Launch) (e : Env) (R : Room) (s : State) (m : MethodId) (args : Array Value) (below : List Frame) (meth : Method) (c : Code) (Q : State → Prop) (D : va_G) (tA : Nat → ClassId) (fa : Nat → Nat) (HL : Heap) (y c0 z0 pc : Nat) (L : ab_L) (S : ab_S) (h : ab_H) : Prop :=
  ∀ (ls : Array Slot) (H : Heap) (locs : List Loc) (cells slots : Nat), lv_has ls (ab_nL y) (so_L fa L) → so_R D tA fa HL h H locs → cells + c0 = ab_C h → slots + z0 = ab_Z h →
    W p l e R s m args below meth c H locs cells slots Q (F0 m pc ls (so_S fa S))
variable {pc len : Nat} {L : ab_L} {S r : ab_S} {h : ab_H}
theorem so_loadv {fa : Nat → Nat} {ls : Array Slot} {n i : Nat} {v : Value} (hl : lv_has ls n (so_L fa L)) (hg : ab_get L i = some v) : ls[i]? = some (.val (so_v fa v)) := hl.2.2 _ (so_get hg)
theorem so_ldI (C : so_Cx p l s m args meth c D tA n0 b0 sa HL XL xs St y c0) {k : Nat} (hd : decode (ab_b y) pc = .ok (.iload k, 2)) {x : Int32} (hg : ab_get L k = some (.int x))
    (k1 : so_G p l e R s m args below meth c Q D tA (so_fa n0 b0 sa) HL y c0 z0 (pc + 2) L (.int x :: S) h) : so_G p l e R s m args below meth c Q D tA (so_fa n0 b0 sa) HL y c0 z0 pc L S h :=
  fun ls H locs cells slots hl hR hc hs => lv_iload C.1 C.2.1 hd (so_loadv hl hg) (k1 ls H locs cells slots hl hR hc hs)
theorem so_ldIn (C : so_Cx p l s m args meth c D tA n0 b0 sa HL XL xs St y c0) {k : Fin 4} (hd : decode (ab_b y) pc = .ok (.iload_n k, 1)) {x : Int32} (hg : ab_get L k = some (.int x))
    (k1 : so_G p l e R s m args below meth c Q D tA (so_fa n0 b0 sa) HL y c0 z0 (pc + 1) L (.int x :: S) h) : so_G p l e R s m args below meth c Q D tA (so_fa n0 b0 sa) HL y c0 z0 pc L S h :=
  fun ls H locs cells slots hl hR hc hs => lv_iload_n C.1 C.2.1 hd rfl (so_loadv hl hg) (k1 ls H locs cells slots hl hR hc hs)
theorem so_ldA (C : so_Cx p l s m args meth c D tA n0 b0 sa HL XL xs St y c0) {k : Nat} (hd : decode (ab_b y) pc = .ok (.aload k, 2)) {x : Nat} (hg : ab_get L k = some (.ref x))
    (k1 : so_G p l e R s m args below meth c Q D tA (so_fa n0 b0 sa) HL y c0 z0 (pc + 2) L (.ref x :: S) h) : so_G p l e R s m args below meth c Q D tA (so_fa n0 b0 sa) HL y c0 z0 pc L S h :=
  fun ls H locs cells slots hl hR hc hs => lv_aload C.1 C.2.1 hd (so_loadv hl hg) (k1 ls H locs cells slots hl hR hc hs)
theorem so_ldAn (C : so_Cx p l s m args meth c D tA n0 b0 sa HL XL xs St y c0) {k : Fin 4} (hd : decode (ab_b y) pc = .ok (.aload_n k, 1)) {x : Nat} (hg : ab_get L k = some (.ref x))
    (k1 : so_G p l e R s m args below meth c Q D tA (so_fa n0 b0 sa) HL y c0 z0 (pc + 1) L (.ref x :: S) h) : so_G p l e R s m args below meth c Q D tA (so_fa n0 b0 sa) HL y c0 z0 pc L S h :=
  fun ls H locs cells slots hl hR hc hs => lv_aload_n C.1 C.2.1 hd rfl (so_loadv hl hg) (k1 ls H locs cells slots hl hR hc hs)
theorem so_ldL (C : so_Cx p l s m args meth c D tA n0 b0 sa HL XL xs St y c0) {k : Nat} (hd : decode (ab_b y) pc = .ok (.lload k, 2)) {x : Int64} (hg : ab_get L k = some (.long x))
    (k1 : so_G p l e R s m args below meth c Q D tA (so_fa n0 b0 sa) HL y c0 z0 (pc + 2) L (.long x :: S) h) : so_G p l e R s m args below meth c Q D tA (so_fa n0 b0 sa) HL y c0 z0 pc L S h :=
  fun ls H locs cells slots hl hR hc hs => lv_lload C.1 C.2.1 hd (so_loadv hl hg) (k1 ls H locs cells slots hl hR hc hs)
theorem so_ldLn (C : so_Cx p l s m args meth c D tA n0 b0 sa HL XL xs St y c0) {k : Fin 4} (hd : decode (ab_b y) pc = .ok (.lload_n k, 1)) {x : Int64} (hg : ab_get L k = some (.long x))
    (k1 : so_G p l e R s m args below meth c Q D tA (so_fa n0 b0 sa) HL y c0 z0 (pc + 1) L (.long x :: S) h) : so_G p l e R s m args below meth c Q D tA (so_fa n0 b0 sa) HL y c0 z0 pc L S h :=
  fun ls H locs cells slots hl hR hc hs => lv_lload_n C.1 C.2.1 hd rfl (so_loadv hl hg) (k1 ls H locs cells slots hl hR hc hs)
theorem so_stI (C : so_Cx p l s m args meth c D tA n0 b0 sa HL XL xs St y c0) {k : Nat} (hd : decode (ab_b y) pc = .ok (.istore k, 2)) {x : Int32} (hk : k < ab_nL y)
    (k1 : so_G p l e R s m args below meth c Q D tA (so_fa n0 b0 sa) HL y c0 z0 (pc + 2) (ab_put L k (.int x)) S h) : so_G p l e R s m args below meth c Q D tA (so_fa n0 b0 sa) HL y c0 z0 pc L (.int x :: S) h :=
  fun ls H locs cells slots hl hR hc hs => lv_istore C.1 C.2.1 hd hl hk (so_put _ L k (.int x)) (fun ls' hl' => k1 ls' H locs cells slots hl' hR hc hs)
theorem so_stIn (C : so_Cx p l s m args meth c D tA n0 b0 sa HL XL xs St y c0) {k : Fin 4} (hd : decode (ab_b y) pc = .ok (.istore_n k, 1)) {x : Int32} (hk : (k : Nat) < ab_nL y)
    (k1 : so_G p l e R s m args below meth c Q D tA (so_fa n0 b0 sa) HL y c0 z0 (pc + 1) (ab_put L k (.int x)) S h) : so_G p l e R s m args below meth c Q D tA (so_fa n0 b0 sa) HL y c0 z0 pc L (.int x :: S) h :=
  fun ls H locs cells slots hl hR hc hs => lv_istore_n C.1 C.2.1 hd rfl hl hk (so_put _ L k (.int x)) (fun ls' hl' => k1 ls' H locs cells slots hl' hR hc hs)
theorem so_stA (C : so_Cx p l s m args meth c D tA n0 b0 sa HL XL xs St y c0) {k : Nat} (hd : decode (ab_b y) pc = .ok (.astore k, 2)) {x : Nat} (hk : k < ab_nL y)
    (k1 : so_G p l e R s m args below meth c Q D tA (so_fa n0 b0 sa) HL y c0 z0 (pc + 2) (ab_put L k (.ref x)) S h) : so_G p l e R s m args below meth c Q D tA (so_fa n0 b0 sa) HL y c0 z0 pc L (.ref x :: S) h :=
  fun ls H locs cells slots hl hR hc hs => lv_astore C.1 C.2.1 hd hl hk (so_put _ L k (.ref x)) (fun ls' hl' => k1 ls' H locs cells slots hl' hR hc hs)
theorem so_stAn (C : so_Cx p l s m args meth c D tA n0 b0 sa HL XL xs St y c0) {k : Fin 4} (hd : decode (ab_b y) pc = .ok (.astore_n k, 1)) {x : Nat} (hk : (k : Nat) < ab_nL y)
    (k1 : so_G p l e R s m args below meth c Q D tA (so_fa n0 b0 sa) HL y c0 z0 (pc + 1) (ab_put L k (.ref x)) S h) : so_G p l e R s m args below meth c Q D tA (so_fa n0 b0 sa) HL y c0 z0 pc L (.ref x :: S) h :=
  fun ls H locs cells slots hl hR hc hs => lv_astore_n C.1 C.2.1 hd rfl hl hk (so_put _ L k (.ref x)) (fun ls' hl' => k1 ls' H locs cells slots hl' hR hc hs)
theorem so_stL (C : so_Cx p l s m args meth c D tA n0 b0 sa HL XL xs St y c0) {k : Nat} (hd : decode (ab_b y) pc = .ok (.lstore k, 2)) {x : Int64} (hk : k + 1 < ab_nL y)
    (k1 : so_G p l e R s m args below meth c Q D tA (so_fa n0 b0 sa) HL y c0 z0 (pc + 2) (ab_put2 L k (.long x)) S h) : so_G p l e R s m args below meth c Q D tA (so_fa n0 b0 sa) HL y c0 z0 pc L (.long x :: S) h :=
  fun ls H locs cells slots hl hR hc hs => lv_lstore C.1 C.2.1 hd hl hk (so_put2 _ L k (.long x)) (fun ls' hl' => k1 ls' H locs cells slots hl' hR hc hs)
theorem so_stLn (C : so_Cx p l s m args meth c D tA n0 b0 sa HL XL xs St y c0) {k : Fin 4} (hd : decode (ab_b y) pc = .ok (.lstore_n k, 1)) {x : Int64} (hk : (k : Nat) + 1 < ab_nL y)
    (k1 : so_G p l e R s m args below meth c Q D tA (so_fa n0 b0 sa) HL y c0 z0 (pc + 1) (ab_put2 L k (.long x)) S h) : so_G p l e R s m args below meth c Q D tA (so_fa n0 b0 sa) HL y c0 z0 pc L (.long x :: S) h :=
  fun ls H locs cells slots hl hR hc hs => lv_lstore_n C.1 C.2.1 hd rfl hl hk (so_put2 _ L k (.long x)) (fun ls' hl' => k1 ls' H locs cells slots hl' hR hc hs)
end SOUND
