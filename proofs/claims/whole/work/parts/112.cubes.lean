/-! new int[n][m][q] -/
def gr_out (c : ClassId) (N h0 w : Nat) : Nat → Cell
  | 0 => { cls := c, slots := Array.replicate N .null, vm := .none }
  | i + 1 => (gr_out c N h0 w i).setSlot i (.ref (h0 + 1 + i * w))
def gr_fill (s : State) (c c1 c2 : ClassId) (N M K : Nat) (dv : Value) : Nat → State
  | 0 => s.pushCell (gr_out c N s.heap.size (M + 1) 0)
  | i + 1 => (Jvm.Free.Multi.fill (gr_fill s c c1 c2 N M K dv i) c1 c2 M K dv M).setCell s.heap.size (gr_out c N s.heap.size (M + 1) (i + 1))
theorem gr_out_f (c : ClassId) (N h0 w : Nat) : ∀ i, (gr_out c N h0 w i).cls = c ∧ (gr_out c N h0 w i).vm = .none ∧ (gr_out c N h0 w i).slots.size = N
  | 0 => ⟨rfl, rfl, by simp [gr_out]⟩
  | i + 1 => by
    obtain ⟨a, b, d⟩ := gr_out_f c N h0 w i
    exact ⟨by simp [gr_out, Cell.setSlot, a], by simp [gr_out, Cell.setSlot, b], by simp [gr_out, Cell.setSlot, d]⟩
theorem gr_fill_f (s : State) (c c1 c2 : ClassId) (N M K : Nat) (dv : Value) : ∀ i, (gr_fill s c c1 c2 N M K dv i).heap.size = s.heap.size + 1 + i * (M + 1) ∧ (gr_fill s c c1 c2 N M K dv i).heap[s.heap.size]? = some (gr_out c N s.heap.size (M + 1) i) ∧
    (gr_fill s c c1 c2 N M K dv i).vm = s.vm ∧ (gr_fill s c c1 c2 N M K dv i).slotsUsed = s.slotsUsed + N + i * (M + M * K)
  | 0 => ⟨by simp [gr_fill], by simp [gr_fill], rfl, by simp [gr_fill, gr_out]⟩
  | i + 1 => by
    obtain ⟨a, b, d, u⟩ := gr_fill_f s c c1 c2 N M K dv i
    obtain ⟨a1, b1, d1, u1⟩ := Jvm.Free.Multi.fill_facts (gr_fill s c c1 c2 N M K dv i) c1 c2 M K dv M
    have hb' : (Jvm.Free.Multi.fill (gr_fill s c c1 c2 N M K dv i) c1 c2 M K dv M).heap[s.heap.size]? = some (gr_out c N s.heap.size (M + 1) i) := by
      rw [Jvm.Free.Multi.fill_old _ _ _ _ _ _ (show s.heap.size < (gr_fill s c c1 c2 N M K dv i).heap.size by rw [a]; omega)]; exact b
    refine ⟨?_, State.heap_setCell_self hb', by simp [gr_fill, d1, d], ?_⟩
    · have e : (i + 1) * (M + 1) = i * (M + 1) + (M + 1) := Nat.succ_mul _ _
      simp [gr_fill, State.setCell, a1, a]; omega
    · have e : (i + 1) * (M + M * K) = i * (M + M * K) + (M + M * K) := Nat.succ_mul _ _
      simp [gr_fill, u1, u]; omega
theorem gr_fill_top (s : State) (f : JFrame) (c c1 c2 : ClassId) (N M K : Nat) (dv : Value) : ∀ i, gr_fill (s.setTop f) c c1 c2 N M K dv i = (gr_fill s c c1 c2 N M K dv i).setTop f
  | 0 => rfl
  | i + 1 => by simp only [gr_fill, gr_fill_top s f c c1 c2 N M K dv i, Jvm.Free.Multi.fill_setTop, State.heap_setTop, State.setCell_setTop]
theorem gr_fill_old (s : State) (c c1 c2 : ClassId) (N M K : Nat) (dv : Value) {a : Addr} (ha : a < s.heap.size) : ∀ i, (gr_fill s c c1 c2 N M K dv i).heap[a]? = s.heap[a]?
  | 0 => State.heap_pushCell_of_lt _ _ ha
  | i + 1 => by
    have f1 := (gr_fill_f s c c1 c2 N M K dv i).1
    show ((Jvm.Free.Multi.fill (gr_fill s c c1 c2 N M K dv i) c1 c2 M K dv M).setCell s.heap.size _).heap[a]? = _
    rw [State.heap_setCell_other (Nat.ne_of_gt ha), Jvm.Free.Multi.fill_old _ _ _ _ _ _ (show a < (gr_fill s c c1 c2 N M K dv i).heap.size from Nat.lt_of_lt_of_le ha (by rw [f1]; omega))]
    exact gr_fill_old s c c1 c2 N M K dv ha i
/-- a block of the cube: its row of references, and its leaves -/
theorem gr_fill_in (s : State) (c c1 c2 : ClassId) (N M K : Nat) (dv : Value) : ∀ i j, j < i → (gr_fill s c c1 c2 N M K dv i).heap[s.heap.size + 1 + j * (M + 1)]? = some (Jvm.Free.Multi.outerC c1 M (s.heap.size + 1 + j * (M + 1)) M) ∧ ∀ r, r < M → (gr_fill s c c1 c2 N M K dv i).heap[s.heap.size + 1 + j * (M + 1) + 1 + r]? = some (Jvm.Free.Multi.innerC c2 K dv)
  | 0, _, h => absurd h (Nat.not_lt_zero _)
  | i + 1, j, h => by
    have f1 := (gr_fill_f s c c1 c2 N M K dv i).1
    have g1 := Jvm.Free.Multi.fill_facts (gr_fill s c c1 c2 N M K dv i) c1 c2 M K dv M
    show ((Jvm.Free.Multi.fill (gr_fill s c c1 c2 N M K dv i) c1 c2 M K dv M).setCell s.heap.size _).heap[_]? = _ ∧ ∀ r, r < M → ((Jvm.Free.Multi.fill (gr_fill s c c1 c2 N M K dv i) c1 c2 M K dv M).setCell s.heap.size _).heap[_]? = _
    rcases Nat.lt_or_ge j i with hj | hj
    · obtain ⟨h1, h2⟩ := gr_fill_in s c c1 c2 N M K dv i j hj
      have hm : j * (M + 1) + (M + 1) ≤ i * (M + 1) := by
        have := Nat.mul_le_mul_right (M + 1) (show j + 1 ≤ i from hj)
        rw [Nat.succ_mul] at this; exact this
      refine ⟨?_, fun r hr => ?_⟩
      · rw [State.heap_setCell_other (show s.heap.size ≠ s.heap.size + 1 + j * (M + 1) by omega), Jvm.Free.Multi.fill_old _ _ _ _ _ _ (show s.heap.size + 1 + j * (M + 1) < (gr_fill s c c1 c2 N M K dv i).heap.size by rw [f1]; omega)]; exact h1
      · rw [State.heap_setCell_other (show s.heap.size ≠ s.heap.size + 1 + j * (M + 1) + 1 + r by omega), Jvm.Free.Multi.fill_old _ _ _ _ _ _ (show s.heap.size + 1 + j * (M + 1) + 1 + r < (gr_fill s c c1 c2 N M K dv i).heap.size by rw [f1]; omega)]; exact h2 r hr
    · have hji : j = i := by omega
      subst hji
      refine ⟨?_, fun r hr => ?_⟩
      · rw [State.heap_setCell_other (show s.heap.size ≠ s.heap.size + 1 + j * (M + 1) by omega), ← f1]; exact g1.2.1
      · rw [State.heap_setCell_other (show s.heap.size ≠ s.heap.size + 1 + j * (M + 1) + 1 + r by omega), ← f1]; exact Jvm.Free.Multi.fill_inner _ _ _ _ _ _ M r hr
section
variable {E : CtlPost} {e : Env} {d : Bool} {acts : List Action} {s : State}
theorem gr_make {c c1 c2 cc : ClassId} {k k1 k2 : Class} {t0 t1 type : FieldType} {n m q : Int32} (hk : s.vm.classes[c]? = some k) (hkind : k.kind = .array c1 t0) (href : t0.isReference = true) (hk1 : s.vm.classes[c1]? = some k1) (hkind1 : k1.kind = .array c2 t1) (href1 : t1.isReference = true)
    (hk2 : s.vm.classes[c2]? = some k2) (hkind2 : k2.kind = .array cc type) (hn : ¬ n < 0) (hm : ¬ m < 0) (hq0 : ¬ q < 0)
    (hl1 : ¬ n.toNatClampNeg > e.platform.arrayLengthLimit) (hh1 : ¬ n.toNatClampNeg * componentBytes t0 > e.platform.maxHeapBytes) (hl2 : ¬ m.toNatClampNeg > e.platform.arrayLengthLimit) (hh2 : ¬ m.toNatClampNeg * componentBytes t1 > e.platform.maxHeapBytes)
    (hl3 : ¬ q.toNatClampNeg > e.platform.arrayLengthLimit) (hh3 : ¬ q.toNatClampNeg * componentBytes type > e.platform.maxHeapBytes) (hdf : fits type (defaultValue type) = true) (hdd : (defaultValue type).isDefault = true)
    (hc : s.heap.size + 1 + n.toNatClampNeg * (m.toNatClampNeg + 1) ≤ e.platform.maxCells) (hs : s.slotsUsed + n.toNatClampNeg + n.toNatClampNeg * (m.toNatClampNeg + m.toNatClampNeg * q.toNatClampNeg) ≤ e.platform.maxSlots)
    {Q : Addr → Pre} (hq : ∀ d' acts', Q s.heap.size d' acts' (gr_fill s c c1 c2 n.toNatClampNeg m.toNatClampNeg q.toNatClampNeg (defaultValue type) n.toNatClampNeg)) :
    wp (multianewarray.make c [n, m, q]) Q E e d acts s := by
  have hfind : ([m, q].find? (· < 0)) = none := by simp [hm, hq0]
  rw [multianewarray.make]
  simp only [wp_bind', W.ite, hn, if_false, wp_pure', W.theClass, hk, hkind, Option.some.injEq, exists_eq_left']
  refine Jvm.Free.Multi.wp_newArray hk hkind hl1 hh1 (Jvm.Free.Multi.refFits href _ (Or.inl rfl)) rfl (by omega) (by omega) ?_
  simp only [hfind]
  rw [ite_self, wp_bind', Std.Legacy.Range.forIn_eq_forIn_range']
  have hsz : ([:n.toNatClampNeg] : Std.Legacy.Range).size = n.toNatClampNeg := by simp [Std.Legacy.Range.size]
  rw [hsz]
  show wp (forIn (List.range' 0 n.toNatClampNeg 1) PUnit.unit _) _ E e d acts _
  refine wp_forIn_inv (fun rest s' => ∃ i, i ≤ n.toNatClampNeg ∧ rest = List.range' i (n.toNatClampNeg - i) ∧ s' = gr_fill s c c1 c2 n.toNatClampNeg m.toNatClampNeg q.toNatClampNeg (defaultValue type) i) _ _ ⟨0, Nat.zero_le _, rfl, rfl⟩ ?_ ?_
  · rintro x rest s' d' acts' Q' ⟨i, hi, hl, rfl⟩ hnext
    have hlt : i < n.toNatClampNeg := by
      rcases Nat.lt_or_ge i n.toNatClampNeg with h | h
      · exact h
      · rw [show n.toNatClampNeg - i = 0 from by omega] at hl; simp at hl
    obtain ⟨rfl, hrest⟩ : x = i ∧ rest = List.range' (i + 1) (n.toNatClampNeg - (i + 1)) := by
      rw [show n.toNatClampNeg - i = (n.toNatClampNeg - (i + 1)) + 1 from by omega, List.range'_succ] at hl
      exact ⟨(List.cons.inj hl).1, (List.cons.inj hl).2⟩
    obtain ⟨f1, f2, f3, f4⟩ := gr_fill_f s c c1 c2 n.toNatClampNeg m.toNatClampNeg q.toNatClampNeg (defaultValue type) x
    obtain ⟨o1, o2, o3⟩ := gr_out_f c n.toNatClampNeg s.heap.size (m.toNatClampNeg + 1) x
    have hmul : x * (m.toNatClampNeg + 1) + (m.toNatClampNeg + 1) ≤ n.toNatClampNeg * (m.toNatClampNeg + 1) := by
      have := Nat.mul_le_mul_right (m.toNatClampNeg + 1) (show x + 1 ≤ n.toNatClampNeg from hlt)
      rw [Nat.succ_mul] at this; exact this
    have hmul2 : x * (m.toNatClampNeg + m.toNatClampNeg * q.toNatClampNeg) + (m.toNatClampNeg + m.toNatClampNeg * q.toNatClampNeg) ≤ n.toNatClampNeg * (m.toNatClampNeg + m.toNatClampNeg * q.toNatClampNeg) := by
      have := Nat.mul_le_mul_right (m.toNatClampNeg + m.toNatClampNeg * q.toNatClampNeg) (show x + 1 ≤ n.toNatClampNeg from hlt)
      rw [Nat.succ_mul] at this; exact this
    simp only [wp_bind']
    refine Jvm.Free.Multi.wp_make2 (k := k1) (kc := k2) (t0 := t1) (type := type) (by rw [f3]; exact hk1) hkind1 href1 (by rw [f3]; exact hk2) hkind2 hm hq0 hl2 hh2 hl3 hh3 hdf hdd (by rw [f1]; omega) (by rw [f4]; omega) (fun d2 a2 => ?_)
    obtain ⟨i1, i2, i3, i4⟩ := Jvm.Free.Multi.fill_facts (gr_fill s c c1 c2 n.toNatClampNeg m.toNatClampNeg q.toNatClampNeg (defaultValue type) x) c1 c2 m.toNatClampNeg q.toNatClampNeg (defaultValue type) m.toNatClampNeg
    simp only [wp_bind', W.writeLoc, wp_pure']
    refine ⟨gr_out c n.toNatClampNeg s.heap.size (m.toNatClampNeg + 1) x, by rw [Jvm.Free.Multi.fill_old _ _ _ _ _ _ (show s.heap.size < (gr_fill s c c1 c2 n.toNatClampNeg m.toNatClampNeg q.toNatClampNeg (defaultValue type) x).heap.size by rw [f1]; omega)]; exact f2, by rw [o2]; simp, by rw [o3]; exact hlt, ?_, hnext _ _ _ ⟨x + 1, hlt, hrest, ?_⟩⟩
    · rw [o1, o2]
      simp [State.fitsSlot, State.slotType?, i3, f3, hk, hkind, Jvm.Free.Multi.refFits href _ (Or.inr ⟨_, rfl⟩)]
    · rw [f1]; rfl
  · rintro s' d' acts' ⟨i, hi, hl, rfl⟩
    have hiN : i = n.toNatClampNeg := by
      rcases Nat.lt_or_ge i n.toNatClampNeg with h | h
      · rw [show n.toNatClampNeg - i = (n.toNatClampNeg - (i + 1)) + 1 from by omega, List.range'_succ] at hl; cases hl
      · omega
    subst hiN
    simp only [wp_pure']
    exact hq _ _
end
section
variable {p : Program} {l : Launch} {e : Env} {R : Room} {s : State} {m : MethodId} {args : Array Value} {below : List Frame} {meth : Method} {c : Code} {T : State} {locs : List Loc} {cells slots : Nat}
theorem gr_filled (X : Stand p l e R s m args below meth c T locs cells slots) (cA c1 c2 : ClassId) (N M K : Nat) (dv : Value) :
    ∀ i, Stand p l e R s m args below meth c (gr_fill T cA c1 c2 N M K dv i) locs (cells + 1 + i * (M + 1)) (slots + N + i * (M + M * K))
  | 0 => by
    have h := X.pushed (gr_out cA N T.heap.size (M + 1) 0)
    rw [(gr_out_f cA N T.heap.size (M + 1) 0).2.2] at h
    simpa [gr_fill] using h
  | i + 1 => by
    have Xi := gr_filled X cA c1 c2 N M K dv i
    obtain ⟨f1, f2, f3, f4⟩ := gr_fill_f T cA c1 c2 N M K dv i
    have X2 := Xi.filled c1 c2 M K dv M
    have hg := X.heapGrown
    have hgi := Xi.heapGrown
    have X3 := X2.dropFresh (fun x hx => by
      obtain ⟨j, -, rfl⟩ := List.mem_map.mp hx
      exact hgi)
    have hcell : (Jvm.Free.Multi.fill (gr_fill T cA c1 c2 N M K dv i) c1 c2 M K dv M).heap[T.heap.size]? = some (gr_out cA N T.heap.size (M + 1) i) := by
      rw [Jvm.Free.Multi.fill_old _ _ _ _ _ _ (show T.heap.size < (gr_fill T cA c1 c2 N M K dv i).heap.size by rw [f1]; omega)]; exact f2
    have h := (X3.stored hcell i (.ref (T.heap.size + 1 + i * (M + 1)))).dropFresh (fun x hx => by
      rw [List.mem_singleton] at hx
      subst hx
      exact hg)
    have e1 : cells + 1 + (i + 1) * (M + 1) = cells + 1 + i * (M + 1) + 1 + M := by rw [Nat.succ_mul]; omega
    have e2 : slots + N + (i + 1) * (M + M * K) = slots + N + i * (M + M * K) + M + M * K := by rw [Nat.succ_mul]; omega
    rw [e1, e2]
    exact h
set_option maxHeartbeats 4000000 in
theorem gr_cube (X : Stand p l e R s m args below meth c T locs cells slots) (hexec : p.tables.exec = Jvm.exec) {own : String} {index : Nat} {ty : FieldType}
    (hown : s.vm.findClass own = some m.cls) (hclink : (Cond.classLink own index ("[" ++ (FieldType.array (.array ty)).toString)).before args s = true)
    (hover : (Cond.arrayOver (.array (.array ty))).before args s = true) (hover1 : (Cond.arrayOver (.array ty)).before args s = true) (harr : (Cond.arrayClass ty).before args s = true)
    {g : JFrame} (hg : g.method = m) (hdg : decode c.code g.pc = .ok (.multianewarray index 3, 4)) {n k q : Int32} {rest : List Value} (hstack : g.stack = .int q :: .int k :: .int n :: rest)
    (hn : ¬ n < 0) (hk : ¬ k < 0) (hq : ¬ q < 0) (hb1 : n.toNatClampNeg * 4 ≤ 536870912) (hb2 : k.toNatClampNeg * 4 ≤ 536870912) (hb3 : q.toNatClampNeg * componentBytes ty ≤ 536870912) (hb4 : q.toNatClampNeg ≤ 536870912)
    (hdf : fits ty (defaultValue ty) = true) (hdd : (defaultValue ty).isDefault = true)
    (hcells : cells + (1 + n.toNatClampNeg * (k.toNatClampNeg + 1)) ≤ R.cells) (hslots : slots + (n.toNatClampNeg + n.toNatClampNeg * (k.toNatClampNeg + k.toNatClampNeg * q.toNatClampNeg)) ≤ R.slots) :
    ∃ (vm₁ : Vm) (cA c1 c2 : ClassId), s.WarmedH vm₁ ∧ s.vm.findClass ("[" ++ (FieldType.array (.array ty)).toString) = some cA ∧ s.vm.findClass (FieldType.array (.array ty)).toString = some c1 ∧ s.vm.findClass (FieldType.array ty).toString = some c2 ∧
      Stand p l e R s m args below meth c (gr_fill (T.setVm vm₁) cA c1 c2 n.toNatClampNeg k.toNatClampNeg q.toNatClampNeg (defaultValue ty) n.toNatClampNeg) locs (cells + 1 + n.toNatClampNeg * (k.toNatClampNeg + 1)) (slots + n.toNatClampNeg + n.toNatClampNeg * (k.toNatClampNeg + k.toNatClampNeg * q.toNatClampNeg)) ∧
      ∀ target, Steps p.tables e below ((gr_fill (T.setVm vm₁) cA c1 c2 n.toNatClampNeg k.toNatClampNeg q.toNatClampNeg (defaultValue ty) n.toNatClampNeg).setTop { g with pc := g.pc + 4, stack := .ref T.heap.size :: rest }) target →
        Steps p.tables e below (T.setTop g) target := by
  subst hg
  have hpl : e.platform.magicAccessors = ({} : Platform).magicAccessors := by rw [X.admits.platform]
  obtain ⟨c1, cA, kA, hcomp, hkA, hkindA, hnameA⟩ := Cond.arrayOver_specA hover
  obtain ⟨c2, c1', k1, hcomp1, hk1, hkind1, hname1⟩ := Cond.arrayOver_specA hover1
  obtain ⟨c2', k2, cc, hcomp2, hk2, hkind2⟩ := Cond.arrayClass_spec harr
  have e1 : c1' = c1 := Option.some.inj (hname1.symm.trans hcomp)
  subst e1
  have e2 : c2' = c2 := Option.some.inj (hcomp2.symm.trans hcomp1)
  subst e2
  obtain ⟨c0, hfc0, hcl⟩ := Cond.classLink_spec hown hclink e.platform hpl
  cases hnameA.symm.trans hfc0
  obtain ⟨hg₁, hwarm₁, hready₁⟩ := State.classEntry (e := e) X.warmed hcl
  generalize T.vm.noted g.method.cls index (.cls cA) = vm₁ at hg₁ hwarm₁ hready₁
  have hal : s.vm.Alike vm₁ := hwarm₁.alike
  obtain ⟨kA₁, hkA₁, heA⟩ := hal.2.2 _ _ hkA
  obtain ⟨k1₁, hk1₁, he1⟩ := hal.2.2 _ _ hk1
  obtain ⟨k2₁, hk2₁, he2⟩ := hal.2.2 _ _ hk2
  have hkindA₁ : kA₁.kind = .array c1' (.array (.array ty)) := by rw [heA]; exact hkindA
  have hkind1₁ : k1₁.kind = .array c2' (.array ty) := by rw [he1]; exact hkind1
  have hkind2₁ : k2₁.kind = .array cc ty := by rw [he2]; exact hkind2
  have X₁ := X.noted hwarm₁
  obtain ⟨hr1, hr2⟩ := X.roomAbove hcells hslots
  refine ⟨vm₁, cA, c1', c2', hwarm₁, hnameA, hcomp, hcomp1, gr_filled X₁ cA c1' c2' _ _ _ _ _, fun target hrest => ?_⟩
  have hl1 : ¬ n.toNatClampNeg > e.platform.arrayLengthLimit := by rw [Launch.admits_arrayLengthLimit X.admits]; omega
  have hh1 : ¬ n.toNatClampNeg * componentBytes (.array (.array ty)) > e.platform.maxHeapBytes := by
    rw [Launch.admits_maxHeapBytes X.admits]; show ¬ n.toNatClampNeg * 4 > 536870912; omega
  have hl2 : ¬ k.toNatClampNeg > e.platform.arrayLengthLimit := by rw [Launch.admits_arrayLengthLimit X.admits]; omega
  have hh2 : ¬ k.toNatClampNeg * componentBytes (.array ty) > e.platform.maxHeapBytes := by
    rw [Launch.admits_maxHeapBytes X.admits]; show ¬ k.toNatClampNeg * 4 > 536870912; omega
  have hl3 : ¬ q.toNatClampNeg > e.platform.arrayLengthLimit := by rw [Launch.admits_arrayLengthLimit X.admits]; omega
  have hh3 : ¬ q.toNatClampNeg * componentBytes ty > e.platform.maxHeapBytes := by rw [Launch.admits_maxHeapBytes X.admits]; omega
  jvm_step X.here [hexec, hdg]
  simp only [multianewarray.sem, wp_bind', W.resolveClassAt_links (State.method?_setTop g X.here.top) hg₁]
  rw [W.popN, if_neg (by decide)]
  refine ⟨g, State.topJava?_setTop' (s := T.setVm vm₁) g X.here.top, [.int n, .int k, .int q], rest, rfl, hstack, ?_⟩
  simp only [List.mapM_cons, List.mapM_nil, wp_bind', wp_pure']
  refine gr_make (k := kA₁) (k1 := k1₁) (k2 := k2₁) (c1 := c1') (c2 := c2') (cc := cc) (t0 := .array (.array ty)) (t1 := .array ty) (type := ty) hkA₁ hkindA₁ rfl hk1₁ hkind1₁ rfl hk2₁ hkind2₁ hn hk hq hl1 hh1 hl2 hh2 hl3 hh3 hdf hdd (by show T.heap.size + 1 + _ ≤ _; omega) (by show T.slotsUsed + _ + _ ≤ _; omega) (fun d' acts' => ?_)
  have XF := gr_filled X₁ cA c1' c2' n.toNatClampNeg k.toNatClampNeg q.toNatClampNeg (defaultValue ty) n.toNatClampNeg
  have eS : ((T.setTop g).setVm vm₁).setTop { g with stack := rest } = (T.setVm vm₁).setTop { g with stack := rest } := by
    show ((T.setVm vm₁).setTop g).setTop _ = _
    rw [State.setTop_setTop]
  rw [eS, gr_fill_top]
  simp only [wp_bind', W.mark, W.pushRef, State.topJava?_setTop' _ XF.here.top, Option.some.injEq, exists_eq_left', State.setTop_setTop, State.heap_setTop]
  intro acts
  simp [jvm, XF.here.top]
  exact hrest
end
theorem ab_rows3_K (h : ab_H) (m q : Nat) : ∀ k, ab_N (ab_rows3 h m q k) = ab_N h + k * (m + 1) ∧ ab_C (ab_rows3 h m q k) = ab_C h + k * (m + 1) ∧ ab_Z (ab_rows3 h m q k) = ab_Z h + k * (m + m * q) ∧ (ab_I (ab_rows3 h m q k) = ab_I h ∧ ab_G (ab_rows3 h m q k) = ab_G h) ∧ (∀ a, a < ab_N h → ab_K (ab_rows3 h m q k) a = ab_K h a ∧ ab_P (ab_rows3 h m q k) a = ab_P h a) ∧
    ∀ j, j < k → ab_K (ab_rows3 h m q k) (ab_N h + j * (m + 1)) = (104, m) ∧ ab_P (ab_rows3 h m q k) (ab_N h + j * (m + 1)) = (fun i => if i < m then some (ab_N h + j * (m + 1) + 1 + i) else none) ∧ ∀ r, r < m → ab_K (ab_rows3 h m q k) (ab_N h + j * (m + 1) + 1 + r) = (100, q)
  | 0 => ⟨by simp [ab_rows3], by simp [ab_rows3], by simp [ab_rows3], ⟨rfl, rfl⟩, fun _ _ => ⟨rfl, rfl⟩, fun j hj => absurd hj (Nat.not_lt_zero j)⟩
  | k + 1 => by
    obtain ⟨a1, a2, a3, ⟨a4, a4'⟩, a5, a6⟩ := ab_rows3_K h m q k
    obtain ⟨b1, b2, b3, b4, b5⟩ := ab_newb_f (ab_rows3 h m q k) m q
    obtain ⟨i1, i2⟩ := ab_newb_IG (ab_rows3 h m q k) m q
    have e1 : (k + 1) * (m + 1) = k * (m + 1) + (m + 1) := Nat.succ_mul _ _
    have e2 : (k + 1) * (m + m * q) = k * (m + m * q) + (m + m * q) := Nat.succ_mul _ _
    have hK := ab_newb_K (ab_rows3 h m q k) m q
    have hP := ab_newb_P (ab_rows3 h m q k) m q
    rw [a1] at hK hP
    refine ⟨?_, ?_, ?_, ⟨?_, ?_⟩, fun a ha => ⟨?_, ?_⟩, fun j hj => ?_⟩
    · show ab_N (ab_newb (ab_rows3 h m q k) m q) = _; omega
    · show ab_C (ab_newb (ab_rows3 h m q k) m q) = _; omega
    · show ab_Z (ab_newb (ab_rows3 h m q k) m q) = _; omega
    · exact i1.trans a4
    · exact i2.trans a4'
    · show ab_K (ab_newb (ab_rows3 h m q k) m q) a = _
      rw [hK a, if_neg (by omega), if_neg (by omega)]; exact (a5 a ha).1
    · show ab_P (ab_newb (ab_rows3 h m q k) m q) a = _
      rw [hP a, if_neg (by omega), if_neg (by omega)]; exact (a5 a ha).2
    · show ab_K (ab_newb (ab_rows3 h m q k) m q) _ = _ ∧ ab_P (ab_newb (ab_rows3 h m q k) m q) _ = _ ∧ ∀ r, r < m → ab_K (ab_newb (ab_rows3 h m q k) m q) _ = _
      by_cases hjk : j = k
      · subst hjk
        refine ⟨by rw [hK, if_pos rfl], by rw [hP, if_pos rfl], fun r hr => ?_⟩
        rw [hK, if_neg (by omega), if_pos (by omega)]
      · have hlt : j < k := by omega
        obtain ⟨c1, c2, c3⟩ := a6 j hlt
        have hm : j * (m + 1) + (m + 1) ≤ k * (m + 1) := by
          have := Nat.mul_le_mul_right (m + 1) (show j + 1 ≤ k from hlt)
          rw [Nat.succ_mul] at this; exact this
        refine ⟨?_, ?_, fun r hr => ?_⟩
        · rw [hK, if_neg (by omega), if_neg (by omega)]; exact c1
        · rw [hP, if_neg (by omega), if_neg (by omega)]; exact c2
        · rw [hK, if_neg (by omega), if_neg (by omega)]; exact c3 r hr
theorem gr_outV (c : ClassId) (N h0 w : Nat) : ∀ i : Nat, gr_out c N h0 w i = arrV c N (fun j => va_rf (if j < i then some (h0 + 1 + j * w) else none))
  | 0 => by
    show ({ cls := c, slots := Array.replicate N .null, vm := .none } : Cell) = _
    rw [arrV_new]
    refine congrArg (arrV c N) (funext fun j => ?_)
    simp [va_rf]
  | i + 1 => by
    show (gr_out c N h0 w i).setSlot i (.ref (h0 + 1 + i * w)) = _
    rw [gr_outV c N h0 w i, arrV_store]
    refine congrArg (arrV c N) (funext fun j => ?_)
    by_cases e : j = i
    · subst e
      simp [updV, va_rf]
    · by_cases h : j < i
      · simp [updV, e, h, Nat.lt_succ_of_lt h]
      · simp [updV, e, h, show ¬ j < i + 1 by omega]
section SOUND
variable {p : Program} {l : Launch} {e : Env} {R : Room} {s : State} {m : MethodId} {args : Array Value} {below : List Frame} {meth : Method} {c : Code} {Q : State → Prop}
variable {D : va_G} {tA : Nat → ClassId} {n0 b0 : Nat} {sa : Nat → Nat} {HL : Heap} {XL : Nat} {xs : Nat → Int32} {St : State → Prop} {y : Nat} {c0 z0 : Nat}
variable {pc len : Nat} {L : ab_L} {S r : ab_S} {h : ab_H}

set_option maxHeartbeats 4000000 in
theorem so_three (C : so_Cx p l s m args meth c D tA n0 b0 sa HL XL xs St y c0) {k : Nat} (hd : decode (ab_b y) pc = .ok (.multianewarray k 3, 4)) (hk : ab_lkA (ab_c y) k = some 3) {n m' q : Int32} (h1 : 0 ≤ n) (h2 : 0 ≤ m') (h2' : 0 ≤ q) (h3 : n.toNatClampNeg ≤ 100) (h4 : m'.toNatClampNeg ≤ 100) (h5 : q.toNatClampNeg ≤ 100) (hCN : ab_C h = ab_N h) (hN : ab_N h < 800000) (hC : ab_C (ab_newc h n.toNatClampNeg m'.toNatClampNeg q.toNatClampNeg) ≤ c0 + R.cells) (hZ : ab_Z (ab_newc h n.toNatClampNeg m'.toNatClampNeg q.toNatClampNeg) ≤ z0 + R.slots)
    (k1 : so_G p l e R s m args below meth c Q D tA (so_fa n0 b0 sa) HL y c0 z0 (pc + 4) L (.ref (ab_N h) :: S) (ab_newc h n.toNatClampNeg m'.toNatClampNeg q.toNatClampNeg)) : so_G p l e R s m args below meth c Q D tA (so_fa n0 b0 sa) HL y c0 z0 pc L (.int q :: .int m' :: .int n :: S) h := by
  intro ls H locs cells slots hl hR hc hs T hT X
  obtain ⟨C1, C2, C3, C4, C5, C6, C7, C8, C9, C10, C11, C12, C13, C14⟩ := C
  have hsz := so_end (D := D) (tA := tA) (b0 := b0) (sa := sa) hT X hR C10 C13 hc hCN
  generalize hN' : n.toNatClampNeg = N at *
  generalize hM' : m'.toNatClampNeg = M at *
  generalize hQ' : q.toNatClampNeg = Kq at *
  obtain ⟨q1, q2, q3, ⟨q4, q4'⟩, q5, q6⟩ := ab_rows3_K (ab_new h 105 N N (fun i => if i < N then some (ab_N h + 1 + i * (M + 1)) else none)) M Kq N
  rw [so_newN] at q1 q5 q6
  rw [so_newC] at q2
  rw [so_newZ] at q3
  rw [so_newI] at q4
  rw [so_newG] at q4'
  have eC : ab_C (ab_newc h N M Kq) = ab_C h + 1 + N * (M + 1) := q2
  have eZ : ab_Z (ab_newc h N M Kq) = ab_Z h + N + N * (M + M * Kq) := q3
  rw [eC] at hC
  rw [eZ] at hZ
  have hNM : N * (M + 1) ≤ 10100 := Nat.le_trans (Nat.mul_le_mul h3 (show M + 1 ≤ 101 by omega)) (by omega)
  have hlink := so_word C8 (so_lkA hk) rfl
  obtain ⟨vm₁, cA, c1, c2, -, fA, fC, fD, X', step⟩ := gr_cube X C1 (ty := .int) C6 hlink (Jvm.Stand.arrayOver_alikeB (Vm.Alike.refl s.vm) (C9.2.1 _ ta_over.2 rfl)) (Jvm.Stand.arrayOver_alikeB (Vm.Alike.refl s.vm) (C9.2.1 _ ta_over.1 rfl)) (so_word C8 (so_libw 10 rfl) rfl) (g := F0 m pc ls (.int q :: .int m' :: .int n :: so_S (so_fa n0 b0 sa) S)) rfl (by rw [C2]; exact hd) rfl (so_nn h1) (so_nn h2) (so_nn h2')
    (by rw [hN']; omega) (by rw [hM']; omega) (by rw [hQ']; exact Nat.le_trans (Nat.mul_le_mul h5 (show componentBytes .int ≤ 4 by decide)) (Nat.le_of_ble_eq_true rfl)) (by rw [hQ']; exact Nat.le_trans h5 (Nat.le_of_ble_eq_true rfl)) rfl rfl (by rw [hN', hM']; omega) (by rw [hN', hM', hQ']; omega)
  have hcA := so_nm5 C9.1 fA
  have hc1 := so_nm4 C9.1 fC
  have hc2 := so_nm0 C9.1 fD
  subst hcA; subst hc1; subst hc2
  rw [hN', hM', hQ'] at X' step
  have hTh : (T.setVm vm₁).heap = H := hT
  obtain ⟨f1, f2, -, -⟩ := gr_fill_f (T.setVm vm₁) (tA 5) (tA 4) (tA 0) N M Kq (defaultValue .int) N
  have hold : ∀ x : Nat, x < H.size → (gr_fill (T.setVm vm₁) (tA 5) (tA 4) (tA 0) N M Kq (defaultValue .int) N).heap[x]? = H[x]? := fun x hx => by
    have := gr_fill_old (T.setVm vm₁) (tA 5) (tA 4) (tA 0) N M Kq (defaultValue .int) (a := x) (by rw [hTh]; exact hx) N
    rw [hTh] at this
    exact this
  have hin := gr_fill_in (T.setVm vm₁) (tA 5) (tA 4) (tA 0) N M Kq (defaultValue .int) N
  generalize gr_fill (T.setVm vm₁) (tA 5) (tA 4) (tA 0) N M Kq (defaultValue .int) N = F at *
  rw [hTh] at f1 f2 hin
  rw [gr_outV] at f2
  have hfa : ∀ a, a < 900000 → so_fa n0 b0 sa a = HL.size + a := fun a ha => by rw [so_faK (by omega), C10]
  have hz := hR.2.2.2.2
  have hRn : so_R D tA (so_fa n0 b0 sa) HL (ab_newc h N M Kq) F.heap locs := by
    refine so_R_grow hR (j := 1 + N * (M + 1)) (q1.trans (by omega)) (fun a ha => (q5 a (by omega)).1.trans (if_neg (by omega))) (fun a ha => (q5 a (by omega)).2.trans (if_neg (by omega))) q4 q4' (fun a g1 g2 => ?_) hold (by omega) (by rw [eC, show ab_N (ab_newc h N M Kq) = ab_N h + 1 + N * (M + 1) from q1]; omega) (by rw [show ab_N (ab_newc h N M Kq) = ab_N h + 1 + N * (M + 1) from q1]; omega)
    rw [hfa a (by omega)]
    by_cases ha : a = ab_N h
    · subst ha
      have hK : ab_K (ab_newc h N M Kq) (ab_N h) = (105, N) := (q5 (ab_N h) (by omega)).1.trans so_newK
      have hP : ab_P (ab_newc h N M Kq) (ab_N h) = (fun i => if i < N then some (ab_N h + 1 + i * (M + 1)) else none) := (q5 (ab_N h) (by omega)).2.trans so_newP
      rw [so_ent_q (t := 105) (by rw [hK]) (by omega), hK, hP]
      show F.heap[HL.size + ab_N h]? = some (vp_cell (tA 5) (N, _))
      rw [← hsz, f2, vp_cell_q]
      congr 2
      funext j
      dsimp only
      by_cases hj : j < N
      · rw [if_pos hj, if_pos hj]
        show va_rf (some (H.size + 1 + j * (M + 1))) = va_rf (some (so_fa n0 b0 sa (ab_N h + 1 + j * (M + 1))))
        have hm : j * (M + 1) ≤ N * (M + 1) := Nat.mul_le_mul_right _ (by omega)
        rw [hfa _ (by omega), hsz]
        congr 2
        omega
      · rw [if_neg hj, if_neg hj]
        rfl
    · obtain ⟨b, hb⟩ : ∃ b, a = ab_N h + 1 + b := ⟨a - (ab_N h + 1), by omega⟩
      subst hb
      have hbN : b < N * (M + 1) := by omega
      have hj : b / (M + 1) < N := (Nat.div_lt_iff_lt_mul (by omega)).mpr hbN
      have hdm := Nat.div_add_mod b (M + 1)
      have hr := Nat.mod_lt b (show 0 < M + 1 by omega)
      obtain ⟨w1, w2, w3⟩ := q6 (b / (M + 1)) hj
      obtain ⟨v1, v2⟩ := hin (b / (M + 1)) hj
      have hcm : b / (M + 1) * (M + 1) = (M + 1) * (b / (M + 1)) := Nat.mul_comm _ _
      generalize b / (M + 1) = j at *
      by_cases hr0 : b % (M + 1) = 0
      · have hbj : b = j * (M + 1) := by omega
        have hK : ab_K (ab_newc h N M Kq) (ab_N h + 1 + b) = (104, M) := by rw [hbj]; exact w1
        have hP : ab_P (ab_newc h N M Kq) (ab_N h + 1 + b) = (fun i => if i < M then some (ab_N h + 1 + j * (M + 1) + 1 + i) else none) := by rw [hbj]; exact w2
        rw [so_ent_q (t := 104) (by rw [hK]) (by omega), hK, hP]
        show F.heap[HL.size + (ab_N h + 1 + b)]? = some (vp_cell (tA 4) (M, _))
        rw [show HL.size + (ab_N h + 1 + b) = H.size + 1 + j * (M + 1) by omega, v1, vp_cell_q, vr_outer]
        congr 2
        funext i
        dsimp only
        by_cases hi : i < M
        · rw [if_pos hi, if_pos hi]
          show va_rf (some (H.size + 1 + j * (M + 1) + 1 + i)) = va_rf (some (so_fa n0 b0 sa (ab_N h + 1 + j * (M + 1) + 1 + i)))
          rw [hfa _ (by omega), hsz]
          congr 2
          omega
        · rw [if_neg hi, if_neg hi]
          rfl
      · have hbj : b = j * (M + 1) + 1 + (b % (M + 1) - 1) := by omega
        have hrM : b % (M + 1) - 1 < M := by omega
        have hK : ab_K (ab_newc h N M Kq) (ab_N h + 1 + b) = (100, Kq) := by
          rw [show ab_N h + 1 + b = ab_N h + 1 + j * (M + 1) + 1 + (b % (M + 1) - 1) by omega]; exact w3 _ hrM
        rw [so_row0 hK (by rw [show ab_I (ab_newc h N M Kq) = ab_I h from q4]; exact (hz _ (by omega)).1)]
        show F.heap[HL.size + (ab_N h + 1 + b)]? = _
        rw [show HL.size + (ab_N h + 1 + b) = H.size + 1 + j * (M + 1) + 1 + (b % (M + 1) - 1) by omega, v2 _ hrM]
        congr 1
        exact arrV_new (tA 0) Kq (.int 0)
  have kk := k1 ls F.heap locs (cells + 1 + N * (M + 1)) (slots + N + N * (M + M * Kq)) hl hRn (by rw [eC]; omega) (by rw [eZ]; omega) F rfl X'
  rw [show so_S (so_fa n0 b0 sa) (.ref (ab_N h) :: S) = .ref (so_fa n0 b0 sa (ab_N h)) :: so_S (so_fa n0 b0 sa) S from rfl, hfa _ (by omega), ← hsz, ← hT] at kk
  obtain ⟨t, a1, b1⟩ := kk
  exact ⟨t, step t a1, b1⟩
end SOUND

