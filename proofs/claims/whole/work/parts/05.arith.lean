section SOUND
variable {p : Program} {l : Launch} {e : Env} {R : Room} {s : State} {m : MethodId} {args : Array Value} {below : List Frame} {meth : Method} {c : Code} {Q : State → Prop}
variable {D : va_G} {tA : Nat → ClassId} {n0 b0 : Nat} {sa : Nat → Nat} {HL : Heap} {XL : Nat} {xs : Nat → Int32} {St : State → Prop} {y : Nat} {c0 z0 : Nat}
variable {pc len : Nat} {L : ab_L} {S r : ab_S} {h : ab_H}

theorem so_iadd (C : so_Cx p l s m args meth c D tA n0 b0 sa HL XL xs St y c0) (hd : decode (ab_b y) pc = .ok (.iadd, 1)) {x z : Int32} (k1 : so_G p l e R s m args below meth c Q D tA (so_fa n0 b0 sa) HL y c0 z0 (pc + 1) L (.int (x + z) :: S) h) : so_G p l e R s m args below meth c Q D tA (so_fa n0 b0 sa) HL y c0 z0 pc L (.int z :: .int x :: S) h :=
  fun ls H locs cells slots hl hR hc hs => lv_iadd C.1 C.2.1 hd (k1 ls H locs cells slots hl hR hc hs)
theorem so_isub (C : so_Cx p l s m args meth c D tA n0 b0 sa HL XL xs St y c0) (hd : decode (ab_b y) pc = .ok (.isub, 1)) {x z : Int32} (k1 : so_G p l e R s m args below meth c Q D tA (so_fa n0 b0 sa) HL y c0 z0 (pc + 1) L (.int (x - z) :: S) h) : so_G p l e R s m args below meth c Q D tA (so_fa n0 b0 sa) HL y c0 z0 pc L (.int z :: .int x :: S) h :=
  fun ls H locs cells slots hl hR hc hs => lv_isub C.1 C.2.1 hd (k1 ls H locs cells slots hl hR hc hs)
theorem so_imul (C : so_Cx p l s m args meth c D tA n0 b0 sa HL XL xs St y c0) (hd : decode (ab_b y) pc = .ok (.imul, 1)) {x z : Int32} (k1 : so_G p l e R s m args below meth c Q D tA (so_fa n0 b0 sa) HL y c0 z0 (pc + 1) L (.int (x * z) :: S) h) : so_G p l e R s m args below meth c Q D tA (so_fa n0 b0 sa) HL y c0 z0 pc L (.int z :: .int x :: S) h :=
  fun ls H locs cells slots hl hR hc hs => lv_imul C.1 C.2.1 hd (k1 ls H locs cells slots hl hR hc hs)
theorem so_iand (C : so_Cx p l s m args meth c D tA n0 b0 sa HL XL xs St y c0) (hd : decode (ab_b y) pc = .ok (.iand, 1)) {x z : Int32} (k1 : so_G p l e R s m args below meth c Q D tA (so_fa n0 b0 sa) HL y c0 z0 (pc + 1) L (.int (x &&& z) :: S) h) : so_G p l e R s m args below meth c Q D tA (so_fa n0 b0 sa) HL y c0 z0 pc L (.int z :: .int x :: S) h :=
  fun ls H locs cells slots hl hR hc hs => lv_iand C.1 C.2.1 hd (k1 ls H locs cells slots hl hR hc hs)
theorem so_ior (C : so_Cx p l s m args meth c D tA n0 b0 sa HL XL xs St y c0) (hd : decode (ab_b y) pc = .ok (.ior, 1)) {x z : Int32} (k1 : so_G p l e R s m args below meth c Q D tA (so_fa n0 b0 sa) HL y c0 z0 (pc + 1) L (.int (x ||| z) :: S) h) : so_G p l e R s m args below meth c Q D tA (so_fa n0 b0 sa) HL y c0 z0 pc L (.int z :: .int x :: S) h :=
  fun ls H locs cells slots hl hR hc hs => lv_ior C.1 C.2.1 hd (k1 ls H locs cells slots hl hR hc hs)
theorem so_ixor (C : so_Cx p l s m args meth c D tA n0 b0 sa HL XL xs St y c0) (hd : decode (ab_b y) pc = .ok (.ixor, 1)) {x z : Int32} (k1 : so_G p l e R s m args below meth c Q D tA (so_fa n0 b0 sa) HL y c0 z0 (pc + 1) L (.int (x ^^^ z) :: S) h) : so_G p l e R s m args below meth c Q D tA (so_fa n0 b0 sa) HL y c0 z0 pc L (.int z :: .int x :: S) h :=
  fun ls H locs cells slots hl hR hc hs => lv_ixor C.1 C.2.1 hd (k1 ls H locs cells slots hl hR hc hs)
theorem so_ishl (C : so_Cx p l s m args meth c D tA n0 b0 sa HL XL xs St y c0) (hd : decode (ab_b y) pc = .ok (.ishl, 1)) {x z : Int32} (k1 : so_G p l e R s m args below meth c Q D tA (so_fa n0 b0 sa) HL y c0 z0 (pc + 1) L (.int (x <<< (z &&& 31)) :: S) h) : so_G p l e R s m args below meth c Q D tA (so_fa n0 b0 sa) HL y c0 z0 pc L (.int z :: .int x :: S) h :=
  fun ls H locs cells slots hl hR hc hs => lv_ishl C.1 C.2.1 hd (k1 ls H locs cells slots hl hR hc hs)
theorem so_ishr (C : so_Cx p l s m args meth c D tA n0 b0 sa HL XL xs St y c0) (hd : decode (ab_b y) pc = .ok (.ishr, 1)) {x z : Int32} (k1 : so_G p l e R s m args below meth c Q D tA (so_fa n0 b0 sa) HL y c0 z0 (pc + 1) L (.int (x >>> (z &&& 31)) :: S) h) : so_G p l e R s m args below meth c Q D tA (so_fa n0 b0 sa) HL y c0 z0 pc L (.int z :: .int x :: S) h :=
  fun ls H locs cells slots hl hR hc hs => lv_ishr C.1 C.2.1 hd (k1 ls H locs cells slots hl hR hc hs)
theorem so_iushr (C : so_Cx p l s m args meth c D tA n0 b0 sa HL XL xs St y c0) (hd : decode (ab_b y) pc = .ok (.iushr, 1)) {x z : Int32} (k1 : so_G p l e R s m args below meth c Q D tA (so_fa n0 b0 sa) HL y c0 z0 (pc + 1) L (.int ((x.toUInt32 >>> (z.toUInt32 &&& Int32.toUInt32 31)).toInt32) :: S) h) : so_G p l e R s m args below meth c Q D tA (so_fa n0 b0 sa) HL y c0 z0 pc L (.int z :: .int x :: S) h :=
  fun ls H locs cells slots hl hR hc hs => lv_iushr C.1 C.2.1 hd rfl (k1 ls H locs cells slots hl hR hc hs)
theorem so_idiv (C : so_Cx p l s m args meth c D tA n0 b0 sa HL XL xs St y c0) (hd : decode (ab_b y) pc = .ok (.idiv, 1)) {x z : Int32} (h0 : ¬ z = 0) (k1 : so_G p l e R s m args below meth c Q D tA (so_fa n0 b0 sa) HL y c0 z0 (pc + 1) L (.int (x / z) :: S) h) : so_G p l e R s m args below meth c Q D tA (so_fa n0 b0 sa) HL y c0 z0 pc L (.int z :: .int x :: S) h :=
  fun ls H locs cells slots hl hR hc hs => lv_idiv C.1 C.2.1 hd h0 (k1 ls H locs cells slots hl hR hc hs)
theorem so_irem (C : so_Cx p l s m args meth c D tA n0 b0 sa HL XL xs St y c0) (hd : decode (ab_b y) pc = .ok (.irem, 1)) {x z : Int32} (h0 : ¬ z = 0) (k1 : so_G p l e R s m args below meth c Q D tA (so_fa n0 b0 sa) HL y c0 z0 (pc + 1) L (.int (x - x / z * z) :: S) h) : so_G p l e R s m args below meth c Q D tA (so_fa n0 b0 sa) HL y c0 z0 pc L (.int z :: .int x :: S) h :=
  fun ls H locs cells slots hl hR hc hs => lv_irem C.1 C.2.1 hd h0 (k1 ls H locs cells slots hl hR hc hs)
theorem so_ladd (C : so_Cx p l s m args meth c D tA n0 b0 sa HL XL xs St y c0) (hd : decode (ab_b y) pc = .ok (.ladd, 1)) {x z : Int64} (k1 : so_G p l e R s m args below meth c Q D tA (so_fa n0 b0 sa) HL y c0 z0 (pc + 1) L (.long (x + z) :: S) h) : so_G p l e R s m args below meth c Q D tA (so_fa n0 b0 sa) HL y c0 z0 pc L (.long z :: .long x :: S) h :=
  fun ls H locs cells slots hl hR hc hs => lv_ladd C.1 C.2.1 hd (k1 ls H locs cells slots hl hR hc hs)
theorem so_lmul (C : so_Cx p l s m args meth c D tA n0 b0 sa HL XL xs St y c0) (hd : decode (ab_b y) pc = .ok (.lmul, 1)) {x z : Int64} (k1 : so_G p l e R s m args below meth c Q D tA (so_fa n0 b0 sa) HL y c0 z0 (pc + 1) L (.long (x * z) :: S) h) : so_G p l e R s m args below meth c Q D tA (so_fa n0 b0 sa) HL y c0 z0 pc L (.long z :: .long x :: S) h :=
  fun ls H locs cells slots hl hR hc hs => lv_lmul C.1 C.2.1 hd (k1 ls H locs cells slots hl hR hc hs)
theorem so_ldiv (C : so_Cx p l s m args meth c D tA n0 b0 sa HL XL xs St y c0) (hd : decode (ab_b y) pc = .ok (.ldiv, 1)) {x z : Int64} (h0 : ¬ z = 0) (k1 : so_G p l e R s m args below meth c Q D tA (so_fa n0 b0 sa) HL y c0 z0 (pc + 1) L (.long (x / z) :: S) h) : so_G p l e R s m args below meth c Q D tA (so_fa n0 b0 sa) HL y c0 z0 pc L (.long z :: .long x :: S) h :=
  fun ls H locs cells slots hl hR hc hs => lv_ldiv C.1 C.2.1 hd h0 (k1 ls H locs cells slots hl hR hc hs)
theorem so_lrem (C : so_Cx p l s m args meth c D tA n0 b0 sa HL XL xs St y c0) (hd : decode (ab_b y) pc = .ok (.lrem, 1)) {x z : Int64} (h0 : ¬ z = 0) (k1 : so_G p l e R s m args below meth c Q D tA (so_fa n0 b0 sa) HL y c0 z0 (pc + 1) L (.long (x - x / z * z) :: S) h) : so_G p l e R s m args below meth c Q D tA (so_fa n0 b0 sa) HL y c0 z0 pc L (.long z :: .long x :: S) h :=
  fun ls H locs cells slots hl hR hc hs => lv_lrem C.1 C.2.1 hd h0 (k1 ls H locs cells slots hl hR hc hs)
theorem so_lcmp (C : so_Cx p l s m args meth c D tA n0 b0 sa HL XL xs St y c0) (hd : decode (ab_b y) pc = .ok (.lcmp, 1)) {x z : Int64} (k1 : so_G p l e R s m args below meth c Q D tA (so_fa n0 b0 sa) HL y c0 z0 (pc + 1) L (.int (lg_cmp x z) :: S) h) : so_G p l e R s m args below meth c Q D tA (so_fa n0 b0 sa) HL y c0 z0 pc L (.long z :: .long x :: S) h :=
  fun ls H locs cells slots hl hR hc hs => W.lcmp C.1 C.2.1 hd (k1 ls H locs cells slots hl hR hc hs)
theorem so_ineg (C : so_Cx p l s m args meth c D tA n0 b0 sa HL XL xs St y c0) (hd : decode (ab_b y) pc = .ok (.ineg, 1)) {x : Int32} (k1 : so_G p l e R s m args below meth c Q D tA (so_fa n0 b0 sa) HL y c0 z0 (pc + 1) L (.int (-x) :: S) h) : so_G p l e R s m args below meth c Q D tA (so_fa n0 b0 sa) HL y c0 z0 pc L (.int x :: S) h :=
  fun ls H locs cells slots hl hR hc hs => lv_ineg C.1 C.2.1 hd (k1 ls H locs cells slots hl hR hc hs)
theorem so_i2b (C : so_Cx p l s m args meth c D tA n0 b0 sa HL XL xs St y c0) (hd : decode (ab_b y) pc = .ok (.i2b, 1)) {x : Int32} (k1 : so_G p l e R s m args below meth c Q D tA (so_fa n0 b0 sa) HL y c0 z0 (pc + 1) L (.int x.toInt8.toInt32 :: S) h) : so_G p l e R s m args below meth c Q D tA (so_fa n0 b0 sa) HL y c0 z0 pc L (.int x :: S) h :=
  fun ls H locs cells slots hl hR hc hs => lv_i2b C.1 C.2.1 hd rfl (k1 ls H locs cells slots hl hR hc hs)
theorem so_i2l (C : so_Cx p l s m args meth c D tA n0 b0 sa HL XL xs St y c0) (hd : decode (ab_b y) pc = .ok (.i2l, 1)) {x : Int32} (k1 : so_G p l e R s m args below meth c Q D tA (so_fa n0 b0 sa) HL y c0 z0 (pc + 1) L (.long x.toInt64 :: S) h) : so_G p l e R s m args below meth c Q D tA (so_fa n0 b0 sa) HL y c0 z0 pc L (.int x :: S) h :=
  fun ls H locs cells slots hl hR hc hs => lv_i2l C.1 C.2.1 hd rfl (k1 ls H locs cells slots hl hR hc hs)
theorem so_l2i (C : so_Cx p l s m args meth c D tA n0 b0 sa HL XL xs St y c0) (hd : decode (ab_b y) pc = .ok (.l2i, 1)) {x : Int64} (k1 : so_G p l e R s m args below meth c Q D tA (so_fa n0 b0 sa) HL y c0 z0 (pc + 1) L (.int x.toInt32 :: S) h) : so_G p l e R s m args below meth c Q D tA (so_fa n0 b0 sa) HL y c0 z0 pc L (.long x :: S) h :=
  fun ls H locs cells slots hl hR hc hs => lv_l2i C.1 C.2.1 hd rfl (k1 ls H locs cells slots hl hR hc hs)
theorem so_iconst (C : so_Cx p l s m args meth c D tA n0 b0 sa HL XL xs St y c0) {v : Int} (hd : decode (ab_b y) pc = .ok (.iconst v, 1)) (k1 : so_G p l e R s m args below meth c Q D tA (so_fa n0 b0 sa) HL y c0 z0 (pc + 1) L (.int (Int32.ofInt v) :: S) h) : so_G p l e R s m args below meth c Q D tA (so_fa n0 b0 sa) HL y c0 z0 pc L S h :=
  fun ls H locs cells slots hl hR hc hs => lv_iconst C.1 C.2.1 hd rfl (k1 ls H locs cells slots hl hR hc hs)
theorem so_bipush (C : so_Cx p l s m args meth c D tA n0 b0 sa HL XL xs St y c0) {v : Int} (hd : decode (ab_b y) pc = .ok (.bipush v, 2)) (k1 : so_G p l e R s m args below meth c Q D tA (so_fa n0 b0 sa) HL y c0 z0 (pc + 2) L (.int ((Int8.ofInt v).toInt32) :: S) h) : so_G p l e R s m args below meth c Q D tA (so_fa n0 b0 sa) HL y c0 z0 pc L S h :=
  fun ls H locs cells slots hl hR hc hs => lv_bipush C.1 C.2.1 hd rfl (k1 ls H locs cells slots hl hR hc hs)
theorem so_sipush (C : so_Cx p l s m args meth c D tA n0 b0 sa HL XL xs St y c0) {v : Int} (hd : decode (ab_b y) pc = .ok (.sipush v, 3)) (k1 : so_G p l e R s m args below meth c Q D tA (so_fa n0 b0 sa) HL y c0 z0 (pc + 3) L (.int ((Int16.ofInt v).toInt32) :: S) h) : so_G p l e R s m args below meth c Q D tA (so_fa n0 b0 sa) HL y c0 z0 pc L S h :=
  fun ls H locs cells slots hl hR hc hs => lv_sipush C.1 C.2.1 hd rfl (k1 ls H locs cells slots hl hR hc hs)
theorem so_lconst (C : so_Cx p l s m args meth c D tA n0 b0 sa HL XL xs St y c0) {v : Fin 2} (hd : decode (ab_b y) pc = .ok (.lconst v, 1)) (k1 : so_G p l e R s m args below meth c Q D tA (so_fa n0 b0 sa) HL y c0 z0 (pc + 1) L (.long (Int64.ofNat (v : Nat)) :: S) h) : so_G p l e R s m args below meth c Q D tA (so_fa n0 b0 sa) HL y c0 z0 pc L S h :=
  fun ls H locs cells slots hl hR hc hs => lv_lconst C.1 C.2.1 hd rfl (k1 ls H locs cells slots hl hR hc hs)
theorem so_pop (C : so_Cx p l s m args meth c D tA n0 b0 sa HL XL xs St y c0) (hd : decode (ab_b y) pc = .ok (.pop, 1)) {v : Value} (hv : v.category = 1) (k1 : so_G p l e R s m args below meth c Q D tA (so_fa n0 b0 sa) HL y c0 z0 (pc + 1) L S h) : so_G p l e R s m args below meth c Q D tA (so_fa n0 b0 sa) HL y c0 z0 pc L (v :: S) h :=
  fun ls H locs cells slots hl hR hc hs => lv_pop C.1 C.2.1 hd ((so_vc _ v).trans hv) (k1 ls H locs cells slots hl hR hc hs)
theorem so_dup (C : so_Cx p l s m args meth c D tA n0 b0 sa HL XL xs St y c0) (hd : decode (ab_b y) pc = .ok (.dup, 1)) {v : Value} (hv : v.category = 1) (k1 : so_G p l e R s m args below meth c Q D tA (so_fa n0 b0 sa) HL y c0 z0 (pc + 1) L (v :: v :: S) h) : so_G p l e R s m args below meth c Q D tA (so_fa n0 b0 sa) HL y c0 z0 pc L (v :: S) h :=
  fun ls H locs cells slots hl hR hc hs => lv_dup C.1 C.2.1 hd ((so_vc _ v).trans hv) (k1 ls H locs cells slots hl hR hc hs)
theorem so_dup2 (C : so_Cx p l s m args meth c D tA n0 b0 sa HL XL xs St y c0) (hd : decode (ab_b y) pc = .ok (.dup2, 1)) {v w : Value} (hv : v.category = 1) (hw : w.category = 1) (k1 : so_G p l e R s m args below meth c Q D tA (so_fa n0 b0 sa) HL y c0 z0 (pc + 1) L (v :: w :: v :: w :: S) h) : so_G p l e R s m args below meth c Q D tA (so_fa n0 b0 sa) HL y c0 z0 pc L (v :: w :: S) h :=
  fun ls H locs cells slots hl hR hc hs => lv_dup2_11 C.1 C.2.1 hd ((so_vc _ v).trans hv) ((so_vc _ w).trans hw) (k1 ls H locs cells slots hl hR hc hs)
theorem so_to {pc : Nat} {off : Int} {t : Nat} (h : ab_to pc off = some t) : (pc : Int) + off = (t : Int) := by
  unfold ab_to at h
  split at h
  · cases h; omega
  · cases h
theorem so_goto (C : so_Cx p l s m args meth c D tA n0 b0 sa HL XL xs St y c0) {off : Int} {t : Nat} (hd : decode (ab_b y) pc = .ok (.goto off, 3)) (ht : ab_to pc off = some t) (k1 : so_G p l e R s m args below meth c Q D tA (so_fa n0 b0 sa) HL y c0 z0 t L S h) : so_G p l e R s m args below meth c Q D tA (so_fa n0 b0 sa) HL y c0 z0 pc L S h :=
  fun ls H locs cells slots hl hR hc hs => lv_goto C.1 C.2.1 hd (so_to ht) (k1 ls H locs cells slots hl hR hc hs)
theorem so_iinc (C : so_Cx p l s m args meth c D tA n0 b0 sa HL XL xs St y c0) {k : Nat} {v : Int} (hd : decode (ab_b y) pc = .ok (.iinc k v, 3)) {x : Int32} (hg : ab_get L k = some (.int x)) (hk : k < ab_nL y) (k1 : so_G p l e R s m args below meth c Q D tA (so_fa n0 b0 sa) HL y c0 z0 (pc + 3) (ab_put L k (.int (x + Int32.ofInt v))) S h) : so_G p l e R s m args below meth c Q D tA (so_fa n0 b0 sa) HL y c0 z0 pc L S h := by
  intro ls H locs cells slots hl hR hc hs
  obtain ⟨i, hi⟩ := List.getElem?_of_mem (so_get (fa := so_fa n0 b0 sa) hg)
  exact lv_iinc C.1 C.2.1 hd hl hi rfl hk (so_put _ L k (.int (x + Int32.ofInt v))) (fun ls' hl' => k1 ls' H locs cells slots hl' hR hc hs)
theorem so_if (C : so_Cx p l s m args meth c D tA n0 b0 sa HL XL xs St y c0) {k : ClassFile.Cond} {off : Int} {t : Nat} (hd : decode (ab_b y) pc = .ok (.if_icmp k off, 3)) {x z : Int32} (ht : ab_to pc off = some t) (k1 : ab_cmp k x z = true → so_G p l e R s m args below meth c Q D tA (so_fa n0 b0 sa) HL y c0 z0 t L S h) (k2 : ab_cmp k x z = false → so_G p l e R s m args below meth c Q D tA (so_fa n0 b0 sa) HL y c0 z0 (pc + 3) L S h) : so_G p l e R s m args below meth c Q D tA (so_fa n0 b0 sa) HL y c0 z0 pc L (.int z :: .int x :: S) h := by
  intro ls H locs cells slots hl hR hc hs
  have h2 := so_to ht
  have j1 := fun b => k1 b ls H locs cells slots hl hR hc hs
  have j2 := fun b => k2 b ls H locs cells slots hl hR hc hs
  cases k
  · exact lv_icmp_eq C.1 C.2.1 hd h2 (fun b => j1 (by simp [ab_cmp, b])) (fun b => j2 (by simp only [ab_cmp]; exact decide_eq_false b))
  · exact lv_icmp_ne C.1 C.2.1 hd h2 (fun b => j1 (by simp [ab_cmp, b])) (fun b => j2 (by simp [ab_cmp, b]))
  · exact lv_icmp_lt C.1 C.2.1 hd h2 (fun b => j1 (by simp [ab_cmp, b])) (fun b => j2 (by simp only [ab_cmp]; exact decide_eq_false b))
  · exact lv_icmp_ge C.1 C.2.1 hd h2 (fun b => j1 (by simp [ab_cmp, b])) (fun b => j2 (by simp only [ab_cmp]; exact decide_eq_false b))
  · exact lv_icmp_gt C.1 C.2.1 hd h2 (fun b => j1 (by simp [ab_cmp, b])) (fun b => j2 (by simp only [ab_cmp]; exact decide_eq_false b))
  · exact lv_icmp_le C.1 C.2.1 hd h2 (fun b => j1 (by simp [ab_cmp, b])) (fun b => j2 (by simp only [ab_cmp]; exact decide_eq_false b))
theorem so_if0 (C : so_Cx p l s m args meth c D tA n0 b0 sa HL XL xs St y c0) {k : ClassFile.Cond} {off : Int} {t : Nat} (hd : decode (ab_b y) pc = .ok (.ifCond k off, 3)) {x : Int32} (ht : ab_to pc off = some t) (k1 : ab_cmp0 k x = true → so_G p l e R s m args below meth c Q D tA (so_fa n0 b0 sa) HL y c0 z0 t L S h) (k2 : ab_cmp0 k x = false → so_G p l e R s m args below meth c Q D tA (so_fa n0 b0 sa) HL y c0 z0 (pc + 3) L S h) : so_G p l e R s m args below meth c Q D tA (so_fa n0 b0 sa) HL y c0 z0 pc L (.int x :: S) h := by
  intro ls H locs cells slots hl hR hc hs
  have h2 := so_to ht
  have j1 := fun b => k1 b ls H locs cells slots hl hR hc hs
  have j2 := fun b => k2 b ls H locs cells slots hl hR hc hs
  cases k
  · exact lv_if_eq C.1 C.2.1 hd h2 (fun b => j1 (by simp [ab_cmp0, b])) (fun b => j2 (by simp only [ab_cmp0]; exact decide_eq_false b))
  · exact lv_if_ne C.1 C.2.1 hd h2 (fun b => j1 (by simp [ab_cmp0, b])) (fun b => j2 (by simp [ab_cmp0, b]))
  · exact lv_if_lt C.1 C.2.1 hd h2 (fun b => j1 (by simp [ab_cmp0, b])) (fun b => j2 (by simp only [ab_cmp0]; exact decide_eq_false b))
  · exact lv_if_ge C.1 C.2.1 hd h2 (fun b => j1 (by simp [ab_cmp0, b])) (fun b => j2 (by simp only [ab_cmp0]; exact decide_eq_false b))
  · exact lv_if_gt C.1 C.2.1 hd h2 (fun b => j1 (by simp [ab_cmp0, b])) (fun b => j2 (by simp only [ab_cmp0]; exact decide_eq_false b))
  · exact lv_if_le C.1 C.2.1 hd h2 (fun b => j1 (by simp [ab_cmp0, b])) (fun b => j2 (by simp only [ab_cmp0]; exact decide_eq_false b))
theorem so_ifnull (C : so_Cx p l s m args meth c D tA n0 b0 sa HL XL xs St y c0) {off : Int} (hd : decode (ab_b y) pc = .ok (.ifnull off, 3)) {a : Nat} (k1 : so_G p l e R s m args below meth c Q D tA (so_fa n0 b0 sa) HL y c0 z0 (pc + 3) L S h) : so_G p l e R s m args below meth c Q D tA (so_fa n0 b0 sa) HL y c0 z0 pc L (.ref a :: S) h :=
  fun ls H locs cells slots hl hR hc hs => lv_ifnull C.1 C.2.1 hd (k1 ls H locs cells slots hl hR hc hs)
theorem so_ifnonnull (C : so_Cx p l s m args meth c D tA n0 b0 sa HL XL xs St y c0) {off : Int} {t : Nat} (hd : decode (ab_b y) pc = .ok (.ifnonnull off, 3)) (ht : ab_to pc off = some t) {a : Nat} (k1 : so_G p l e R s m args below meth c Q D tA (so_fa n0 b0 sa) HL y c0 z0 t L S h) : so_G p l e R s m args below meth c Q D tA (so_fa n0 b0 sa) HL y c0 z0 pc L (.ref a :: S) h :=
  fun ls H locs cells slots hl hR hc hs => lv_ifnonnull C.1 C.2.1 hd (so_to ht) (k1 ls H locs cells slots hl hR hc hs)
theorem so_tswIn (C : so_Cx p l s m args meth c D tA n0 b0 sa HL XL xs St y c0) {d lo hi : Int} {offs : Array Int} {off : Int} {t : Nat} (hd : decode (ab_b y) pc = .ok (.tableswitch d lo hi offs, len)) {x : Int32} (h1 : ¬ (x.toInt < lo ∨ hi < x.toInt)) (ho : offs[(x.toInt - lo).toNat]? = some off) (ht : ab_to pc off = some t) (k1 : so_G p l e R s m args below meth c Q D tA (so_fa n0 b0 sa) HL y c0 z0 t L S h) : so_G p l e R s m args below meth c Q D tA (so_fa n0 b0 sa) HL y c0 z0 pc L (.int x :: S) h :=
  fun ls H locs cells slots hl hR hc hs => lv_tableIn C.1 C.2.1 hd (fun q => h1 (Or.inl q)) (fun q => h1 (Or.inr q)) ho (so_to ht) (k1 ls H locs cells slots hl hR hc hs)
theorem so_tswOut (C : so_Cx p l s m args meth c D tA n0 b0 sa HL XL xs St y c0) {d lo hi : Int} {offs : Array Int} {t : Nat} (hd : decode (ab_b y) pc = .ok (.tableswitch d lo hi offs, len)) {x : Int32} (h1 : x.toInt < lo ∨ hi < x.toInt) (ht : ab_to pc d = some t) (k1 : so_G p l e R s m args below meth c Q D tA (so_fa n0 b0 sa) HL y c0 z0 t L S h) : so_G p l e R s m args below meth c Q D tA (so_fa n0 b0 sa) HL y c0 z0 pc L (.int x :: S) h :=
  fun ls H locs cells slots hl hR hc hs => lv_tableOut C.1 C.2.1 hd h1 (so_to ht) (k1 ls H locs cells slots hl hR hc hs)
theorem so_find {α : Type} {l : List α} {q : α → Bool} {e : α} (h : l.find? q = some e) : e ∈ l ∧ q e = true := ⟨List.mem_of_find?_eq_some h, List.find?_some h⟩
theorem so_word {w : Cond} (hts : ∀ w ∈ so_T, w.before args s = true) (h : w ∈ lw_tbl) (hg : goodWord w = true) : w.before args s = true := hts w (so_in h hg)
theorem so_ldc (C : so_Cx p l s m args meth c D tA n0 b0 sa HL XL xs St y c0) {k : Nat} (hd : decode (ab_b y) pc = .ok (.ldc k, 2)) {v : Int32} (hk : ab_lkI (ab_c y) k = some v) (k1 : so_G p l e R s m args below meth c Q D tA (so_fa n0 b0 sa) HL y c0 z0 (pc + 2) L (.int v :: S) h) : so_G p l e R s m args below meth c Q D tA (so_fa n0 b0 sa) HL y c0 z0 pc L S h := by
  intro ls H locs cells slots hl hR hc hs
  obtain ⟨C1, C2, C3, C4, C5, C6, C7, C8, C9⟩ := C
  obtain ⟨q, hq, rfl⟩ := Option.map_eq_some_iff.mp hk
  obtain ⟨hm, hq2⟩ := so_find hq
  rw [Bool.and_eq_true, beq_iff_eq, beq_iff_eq] at hq2
  obtain ⟨e1, e2⟩ := hq2
  have hw := ta_wkm ta_LI_ok q hm
  rw [e1, e2] at hw
  exact lv_ldc C1 C2 C6 (so_word C8 hw rfl) hd (k1 ls H locs cells slots hl hR hc hs)
theorem so_ldcw (C : so_Cx p l s m args meth c D tA n0 b0 sa HL XL xs St y c0) {k : Nat} (hd : decode (ab_b y) pc = .ok (.ldc_w k, 3)) {v : Int32} (hk : ab_lkI (ab_c y) k = some v) (k1 : so_G p l e R s m args below meth c Q D tA (so_fa n0 b0 sa) HL y c0 z0 (pc + 3) L (.int v :: S) h) : so_G p l e R s m args below meth c Q D tA (so_fa n0 b0 sa) HL y c0 z0 pc L S h := by
  intro ls H locs cells slots hl hR hc hs
  obtain ⟨C1, C2, C3, C4, C5, C6, C7, C8, C9⟩ := C
  obtain ⟨q, hq, rfl⟩ := Option.map_eq_some_iff.mp hk
  obtain ⟨hm, hq2⟩ := so_find hq
  rw [Bool.and_eq_true, beq_iff_eq, beq_iff_eq] at hq2
  obtain ⟨e1, e2⟩ := hq2
  have hw := ta_wkm ta_LI_ok q hm
  rw [e1, e2] at hw
  exact lv_ldcw C1 C2 C6 (so_word C8 hw rfl) hd (k1 ls H locs cells slots hl hR hc hs)
theorem so_ldc2 (C : so_Cx p l s m args meth c D tA n0 b0 sa HL XL xs St y c0) {k : Nat} (hd : decode (ab_b y) pc = .ok (.ldc2_w k, 3)) {v : Int64} (hk : ab_lkJ (ab_c y) k = some v) (k1 : so_G p l e R s m args below meth c Q D tA (so_fa n0 b0 sa) HL y c0 z0 (pc + 3) L (.long v :: S) h) : so_G p l e R s m args below meth c Q D tA (so_fa n0 b0 sa) HL y c0 z0 pc L S h := by
  intro ls H locs cells slots hl hR hc hs
  obtain ⟨C1, C2, C3, C4, C5, C6, C7, C8, C9⟩ := C
  obtain ⟨q, hq, rfl⟩ := Option.map_eq_some_iff.mp hk
  obtain ⟨hm, hq2⟩ := so_find hq
  rw [Bool.and_eq_true, beq_iff_eq, beq_iff_eq] at hq2
  obtain ⟨e1, e2⟩ := hq2
  have hw := ta_wkm ta_LJ_ok q hm
  rw [e1, e2] at hw
  exact lv_ldc2 C1 C2 C6 (so_word C8 hw rfl) hd (k1 ls H locs cells slots hl hR hc hs)
end SOUND
