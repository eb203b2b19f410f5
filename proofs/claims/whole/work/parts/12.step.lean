section SOUND
variable {p : Program} {l : Launch} {e : Env} {R : Room} {s : State} {m : MethodId} {args : Array Value} {below : List Frame} {meth : Method} {c : Code} {Q : State → Prop}
variable {D : va_G} {tA : Nat → ClassId} {n0 b0 : Nat} {sa : Nat → Nat} {HL : Heap} {XL : Nat} {xs : Nat → Int32} {St : State → Prop} {y : Nat} {c0 z0 : Nat}
variable {pc len : Nat} {L : ab_L} {S r : ab_S} {h : ab_H}

theorem so_arrName (hA : va_K D ta_cl (so_tys tA) s) {t : Nat} {ty : FieldType} (ht : (so_tys tA)[t]? = some (tA t, ty)) (hty : ∀ C, ty ≠ .object C) : ∀ cA, s.vm.findClass ("[" ++ ty.toString) = some cA → cA = tA t := by
  intro cA h1
  have h2 := (hA.2 t _ ht).2
  cases ty with
  | object C => exact absurd rfl (hty C)
  | _ => exact Option.some.inj (h1.symm.trans h2)
set_option maxHeartbeats 4000000 in
theorem so_step (C : so_Cx p l s m args meth c D tA n0 b0 sa HL XL xs St y c0) (hSS : ∀ U, St U → so_St HL sa U) (hF : 6 ≤ R.frames) (hLo : 100 ≤ R.locals) {i : Instr} (hd : decode (ab_b y) pc = .ok (i, len)) (hlen : ab_len i len = true) {pc' : Nat} {L' : ab_L} {S' : ab_S} {h' : ab_H} (hst : ab_step (decide ((ab_y y).name = "<init>")) (ab_nL y) (ab_c y) i len pc L S h = some (pc', L', S', h')) (hXL : ab_XL h = XL) (hX : ab_X h = xs) (hC : ab_C h' ≤ c0 + R.cells) (hZ : ab_Z h' ≤ z0 + R.slots)
    (k1 : so_G p l e R s m args below meth c Q D tA (so_fa n0 b0 sa) HL y c0 z0 (pc') (L') (S') (h')) : so_G p l e R s m args below meth c Q D tA (so_fa n0 b0 sa) HL y c0 z0 pc L S h := by
  cases i
  case iconst v =>
    obtain rfl : len = 1 := by simpa [ab_len] using hlen
    simp only [ab_step, Option.some.injEq, Prod.mk.injEq] at hst
    obtain ⟨rfl, rfl, rfl, rfl⟩ := hst
    exact so_iconst C hd k1
  case bipush v =>
    obtain rfl : len = 2 := by simpa [ab_len] using hlen
    simp only [ab_step, Option.some.injEq, Prod.mk.injEq] at hst
    obtain ⟨rfl, rfl, rfl, rfl⟩ := hst
    exact so_bipush C hd k1
  case sipush v =>
    obtain rfl : len = 3 := by simpa [ab_len] using hlen
    simp only [ab_step, Option.some.injEq, Prod.mk.injEq] at hst
    obtain ⟨rfl, rfl, rfl, rfl⟩ := hst
    exact so_sipush C hd k1
  case lconst v =>
    obtain rfl : len = 1 := by simpa [ab_len] using hlen
    simp only [ab_step, Option.some.injEq, Prod.mk.injEq] at hst
    obtain ⟨rfl, rfl, rfl, rfl⟩ := hst
    exact so_lconst C hd k1
  case ldc k =>
    obtain rfl : len = 2 := by simpa [ab_len] using hlen
    simp only [ab_step] at hst
    split at hst
    · rename_i v hv
      simp only [Option.some.injEq, Prod.mk.injEq] at hst
      obtain ⟨rfl, rfl, rfl, rfl⟩ := hst
      exact so_ldc C hd hv k1
    · obtain ⟨t, ht, hh⟩ := Option.map_eq_some_iff.mp hst
      cases hh
      exact so_ldS C hSS hd ht k1
  case ldc_w k =>
    obtain rfl : len = 3 := by simpa [ab_len] using hlen
    simp only [ab_step] at hst
    obtain ⟨t, ht, hh⟩ := Option.map_eq_some_iff.mp hst
    cases hh
    exact so_ldcw C hd ht k1
  case ldc2_w k =>
    obtain rfl : len = 3 := by simpa [ab_len] using hlen
    simp only [ab_step] at hst
    obtain ⟨t, ht, hh⟩ := Option.map_eq_some_iff.mp hst
    cases hh
    exact so_ldc2 C hd ht k1
  case iload k =>
    obtain rfl : len = 2 := by simpa [ab_len] using hlen
    simp only [ab_step] at hst
    obtain ⟨v, hv, rfl, rfl, rfl, rfl, hh⟩ := so_ld hst
    rcases hh with ⟨ht, x, rfl⟩ | ⟨ht, x, rfl⟩ | ⟨ht, x, rfl⟩
    · exact so_ldI C hd hv k1
    · cases ht
    · cases ht
  case iload_n k =>
    obtain rfl : len = 1 := by simpa [ab_len] using hlen
    simp only [ab_step] at hst
    obtain ⟨v, hv, rfl, rfl, rfl, rfl, hh⟩ := so_ld hst
    rcases hh with ⟨ht, x, rfl⟩ | ⟨ht, x, rfl⟩ | ⟨ht, x, rfl⟩
    · exact so_ldIn C hd hv k1
    · cases ht
    · cases ht
  case lload k =>
    obtain rfl : len = 2 := by simpa [ab_len] using hlen
    simp only [ab_step] at hst
    obtain ⟨v, hv, rfl, rfl, rfl, rfl, hh⟩ := so_ld hst
    rcases hh with ⟨ht, x, rfl⟩ | ⟨ht, x, rfl⟩ | ⟨ht, x, rfl⟩
    · cases ht
    · exact so_ldL C hd hv k1
    · cases ht
  case lload_n k =>
    obtain rfl : len = 1 := by simpa [ab_len] using hlen
    simp only [ab_step] at hst
    obtain ⟨v, hv, rfl, rfl, rfl, rfl, hh⟩ := so_ld hst
    rcases hh with ⟨ht, x, rfl⟩ | ⟨ht, x, rfl⟩ | ⟨ht, x, rfl⟩
    · cases ht
    · exact so_ldLn C hd hv k1
    · cases ht
  case aload k =>
    obtain rfl : len = 2 := by simpa [ab_len] using hlen
    simp only [ab_step] at hst
    obtain ⟨v, hv, rfl, rfl, rfl, rfl, hh⟩ := so_ld hst
    rcases hh with ⟨ht, x, rfl⟩ | ⟨ht, x, rfl⟩ | ⟨ht, x, rfl⟩
    · cases ht
    · cases ht
    · exact so_ldA C hd hv k1
  case aload_n k =>
    obtain rfl : len = 1 := by simpa [ab_len] using hlen
    simp only [ab_step] at hst
    obtain ⟨v, hv, rfl, rfl, rfl, rfl, hh⟩ := so_ld hst
    rcases hh with ⟨ht, x, rfl⟩ | ⟨ht, x, rfl⟩ | ⟨ht, x, rfl⟩
    · cases ht
    · cases ht
    · exact so_ldAn C hd hv k1
  case istore k =>
    obtain rfl : len = 2 := by simpa [ab_len] using hlen
    simp only [ab_step, ab_stI] at hst
    split at hst
    · split at hst
      · rename_i hk
        simp only [Option.some.injEq, Prod.mk.injEq] at hst
        obtain ⟨rfl, rfl, rfl, rfl⟩ := hst
        exact so_stI C hd hk k1
      · cases hst
    · cases hst
  case istore_n k =>
    obtain rfl : len = 1 := by simpa [ab_len] using hlen
    simp only [ab_step, ab_stI] at hst
    split at hst
    · split at hst
      · rename_i hk
        simp only [Option.some.injEq, Prod.mk.injEq] at hst
        obtain ⟨rfl, rfl, rfl, rfl⟩ := hst
        exact so_stIn C hd hk k1
      · cases hst
    · cases hst
  case lstore k =>
    obtain rfl : len = 2 := by simpa [ab_len] using hlen
    simp only [ab_step, ab_stL] at hst
    split at hst
    · split at hst
      · rename_i hk
        simp only [Option.some.injEq, Prod.mk.injEq] at hst
        obtain ⟨rfl, rfl, rfl, rfl⟩ := hst
        exact so_stL C hd hk k1
      · cases hst
    · cases hst
  case lstore_n k =>
    obtain rfl : len = 1 := by simpa [ab_len] using hlen
    simp only [ab_step, ab_stL] at hst
    split at hst
    · split at hst
      · rename_i hk
        simp only [Option.some.injEq, Prod.mk.injEq] at hst
        obtain ⟨rfl, rfl, rfl, rfl⟩ := hst
        exact so_stLn C hd hk k1
      · cases hst
    · cases hst
  case astore k =>
    obtain rfl : len = 2 := by simpa [ab_len] using hlen
    simp only [ab_step, ab_stA] at hst
    split at hst
    · split at hst
      · rename_i hk
        simp only [Option.some.injEq, Prod.mk.injEq] at hst
        obtain ⟨rfl, rfl, rfl, rfl⟩ := hst
        exact so_stA C hd hk k1
      · cases hst
    · cases hst
  case astore_n k =>
    obtain rfl : len = 1 := by simpa [ab_len] using hlen
    simp only [ab_step, ab_stA] at hst
    split at hst
    · split at hst
      · rename_i hk
        simp only [Option.some.injEq, Prod.mk.injEq] at hst
        obtain ⟨rfl, rfl, rfl, rfl⟩ := hst
        exact so_stAn C hd hk k1
      · cases hst
    · cases hst
  case iinc k v =>
    obtain rfl : len = 3 := by simpa [ab_len] using hlen
    simp only [ab_step] at hst
    split at hst
    · rename_i x hx
      split at hst
      · rename_i hk
        simp only [Option.some.injEq, Prod.mk.injEq] at hst
        obtain ⟨rfl, rfl, rfl, rfl⟩ := hst
        exact so_iinc C hd hx hk k1
      · cases hst
    · cases hst
  case pop =>
    obtain rfl : len = 1 := by simpa [ab_len] using hlen
    simp only [ab_step] at hst
    split at hst
    · simp only [Option.some.injEq, Prod.mk.injEq] at hst
      obtain ⟨rfl, rfl, rfl, rfl⟩ := hst
      exact so_pop C hd rfl k1
    · simp only [Option.some.injEq, Prod.mk.injEq] at hst
      obtain ⟨rfl, rfl, rfl, rfl⟩ := hst
      exact so_pop C hd rfl k1
    · cases hst
  case dup =>
    obtain rfl : len = 1 := by simpa [ab_len] using hlen
    simp only [ab_step] at hst
    split at hst
    · simp only [Option.some.injEq, Prod.mk.injEq] at hst
      obtain ⟨rfl, rfl, rfl, rfl⟩ := hst
      exact so_dup C hd rfl k1
    · simp only [Option.some.injEq, Prod.mk.injEq] at hst
      obtain ⟨rfl, rfl, rfl, rfl⟩ := hst
      exact so_dup C hd rfl k1
    · cases hst
  case dup2 =>
    obtain rfl : len = 1 := by simpa [ab_len] using hlen
    simp only [ab_step] at hst
    split at hst
    · simp only [Option.some.injEq, Prod.mk.injEq] at hst
      obtain ⟨rfl, rfl, rfl, rfl⟩ := hst
      exact so_dup2 C hd rfl rfl k1
    · cases hst
  case idiv =>
    obtain rfl : len = 1 := by simpa [ab_len] using hlen
    simp only [ab_step] at hst
    split at hst
    · split at hst
      · cases hst
      · rename_i h0
        simp only [Option.some.injEq, Prod.mk.injEq] at hst
        obtain ⟨rfl, rfl, rfl, rfl⟩ := hst
        exact so_idiv C hd h0 k1
    · cases hst
  case irem =>
    obtain rfl : len = 1 := by simpa [ab_len] using hlen
    simp only [ab_step] at hst
    split at hst
    · split at hst
      · cases hst
      · rename_i h0
        simp only [Option.some.injEq, Prod.mk.injEq] at hst
        obtain ⟨rfl, rfl, rfl, rfl⟩ := hst
        exact so_irem C hd h0 k1
    · cases hst
  case ldiv =>
    obtain rfl : len = 1 := by simpa [ab_len] using hlen
    simp only [ab_step] at hst
    split at hst
    · split at hst
      · cases hst
      · rename_i h0
        simp only [Option.some.injEq, Prod.mk.injEq] at hst
        obtain ⟨rfl, rfl, rfl, rfl⟩ := hst
        exact so_ldiv C hd h0 k1
    · cases hst
  case lrem =>
    obtain rfl : len = 1 := by simpa [ab_len] using hlen
    simp only [ab_step] at hst
    split at hst
    · split at hst
      · cases hst
      · rename_i h0
        simp only [Option.some.injEq, Prod.mk.injEq] at hst
        obtain ⟨rfl, rfl, rfl, rfl⟩ := hst
        exact so_lrem C hd h0 k1
    · cases hst
  case i2l =>
    obtain rfl : len = 1 := by simpa [ab_len] using hlen
    simp only [ab_step] at hst
    split at hst
    · simp only [Option.some.injEq, Prod.mk.injEq] at hst
      obtain ⟨rfl, rfl, rfl, rfl⟩ := hst
      exact so_i2l C hd k1
    · cases hst
  case l2i =>
    obtain rfl : len = 1 := by simpa [ab_len] using hlen
    simp only [ab_step] at hst
    split at hst
    · simp only [Option.some.injEq, Prod.mk.injEq] at hst
      obtain ⟨rfl, rfl, rfl, rfl⟩ := hst
      exact so_l2i C hd k1
    · cases hst
  case lcmp =>
    obtain rfl : len = 1 := by simpa [ab_len] using hlen
    simp only [ab_step] at hst
    split at hst
    · simp only [Option.some.injEq, Prod.mk.injEq] at hst
      obtain ⟨rfl, rfl, rfl, rfl⟩ := hst
      exact so_lcmp C hd k1
    · cases hst
  case iadd =>
    obtain rfl : len = 1 := by simpa [ab_len] using hlen
    simp only [ab_step, ab_op, ab_lop, ab_un] at hst
    split at hst
    · simp only [Option.some.injEq, Prod.mk.injEq] at hst
      obtain ⟨rfl, rfl, rfl, rfl⟩ := hst
      exact so_iadd C hd k1
    · cases hst
  case isub =>
    obtain rfl : len = 1 := by simpa [ab_len] using hlen
    simp only [ab_step, ab_op, ab_lop, ab_un] at hst
    split at hst
    · simp only [Option.some.injEq, Prod.mk.injEq] at hst
      obtain ⟨rfl, rfl, rfl, rfl⟩ := hst
      exact so_isub C hd k1
    · cases hst
  case imul =>
    obtain rfl : len = 1 := by simpa [ab_len] using hlen
    simp only [ab_step, ab_op, ab_lop, ab_un] at hst
    split at hst
    · simp only [Option.some.injEq, Prod.mk.injEq] at hst
      obtain ⟨rfl, rfl, rfl, rfl⟩ := hst
      exact so_imul C hd k1
    · cases hst
  case iand =>
    obtain rfl : len = 1 := by simpa [ab_len] using hlen
    simp only [ab_step, ab_op, ab_lop, ab_un] at hst
    split at hst
    · simp only [Option.some.injEq, Prod.mk.injEq] at hst
      obtain ⟨rfl, rfl, rfl, rfl⟩ := hst
      exact so_iand C hd k1
    · cases hst
  case ior =>
    obtain rfl : len = 1 := by simpa [ab_len] using hlen
    simp only [ab_step, ab_op, ab_lop, ab_un] at hst
    split at hst
    · simp only [Option.some.injEq, Prod.mk.injEq] at hst
      obtain ⟨rfl, rfl, rfl, rfl⟩ := hst
      exact so_ior C hd k1
    · cases hst
  case ixor =>
    obtain rfl : len = 1 := by simpa [ab_len] using hlen
    simp only [ab_step, ab_op, ab_lop, ab_un] at hst
    split at hst
    · simp only [Option.some.injEq, Prod.mk.injEq] at hst
      obtain ⟨rfl, rfl, rfl, rfl⟩ := hst
      exact so_ixor C hd k1
    · cases hst
  case ishl =>
    obtain rfl : len = 1 := by simpa [ab_len] using hlen
    simp only [ab_step, ab_op, ab_lop, ab_un] at hst
    split at hst
    · simp only [Option.some.injEq, Prod.mk.injEq] at hst
      obtain ⟨rfl, rfl, rfl, rfl⟩ := hst
      exact so_ishl C hd k1
    · cases hst
  case ishr =>
    obtain rfl : len = 1 := by simpa [ab_len] using hlen
    simp only [ab_step, ab_op, ab_lop, ab_un] at hst
    split at hst
    · simp only [Option.some.injEq, Prod.mk.injEq] at hst
      obtain ⟨rfl, rfl, rfl, rfl⟩ := hst
      exact so_ishr C hd k1
    · cases hst
  case iushr =>
    obtain rfl : len = 1 := by simpa [ab_len] using hlen
    simp only [ab_step, ab_op, ab_lop, ab_un] at hst
    split at hst
    · simp only [Option.some.injEq, Prod.mk.injEq] at hst
      obtain ⟨rfl, rfl, rfl, rfl⟩ := hst
      exact so_iushr C hd k1
    · cases hst
  case ladd =>
    obtain rfl : len = 1 := by simpa [ab_len] using hlen
    simp only [ab_step, ab_op, ab_lop, ab_un] at hst
    split at hst
    · simp only [Option.some.injEq, Prod.mk.injEq] at hst
      obtain ⟨rfl, rfl, rfl, rfl⟩ := hst
      exact so_ladd C hd k1
    · cases hst
  case lmul =>
    obtain rfl : len = 1 := by simpa [ab_len] using hlen
    simp only [ab_step, ab_op, ab_lop, ab_un] at hst
    split at hst
    · simp only [Option.some.injEq, Prod.mk.injEq] at hst
      obtain ⟨rfl, rfl, rfl, rfl⟩ := hst
      exact so_lmul C hd k1
    · cases hst
  case ineg =>
    obtain rfl : len = 1 := by simpa [ab_len] using hlen
    simp only [ab_step, ab_op, ab_lop, ab_un] at hst
    split at hst
    · simp only [Option.some.injEq, Prod.mk.injEq] at hst
      obtain ⟨rfl, rfl, rfl, rfl⟩ := hst
      exact so_ineg C hd k1
    · cases hst
  case i2b =>
    obtain rfl : len = 1 := by simpa [ab_len] using hlen
    simp only [ab_step, ab_op, ab_lop, ab_un] at hst
    split at hst
    · simp only [Option.some.injEq, Prod.mk.injEq] at hst
      obtain ⟨rfl, rfl, rfl, rfl⟩ := hst
      exact so_i2b C hd k1
    · cases hst
  case goto off =>
    obtain rfl : len = 3 := by simpa [ab_len] using hlen
    simp only [ab_step] at hst
    obtain ⟨t, ht, hh⟩ := Option.map_eq_some_iff.mp hst
    cases hh
    exact so_goto C hd ht k1
  case ifCond k off =>
    obtain rfl : len = 3 := by simpa [ab_len] using hlen
    simp only [ab_step] at hst
    split at hst
    · cases hst
    · rename_i t ht
      split at hst
      · split at hst
        · rename_i hb
          simp only [Option.some.injEq, Prod.mk.injEq] at hst
          obtain ⟨rfl, rfl, rfl, rfl⟩ := hst
          exact so_if0 C hd ht (fun _ => k1) (fun q => absurd q (by rw [hb]; decide))
        · rename_i hb
          simp only [Option.some.injEq, Prod.mk.injEq] at hst
          obtain ⟨rfl, rfl, rfl, rfl⟩ := hst
          exact so_if0 C hd ht (fun q => absurd q hb) (fun _ => k1)
      · cases hst
  case if_icmp k off =>
    obtain rfl : len = 3 := by simpa [ab_len] using hlen
    simp only [ab_step] at hst
    split at hst
    · cases hst
    · rename_i t ht
      split at hst
      · split at hst
        · rename_i hb
          simp only [Option.some.injEq, Prod.mk.injEq] at hst
          obtain ⟨rfl, rfl, rfl, rfl⟩ := hst
          exact so_if C hd ht (fun _ => k1) (fun q => absurd q (by rw [hb]; decide))
        · rename_i hb
          simp only [Option.some.injEq, Prod.mk.injEq] at hst
          obtain ⟨rfl, rfl, rfl, rfl⟩ := hst
          exact so_if C hd ht (fun q => absurd q hb) (fun _ => k1)
      · cases hst
  case ifnull off =>
    obtain rfl : len = 3 := by simpa [ab_len] using hlen
    simp only [ab_step] at hst
    split at hst
    · simp only [Option.some.injEq, Prod.mk.injEq] at hst
      obtain ⟨rfl, rfl, rfl, rfl⟩ := hst
      exact so_ifnull C hd k1
    · cases hst
  case ifnonnull off =>
    obtain rfl : len = 3 := by simpa [ab_len] using hlen
    simp only [ab_step] at hst
    split at hst
    · obtain ⟨t, ht, hh⟩ := Option.map_eq_some_iff.mp hst
      cases hh
      exact so_ifnonnull C hd ht k1
    · cases hst
  case tableswitch d lo hi offs =>
    simp only [ab_step] at hst
    split at hst
    · split at hst
      · rename_i hb
        obtain ⟨t, ht, hh⟩ := Option.map_eq_some_iff.mp hst
        cases hh
        exact so_tswOut C hd hb ht k1
      · rename_i hb
        split at hst
        · rename_i o ho
          obtain ⟨t, ht, hh⟩ := Option.map_eq_some_iff.mp hst
          cases hh
          exact so_tswIn C hd hb ho ht k1
        · cases hst
    · cases hst
  case getfield k =>
    obtain rfl : len = 3 := by simpa [ab_len] using hlen
    simp only [ab_step, ab_getf] at hst
    split at hst
    · cases hst
    · rename_i ci j ne hlk
      split at hst
      · split at hst
        · rename_i hb
          rw [Bool.and_eq_true, decide_eq_true_eq, beq_iff_eq] at hb
          split at hst
          · rename_i hr
            obtain ⟨b, hb2, hh⟩ := Option.map_eq_some_iff.mp hst
            cases hh
            exact so_getf C hd hlk hb.1 hb.2 (v := .ref b) (by unfold so_fv; rw [if_pos hr, hb2]; rfl) k1
          · rename_i hr
            simp only [Option.some.injEq, Prod.mk.injEq] at hst
            obtain ⟨rfl, rfl, rfl, rfl⟩ := hst
            exact so_getf C hd hlk hb.1 hb.2 (by unfold so_fv; rw [if_neg hr]; rfl) k1
        · cases hst
      · cases hst
  case putfield k =>
    obtain rfl : len = 3 := by simpa [ab_len] using hlen
    simp only [ab_step, ab_putf] at hst
    split at hst
    · cases hst
    · rename_i ci j ne hlk
      split at hst
      · split at hst
        · rename_i hb
          simp only [Bool.and_eq_true, decide_eq_true_eq, beq_iff_eq, Bool.not_eq_true'] at hb
          simp only [Option.some.injEq, Prod.mk.injEq] at hst
          obtain ⟨rfl, rfl, rfl, rfl⟩ := hst
          exact so_putI C hd hlk hb.1.1.1 hb.1.1.2 hb.1.2 hb.2 k1
        · cases hst
      · split at hst
        · rename_i hb
          simp only [Bool.and_eq_true, decide_eq_true_eq, beq_iff_eq] at hb
          simp only [Option.some.injEq, Prod.mk.injEq] at hst
          obtain ⟨rfl, rfl, rfl, rfl⟩ := hst
          obtain ⟨⟨⟨⟨⟨⟨⟨g1, g2⟩, g3⟩, g4⟩, g5⟩, g6⟩, g7⟩, g8⟩ := hb
          subst g2
          exact so_putP C hd g1 g3 hlk g4 g6 g7 g8 k1
        · cases hst
      · cases hst
  case iaload =>
    obtain rfl : len = 1 := by simpa [ab_len] using hlen
    simp only [ab_step, ab_aload] at hst
    split at hst
    · simp only [reduceIte, show ¬ (1:Nat) = 0 by decide, show ¬ (3:Nat) = 0 by decide, show ¬ (3:Nat) = 1 by decide, show ¬ (4:Nat) = 0 by decide, show ¬ (4:Nat) = 1 by decide, show ¬ (4:Nat) = 3 by decide, show ¬ (0:Nat) = 3 by decide, show ¬ (1:Nat) = 3 by decide, show ¬ (0:Nat) = 1 by decide] at hst
      split at hst
      · rename_i ha
        split at hst
        · rename_i hi
          simp only [Option.some.injEq, Prod.mk.injEq] at hst
          obtain ⟨rfl, rfl, rfl, rfl⟩ := hst
          subst ha
          rw [hXL] at hi
          rw [hX] at k1
          exact so_sld C hd hi k1
        · cases hst
      · split at hst
        · rename_i hb
          simp only [Bool.and_eq_true, decide_eq_true_eq, beq_iff_eq] at hb
          simp only [Option.some.injEq, Prod.mk.injEq] at hst
          obtain ⟨rfl, rfl, rfl, rfl⟩ := hst
          exact so_iald C hd hb.1.1 hb.1.2 hb.2 k1
        · cases hst
    · cases hst
  case baload =>
    obtain rfl : len = 1 := by simpa [ab_len] using hlen
    simp only [ab_step, ab_aload] at hst
    split at hst
    · simp only [reduceIte, show ¬ (1:Nat) = 0 by decide, show ¬ (3:Nat) = 0 by decide, show ¬ (3:Nat) = 1 by decide, show ¬ (4:Nat) = 0 by decide, show ¬ (4:Nat) = 1 by decide, show ¬ (4:Nat) = 3 by decide, show ¬ (0:Nat) = 3 by decide, show ¬ (1:Nat) = 3 by decide, show ¬ (0:Nat) = 1 by decide] at hst
      split at hst
      · rename_i hb
        simp only [Bool.and_eq_true, Bool.or_eq_true, decide_eq_true_eq, beq_iff_eq] at hb
        simp only [Option.some.injEq, Prod.mk.injEq] at hst
        obtain ⟨rfl, rfl, rfl, rfl⟩ := hst
        rcases hb.1.2 with g | g
        · exact so_bald C hd hb.1.1 g hb.2 k1
        · exact so_zald C hd hb.1.1 g hb.2 k1
      · cases hst
    · cases hst
  case laload =>
    obtain rfl : len = 1 := by simpa [ab_len] using hlen
    simp only [ab_step, ab_aload] at hst
    split at hst
    · simp only [reduceIte, show ¬ (1:Nat) = 0 by decide, show ¬ (3:Nat) = 0 by decide, show ¬ (3:Nat) = 1 by decide, show ¬ (4:Nat) = 0 by decide, show ¬ (4:Nat) = 1 by decide, show ¬ (4:Nat) = 3 by decide, show ¬ (0:Nat) = 3 by decide, show ¬ (1:Nat) = 3 by decide, show ¬ (0:Nat) = 1 by decide] at hst
      split at hst
      · rename_i hb
        simp only [Bool.and_eq_true, decide_eq_true_eq, beq_iff_eq] at hb
        simp only [Option.some.injEq, Prod.mk.injEq] at hst
        obtain ⟨rfl, rfl, rfl, rfl⟩ := hst
        exact so_lald C hd hb.1.1 hb.1.2 hb.2 k1
      · cases hst
    · cases hst
  case aaload =>
    obtain rfl : len = 1 := by simpa [ab_len] using hlen
    simp only [ab_step, ab_aload] at hst
    split at hst
    · simp only [reduceIte, show ¬ (1:Nat) = 0 by decide, show ¬ (3:Nat) = 0 by decide, show ¬ (3:Nat) = 1 by decide, show ¬ (4:Nat) = 0 by decide, show ¬ (4:Nat) = 1 by decide, show ¬ (4:Nat) = 3 by decide, show ¬ (0:Nat) = 3 by decide, show ¬ (1:Nat) = 3 by decide, show ¬ (0:Nat) = 1 by decide] at hst
      split at hst
      · rename_i hb
        simp only [Bool.and_eq_true, Bool.or_eq_true, decide_eq_true_eq, beq_iff_eq] at hb
        obtain ⟨b, hb2, hh⟩ := Option.map_eq_some_iff.mp hst
        cases hh
        exact so_aald C hd hb.1.1 hb.1.2 hb.2 hb2 k1
      · cases hst
    · cases hst
  case iastore =>
    obtain rfl : len = 1 := by simpa [ab_len] using hlen
    simp only [ab_step, ab_astore] at hst
    split at hst
    · simp only [reduceIte, show ¬ (1:Nat) = 0 by decide, show ¬ (3:Nat) = 0 by decide, show ¬ (3:Nat) = 1 by decide, show ¬ (4:Nat) = 0 by decide, show ¬ (4:Nat) = 1 by decide, show ¬ (4:Nat) = 3 by decide, show ¬ (0:Nat) = 3 by decide, show ¬ (1:Nat) = 3 by decide, show ¬ (0:Nat) = 1 by decide] at hst
      split at hst
      · rename_i hb
        simp only [Bool.and_eq_true, decide_eq_true_eq, beq_iff_eq] at hb
        simp only [Option.some.injEq, Prod.mk.injEq] at hst
        obtain ⟨rfl, rfl, rfl, rfl⟩ := hst
        exact so_iast C hd hb.1.1 hb.1.2 hb.2 k1
      · cases hst
    · simp only [reduceIte, show ¬ (1:Nat) = 0 by decide, show ¬ (3:Nat) = 0 by decide, show ¬ (3:Nat) = 1 by decide, show ¬ (4:Nat) = 0 by decide, show ¬ (4:Nat) = 1 by decide, show ¬ (4:Nat) = 3 by decide, show ¬ (0:Nat) = 3 by decide, show ¬ (1:Nat) = 3 by decide, show ¬ (0:Nat) = 1 by decide, reduceCtorEq] at hst
    · cases hst
  case bastore =>
    obtain rfl : len = 1 := by simpa [ab_len] using hlen
    simp only [ab_step, ab_astore] at hst
    split at hst
    · simp only [reduceIte, show ¬ (1:Nat) = 0 by decide, show ¬ (3:Nat) = 0 by decide, show ¬ (3:Nat) = 1 by decide, show ¬ (4:Nat) = 0 by decide, show ¬ (4:Nat) = 1 by decide, show ¬ (4:Nat) = 3 by decide, show ¬ (0:Nat) = 3 by decide, show ¬ (1:Nat) = 3 by decide, show ¬ (0:Nat) = 1 by decide] at hst
      split at hst
      · rename_i hb
        simp only [Bool.and_eq_true, decide_eq_true_eq] at hb
        split at hst
        · rename_i g
          simp only [Option.some.injEq, Prod.mk.injEq] at hst
          obtain ⟨rfl, rfl, rfl, rfl⟩ := hst
          exact so_bast C hd hb.1 (beq_iff_eq.mp g) hb.2 k1
        · split at hst
          · rename_i g
            simp only [Option.some.injEq, Prod.mk.injEq] at hst
            obtain ⟨rfl, rfl, rfl, rfl⟩ := hst
            exact so_zast C hd hb.1 (beq_iff_eq.mp g) hb.2 k1
          · cases hst
      · cases hst
    · simp only [reduceIte, show ¬ (1:Nat) = 0 by decide, show ¬ (3:Nat) = 0 by decide, show ¬ (3:Nat) = 1 by decide, show ¬ (4:Nat) = 0 by decide, show ¬ (4:Nat) = 1 by decide, show ¬ (4:Nat) = 3 by decide, show ¬ (0:Nat) = 3 by decide, show ¬ (1:Nat) = 3 by decide, show ¬ (0:Nat) = 1 by decide, reduceCtorEq] at hst
    · cases hst
  case lastore =>
    obtain rfl : len = 1 := by simpa [ab_len] using hlen
    simp only [ab_step, ab_astore] at hst
    split at hst
    · simp only [reduceIte, show ¬ (1:Nat) = 0 by decide, show ¬ (3:Nat) = 0 by decide, show ¬ (3:Nat) = 1 by decide, show ¬ (4:Nat) = 0 by decide, show ¬ (4:Nat) = 1 by decide, show ¬ (4:Nat) = 3 by decide, show ¬ (0:Nat) = 3 by decide, show ¬ (1:Nat) = 3 by decide, show ¬ (0:Nat) = 1 by decide, reduceCtorEq] at hst
    · simp only [reduceIte, show ¬ (1:Nat) = 0 by decide, show ¬ (3:Nat) = 0 by decide, show ¬ (3:Nat) = 1 by decide, show ¬ (4:Nat) = 0 by decide, show ¬ (4:Nat) = 1 by decide, show ¬ (4:Nat) = 3 by decide, show ¬ (0:Nat) = 3 by decide, show ¬ (1:Nat) = 3 by decide, show ¬ (0:Nat) = 1 by decide] at hst
      split at hst
      · rename_i hb
        simp only [Bool.and_eq_true, decide_eq_true_eq, beq_iff_eq] at hb
        simp only [Option.some.injEq, Prod.mk.injEq] at hst
        obtain ⟨rfl, rfl, rfl, rfl⟩ := hst
        exact so_last C hd hb.1.1 hb.1.2 hb.2 k1
      · cases hst
    · cases hst
  case arraylength =>
    obtain rfl : len = 1 := by simpa [ab_len] using hlen
    simp only [ab_step, ab_alen] at hst
    split at hst
    · split at hst
      · rename_i ha
        simp only [Option.some.injEq, Prod.mk.injEq] at hst
        obtain ⟨rfl, rfl, rfl, rfl⟩ := hst
        subst ha
        rw [hXL] at k1
        exact so_slen C hd k1
      · split at hst
        · rename_i hb
          simp only [Bool.and_eq_true, decide_eq_true_eq] at hb
          simp only [Option.some.injEq, Prod.mk.injEq] at hst
          obtain ⟨rfl, rfl, rfl, rfl⟩ := hst
          exact so_alen C hd hb.1.1 hb.1.2 hb.2 k1
        · cases hst
    · cases hst
  case newarray aty =>
    obtain rfl : len = 2 := by simpa [ab_len] using hlen
    have hA := C.2.2.2.2.2.2.2.2.1.1
    have go : ∀ (t : Nat) (ty : FieldType) (vd : Value), newarray.typeOf aty = ty → defaultValue ty = vd → componentBytes ty ≤ 8 → Cond.arrayClass ty ∈ lw_tbl → (∀ C, ty ≠ .object C) → (so_tys tA)[t]? = some (tA t, ty) →
        ((t < 3 ∧ vd = .int 0) ∨ (t = 3 ∧ vd = .long 0)) → ab_newa (100 + t) L S h (pc + 2) = some (pc', L', S', h') → so_G p l e R s m args below meth c Q D tA (so_fa n0 b0 sa) HL y c0 z0 pc L S h := by
      intro t ty vd e1 e2 e3 e4 e5 e6 e7 hst
      unfold ab_newa at hst
      split at hst
      · split at hst
        · rename_i n r hb
          simp only [Bool.and_eq_true, decide_eq_true_eq] at hb
          simp only [Option.some.injEq, Prod.mk.injEq] at hst
          obtain ⟨rfl, rfl, rfl, rfl⟩ := hst
          obtain ⟨⟨⟨g1, g2⟩, g3⟩, g4⟩ := hb
          have hz := fun (H : Heap) (locs : List Loc) (hR : so_R D tA (so_fa n0 b0 sa) HL h H locs) => hR.2.2.2.2 (ab_N h) (Nat.le_refl _)
          intro ls H locs cells slots hl hR hc hs
          obtain ⟨z1, z2⟩ := hz H locs hR
          rcases e7 with ⟨ht, hv⟩ | ⟨ht, hv⟩
          · refine so_newa (t := 100 + t) (ent0 := .inl (fun _ => 0)) (vd := vd) C e1 e2 e3 e4 ?_ ?_ (fun cA => by subst hv; rfl) hd g1 rfl g2 g3 g4 (by rw [so_newC] at hC; omega) (by rw [so_newZ] at hZ; omega) k1 ls H locs cells slots hl hR hc hs
            · rw [show 100 + t - 100 = t by omega]
              exact so_arrName hA e6 e5
            · rw [so_ent_a (t := 100 + t) (by rw [so_newK]) (by omega) (by omega), so_newK, so_newI, z1]
          · subst ht
            refine so_newa (t := 103) (ent0 := .inr (.inl (fun _ => 0))) (vd := vd) C e1 e2 e3 e4 ?_ ?_ (fun cA => by subst hv; rfl) hd g1 rfl g2 g3 g4 (by rw [so_newC] at hC; omega) (by rw [so_newZ] at hZ; omega) k1 ls H locs cells slots hl hR hc hs
            · exact so_arrName hA e6 e5
            · rw [so_ent_l (by rw [so_newK]), so_newK, so_newG, z2]
        · cases hst
      · cases hst
    cases aty <;> simp only [ab_step, ab_op, ab_lop, ab_un, reduceCtorEq] at hst
    case boolean => exact go 2 .boolean (.int 0) rfl rfl (by decide) (so_libw 12 rfl) (fun C q => by cases q) rfl (Or.inl ⟨by omega, rfl⟩) hst
    case byte => exact go 1 .byte (.int 0) rfl rfl (by decide) (so_libw 11 rfl) (fun C q => by cases q) rfl (Or.inl ⟨by omega, rfl⟩) hst
    case int => exact go 0 .int (.int 0) rfl rfl (by decide) (so_libw 10 rfl) (fun C q => by cases q) rfl (Or.inl ⟨by omega, rfl⟩) hst
    case long => exact go 3 .long (.long 0) rfl rfl (by decide) (so_libw 13 rfl) (fun C q => by cases q) rfl (Or.inr ⟨rfl, rfl⟩) hst
  case multianewarray k d =>
    obtain rfl : len = 4 := by simpa [ab_len] using hlen
    by_cases h2 : d = 2
    · subst h2
      simp only [ab_step] at hst
      split at hst
      · rename_i hk
        unfold ab_two at hst
        split at hst
        · split at hst
          · rename_i hb
            simp only [Bool.and_eq_true, decide_eq_true_eq] at hb
            simp only [Option.some.injEq, Prod.mk.injEq] at hst
            obtain ⟨rfl, rfl, rfl, rfl⟩ := hst
            obtain ⟨⟨⟨⟨⟨g1, g2⟩, g3⟩, g4⟩, g5⟩, g6⟩ := hb
            exact so_two C hd hk g1 g2 g3 g4 g5 g6 hC hZ k1
          · cases hst
        · cases hst
      · cases hst
    · by_cases h3 : d = 3
      · subst h3
        simp only [ab_step] at hst
        split at hst
        · rename_i hk
          unfold ab_three at hst
          split at hst
          · split at hst
            · rename_i hb
              simp only [Bool.and_eq_true, decide_eq_true_eq] at hb
              simp only [Option.some.injEq, Prod.mk.injEq] at hst
              obtain ⟨rfl, rfl, rfl, rfl⟩ := hst
              obtain ⟨⟨⟨⟨⟨⟨⟨g1, g2⟩, g3⟩, g4⟩, g5⟩, g6⟩, g7⟩, g8⟩ := hb
              exact so_three C hd hk g1 g2 g3 g4 g5 g6 g7 g8 hC hZ k1
            · cases hst
          · cases hst
        · cases hst
      · exfalso
        unfold ab_step at hst
        split at hst <;> first | (simp_all; done) | (simp [ab_op, ab_lop, ab_un] at hst)
  case new k =>
    obtain rfl : len = 3 := by simpa [ab_len] using hlen
    simp only [ab_step] at hst
    split at hst
    · rename_i ci hk
      split at hst
      · rename_i hb
        simp only [Bool.and_eq_true, decide_eq_true_eq] at hb
        simp only [Option.some.injEq, Prod.mk.injEq] at hst
        obtain ⟨rfl, rfl, rfl, rfl⟩ := hst
        exact so_new C hd hk hb.2 hb.1.1 hb.1.2 (by rw [so_newC] at hC; omega) (by rw [so_newZ] at hZ; omega) k1
      · cases hst
    · cases hst
  case invokespecial k =>
    obtain rfl : len = 3 := by simpa [ab_len] using hlen
    simp only [ab_step] at hst
    split at hst
    · rename_i y' hk
      split at hst
      · split at hst
        · rename_i hb
          simp only [Option.some.injEq, Prod.mk.injEq] at hst
          obtain ⟨rfl, rfl, rfl, rfl⟩ := hst
          exact so_oini C hF hLo hd hk hb k1
        · cases hst
      · cases hst
    · cases hst
  case invokestatic k =>
    obtain rfl : len = 3 := by simpa [ab_len] using hlen
    simp only [ab_step] at hst
    split at hst
    · rename_i kd y' hk
      split at hst
      · unfold ab_lib at hst
        split at hst
        · split at hst
          · split at hst
            · rename_i hb
              simp only [Option.some.injEq, Prod.mk.injEq] at hst
              obtain ⟨rfl, rfl, rfl, rfl⟩ := hst
              exact so_max C hF hLo hC hZ hd hk hb k1
            · cases hst
          · cases hst
        · split at hst
          · split at hst
            · rename_i hb
              simp only [Option.some.injEq, Prod.mk.injEq] at hst
              obtain ⟨rfl, rfl, rfl, rfl⟩ := hst
              exact so_min C hF hLo hC hZ hd hk hb k1
            · cases hst
          · cases hst
        · split at hst
          · split at hst
            · rename_i hb
              simp only [Bool.and_eq_true, decide_eq_true_eq, beq_iff_eq] at hb
              simp only [Option.some.injEq, Prod.mk.injEq] at hst
              obtain ⟨rfl, rfl, rfl, rfl⟩ := hst
              obtain ⟨⟨⟨⟨⟨⟨⟨⟨⟨g1, g2⟩, g3⟩, g4⟩, g5⟩, g6⟩, g7⟩, g8⟩, g9⟩, g10⟩ := hb
              exact so_copy C hF hLo hd hk g1 g2 g3 g4 g5 g6 g7 g8 g9 g10 k1
            · cases hst
          · cases hst
        · rename_i hlt; omega
        · rename_i hlt; omega
        · cases hst
      · cases hst
    · cases hst
  case invokevirtual k =>
    obtain rfl : len = 3 := by simpa [ab_len] using hlen
    simp only [ab_step] at hst
    split at hst
    · rename_i kd y' hk
      split at hst
      · unfold ab_lib at hst
        split at hst
        · rename_i hlt; omega
        · rename_i hlt; omega
        · rename_i hlt; omega
        · split at hst
          · split at hst
            · rename_i hb
              simp only [Option.some.injEq, Prod.mk.injEq] at hst
              obtain ⟨rfl, rfl, rfl, rfl⟩ := hst
              exact so_slenS C hSS hF hLo hC hZ hd hk hb k1
            · cases hst
          · cases hst
        · split at hst
          · split at hst
            · rename_i hb
              simp only [Option.some.injEq, Prod.mk.injEq] at hst
              obtain ⟨rfl, rfl, rfl, rfl⟩ := hst
              exact so_chat C hSS hF hLo hC hZ hd hk hb k1
            · cases hst
          · cases hst
        · cases hst
      · cases hst
    · cases hst
  all_goals (exact absurd hst (by simp [ab_step, ab_op, ab_lop, ab_un]))
end SOUND

