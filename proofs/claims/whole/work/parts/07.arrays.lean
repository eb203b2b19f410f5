section SOUND
variable {p : Program} {l : Launch} {e : Env} {R : Room} {s : State} {m : MethodId} {args : Array Value} {below : List Frame} {meth : Method} {c : Code} {Q : State → Prop}
variable {D : va_G} {tA : Nat → ClassId} {n0 b0 : Nat} {sa : Nat → Nat} {HL : Heap} {XL : Nat} {xs : Nat → Int32} {St : State → Prop} {y : Nat} {c0 z0 : Nat}
variable {pc len : Nat} {L : ab_L} {S r : ab_S} {h : ab_H}

theorem so_inb {i : Int32} {n : Nat} (h1 : ab_in i n = true) : vp_in i n := by
  unfold ab_in at h1
  rw [Bool.and_eq_true, decide_eq_true_eq, decide_eq_true_eq] at h1
  unfold vp_in
  rintro (q | q)
  · exact absurd h1.1 (Int32.not_le.mpr q)
  · omega
theorem so_ent_a {fa : Nat → Nat} {a t : Nat} (hK : (ab_K h a).1 = t) (h1 : 13 ≤ t) (h2 : t < 103) : so_ent fa tA h a = .inl (tA (t - 100), (ab_K h a).2, .inl (ab_I h a)) := by
  subst hK
  unfold so_ent
  rw [if_neg (by omega), if_pos h2]
theorem so_ent_l {fa : Nat → Nat} {a : Nat} (hK : (ab_K h a).1 = 103) : so_ent fa tA h a = .inl (tA 3, (ab_K h a).2, .inr (.inl (ab_G h a))) := by
  unfold so_ent
  rw [if_neg (by omega), if_neg (by omega), if_pos hK]
theorem so_ent_q {fa : Nat → Nat} {a t : Nat} (hK : (ab_K h a).1 = t) (h1 : 104 ≤ t) : so_ent fa tA h a = .inl (tA (t - 100), (ab_K h a).2, .inr (.inr (.inr (.inr (fun i => (ab_P h a i).map fa))))) := by
  subst hK
  unfold so_ent
  rw [if_neg (by omega), if_neg (by omega), if_neg (by omega)]
theorem so_iald (C : so_Cx p l s m args meth c D tA n0 b0 sa HL XL xs St y c0) (hd : decode (ab_b y) pc = .ok (.iaload, 1)) {a : Nat} {i : Int32} (ha : a < ab_N h) (hK : (ab_K h a).1 = 100) (hi : ab_in i (ab_K h a).2 = true) (k1 : so_G p l e R s m args below meth c Q D tA (so_fa n0 b0 sa) HL y c0 z0 (pc + 1) L (.int (ab_I h a i.toNatClampNeg) :: S) h) : so_G p l e R s m args below meth c Q D tA (so_fa n0 b0 sa) HL y c0 z0 pc L (.int i :: .ref a :: S) h := by
  intro ls H locs cells slots hl hR hc hs
  have he := so_ws_at (fa := so_fa n0 b0 sa) (tA := tA) ha
  rw [so_ent_a hK (by omega) (by omega)] at he
  exact va_iald C.1 C.2.1 C.2.2.2.2.2.2.2.2.1.1 hR.1 a 0 he rfl (so_inb hi) hd (k1 ls H locs cells slots hl hR hc hs)
theorem so_bald (C : so_Cx p l s m args meth c D tA n0 b0 sa HL XL xs St y c0) (hd : decode (ab_b y) pc = .ok (.baload, 1)) {a : Nat} {i : Int32} (ha : a < ab_N h) (hK : (ab_K h a).1 = 101) (hi : ab_in i (ab_K h a).2 = true) (k1 : so_G p l e R s m args below meth c Q D tA (so_fa n0 b0 sa) HL y c0 z0 (pc + 1) L (.int (ab_I h a i.toNatClampNeg) :: S) h) : so_G p l e R s m args below meth c Q D tA (so_fa n0 b0 sa) HL y c0 z0 pc L (.int i :: .ref a :: S) h := by
  intro ls H locs cells slots hl hR hc hs
  have he := so_ws_at (fa := so_fa n0 b0 sa) (tA := tA) ha
  rw [so_ent_a hK (by omega) (by omega)] at he
  exact va_bald C.1 C.2.1 C.2.2.2.2.2.2.2.2.1.1 hR.1 a 1 he rfl (so_inb hi) hd (k1 ls H locs cells slots hl hR hc hs)
theorem so_zald (C : so_Cx p l s m args meth c D tA n0 b0 sa HL XL xs St y c0) (hd : decode (ab_b y) pc = .ok (.baload, 1)) {a : Nat} {i : Int32} (ha : a < ab_N h) (hK : (ab_K h a).1 = 102) (hi : ab_in i (ab_K h a).2 = true) (k1 : so_G p l e R s m args below meth c Q D tA (so_fa n0 b0 sa) HL y c0 z0 (pc + 1) L (.int (ab_I h a i.toNatClampNeg) :: S) h) : so_G p l e R s m args below meth c Q D tA (so_fa n0 b0 sa) HL y c0 z0 pc L (.int i :: .ref a :: S) h := by
  intro ls H locs cells slots hl hR hc hs
  have he := so_ws_at (fa := so_fa n0 b0 sa) (tA := tA) ha
  rw [so_ent_a hK (by omega) (by omega)] at he
  exact va_zald C.1 C.2.1 C.2.2.2.2.2.2.2.2.1.1 hR.1 a 2 he rfl (so_inb hi) hd (k1 ls H locs cells slots hl hR hc hs)
theorem so_lald (C : so_Cx p l s m args meth c D tA n0 b0 sa HL XL xs St y c0) (hd : decode (ab_b y) pc = .ok (.laload, 1)) {a : Nat} {i : Int32} (ha : a < ab_N h) (hK : (ab_K h a).1 = 103) (hi : ab_in i (ab_K h a).2 = true) (k1 : so_G p l e R s m args below meth c Q D tA (so_fa n0 b0 sa) HL y c0 z0 (pc + 1) L (.long (ab_G h a i.toNatClampNeg) :: S) h) : so_G p l e R s m args below meth c Q D tA (so_fa n0 b0 sa) HL y c0 z0 pc L (.int i :: .ref a :: S) h := by
  intro ls H locs cells slots hl hR hc hs
  have he := so_ws_at (fa := so_fa n0 b0 sa) (tA := tA) ha
  rw [so_ent_l hK] at he
  exact va_lald C.1 C.2.1 C.2.2.2.2.2.2.2.2.1.1 hR.1 a 3 he rfl (so_inb hi) hd (k1 ls H locs cells slots hl hR hc hs)
theorem so_scr {b : Nat} (hb : b = ab_scr) : so_fa n0 b0 sa b = b0 := by
  subst hb
  unfold so_fa
  rw [if_neg (by unfold ab_scr; omega), if_pos (by unfold ab_scr ab_str; omega)]
theorem so_sld (C : so_Cx p l s m args meth c D tA n0 b0 sa HL XL xs St y c0) (hd : decode (ab_b y) pc = .ok (.iaload, 1)) {i : Int32} (hi : ab_in i XL = true) (k1 : so_G p l e R s m args below meth c Q D tA (so_fa n0 b0 sa) HL y c0 z0 (pc + 1) L (.int (xs i.toNatClampNeg) :: S) h) : so_G p l e R s m args below meth c Q D tA (so_fa n0 b0 sa) HL y c0 z0 pc L (.int i :: .ref ab_scr :: S) h := by
  intro ls H locs cells slots hl hR hc hs
  obtain ⟨A1, A2, A3, A4, A5⟩ := C.2.2.2.2.2.2.2.2.1
  exact va_sld C.1 C.2.1 A3 A4 (Nat.not_le.mpr A4) hR.2.1 (so_inb hi) hd (k1 ls H locs cells slots hl hR hc hs)
theorem so_slen (C : so_Cx p l s m args meth c D tA n0 b0 sa HL XL xs St y c0) (hd : decode (ab_b y) pc = .ok (.arraylength, 1)) (k1 : so_G p l e R s m args below meth c Q D tA (so_fa n0 b0 sa) HL y c0 z0 (pc + 1) L (.int (Int32.ofNat XL) :: S) h) : so_G p l e R s m args below meth c Q D tA (so_fa n0 b0 sa) HL y c0 z0 pc L (.ref ab_scr :: S) h := by
  intro ls H locs cells slots hl hR hc hs
  obtain ⟨A1, A2, A3, A4, A5⟩ := C.2.2.2.2.2.2.2.2.1
  exact va_slen C.1 C.2.1 A3 A4 (Nat.not_le.mpr A4) hR.2.1 hd (k1 ls H locs cells slots hl hR hc hs)
theorem so_alen (C : so_Cx p l s m args meth c D tA n0 b0 sa HL XL xs St y c0) (hd : decode (ab_b y) pc = .ok (.arraylength, 1)) {a : Nat} (ha : a < ab_N h) (h1 : 100 ≤ (ab_K h a).1) (h2 : (ab_K h a).1 < 106) (k1 : so_G p l e R s m args below meth c Q D tA (so_fa n0 b0 sa) HL y c0 z0 (pc + 1) L (.int (Int32.ofNat (ab_K h a).2) :: S) h) : so_G p l e R s m args below meth c Q D tA (so_fa n0 b0 sa) HL y c0 z0 pc L (.ref a :: S) h := by
  intro ls H locs cells slots hl hR hc hs
  have he := so_ws_at (fa := so_fa n0 b0 sa) (tA := tA) ha
  have kk := k1 ls H locs cells slots hl hR hc hs
  have hA := C.2.2.2.2.2.2.2.2.1.1
  obtain ⟨t, ht⟩ : ∃ t, (ab_K h a).1 = t := ⟨_, rfl⟩
  rw [ht] at h1 h2
  rcases (show t = 100 ∨ t = 101 ∨ t = 102 ∨ t = 103 ∨ t = 104 ∨ t = 105 by omega) with rfl | rfl | rfl | rfl | rfl | rfl
  · rw [so_ent_a ht (by omega) (by omega)] at he
    exact va_alen C.1 C.2.1 hA hR.1 a 0 he (ty := .int) rfl rfl hd kk
  · rw [so_ent_a ht (by omega) (by omega)] at he
    exact va_alen C.1 C.2.1 hA hR.1 a 1 he (ty := .byte) rfl rfl hd kk
  · rw [so_ent_a ht (by omega) (by omega)] at he
    exact va_alen C.1 C.2.1 hA hR.1 a 2 he (ty := .boolean) rfl rfl hd kk
  · rw [so_ent_l ht] at he
    exact va_alen C.1 C.2.1 hA hR.1 a 3 he (ty := .long) rfl rfl hd kk
  · rw [so_ent_q ht (by omega)] at he
    exact va_alen C.1 C.2.1 hA hR.1 a 4 he (ty := .array .int) rfl rfl hd kk
  · rw [so_ent_q ht (by omega)] at he
    exact va_alen C.1 C.2.1 hA hR.1 a 5 he (ty := .array (.array .int)) rfl rfl hd kk
theorem so_aald (C : so_Cx p l s m args meth c D tA n0 b0 sa HL XL xs St y c0) (hd : decode (ab_b y) pc = .ok (.aaload, 1)) {a b : Nat} {i : Int32} (ha : a < ab_N h) (hK : (ab_K h a).1 = 104 ∨ (ab_K h a).1 = 105) (hi : ab_in i (ab_K h a).2 = true) (hb : ab_P h a i.toNatClampNeg = some b) (k1 : so_G p l e R s m args below meth c Q D tA (so_fa n0 b0 sa) HL y c0 z0 (pc + 1) L (.ref b :: S) h) : so_G p l e R s m args below meth c Q D tA (so_fa n0 b0 sa) HL y c0 z0 pc L (.int i :: .ref a :: S) h := by
  intro ls H locs cells slots hl hR hc hs
  have he := so_ws_at (fa := so_fa n0 b0 sa) (tA := tA) ha
  have kk := k1 ls H locs cells slots hl hR hc hs
  have hA := C.2.2.2.2.2.2.2.2.1.1
  have hin := so_inb hi
  have hlt : i.toNatClampNeg < (ab_K h a).2 := Nat.not_le.mp fun q => hin (Or.inr q)
  have hv : va_rf ((ab_P h a i.toNatClampNeg).map (so_fa n0 b0 sa)) = .ref (so_fa n0 b0 sa b) := by rw [hb]; rfl
  have fin : ∀ (t0 : Nat) (ty : FieldType), ty.isReference = true → (so_tys tA)[t0]? = some (tA t0, ty) → so_ent (so_fa n0 b0 sa) tA h a = .inl (tA t0, (ab_K h a).2, .inr (.inr (.inr (.inr (fun i => (ab_P h a i).map (so_fa n0 b0 sa)))))) → W p l e R s m args below meth c H locs cells slots Q (F0 m pc ls (so_S (so_fa n0 b0 sa) (.int i :: .ref a :: S))) := by
    intro t0 ty hty ht hent
    rw [hent] at he
    have hA1 : ArrOfT s (tA t0) ty := (hA.2 t0 _ ht).1
    have hcell : H[so_fa n0 b0 sa a]? = some (arrV (tA t0) (ab_K h a).2 (fun j => va_rf ((ab_P h a j).map (so_fa n0 b0 sa)))) := hR.1 a _ he
    exact W.aald (v := .ref (so_fa n0 b0 sa b)) (ty := ty) C.1 C.2.1 hcell (hA1 (ab_K h a).2 (fun j => va_rf ((ab_P h a j).map (so_fa n0 b0 sa)))) hty (fun q => by cases q) (by rw [arrV_size]; exact hin) (by rw [arrV_read _ _ hlt, hv]) rfl rfl hd kk
  rcases hK with hK | hK
  · exact fin 4 (.array .int) rfl rfl (so_ent_q hK (by omega))
  · exact fin 5 (.array (.array .int)) rfl rfl (so_ent_q hK (by omega))
theorem so_up1 {a j : Nat} {x : Int32} : ab_I (ab_wI h a j x) a = upd (ab_I h a) j x := if_pos rfl
theorem so_iast (C : so_Cx p l s m args meth c D tA n0 b0 sa HL XL xs St y c0) (hd : decode (ab_b y) pc = .ok (.iastore, 1)) {a : Nat} {i x : Int32} (ha : a < ab_N h) (hK : (ab_K h a).1 = 100) (hi : ab_in i (ab_K h a).2 = true) (k1 : so_G p l e R s m args below meth c Q D tA (so_fa n0 b0 sa) HL y c0 z0 (pc + 1) L S (ab_wI h a i.toNatClampNeg x)) : so_G p l e R s m args below meth c Q D tA (so_fa n0 b0 sa) HL y c0 z0 pc L (.int x :: .int i :: .ref a :: S) h := by
  intro ls H locs cells slots hl hR hc hs
  have hfa := C.2.2.2.2.2.2.2.2.2.1
  have he := so_ws_at (fa := so_fa n0 b0 sa) (tA := tA) ha
  rw [so_ent_a hK (by omega) (by omega)] at he
  have hD : va_D (so_A HL) (so_ws (so_fa n0 b0 sa) tA h) := so_D (b0 := b0) (sa := sa) (by rw [hfa]) hR.2.2.2.1
  refine va_iast C.1 C.2.1 C.2.2.2.2.2.2.2.2.1.1 hR.1 hD hR.2.1 a 0 he rfl (so_inb hi) hd (fun H1 locs1 hP _ hS => ?_)
  have hE : so_ent (so_fa n0 b0 sa) tA (ab_wI h a i.toNatClampNeg x) a = .inl (tA (100 - 100), (ab_K h a).2, .inl (upd (ab_I h a) i.toNatClampNeg x)) := (so_ent_a (h := ab_wI h a i.toNatClampNeg x) hK (by omega) (by omega)).trans (by rw [so_up1]; rfl)
  rw [← hE] at hP
  exact k1 ls H1 locs1 cells slots hl (so_R_wI hR ha hP hS) hc hs
theorem so_bast (C : so_Cx p l s m args meth c D tA n0 b0 sa HL XL xs St y c0) (hd : decode (ab_b y) pc = .ok (.bastore, 1)) {a : Nat} {i x : Int32} (ha : a < ab_N h) (hK : (ab_K h a).1 = 101) (hi : ab_in i (ab_K h a).2 = true) (k1 : so_G p l e R s m args below meth c Q D tA (so_fa n0 b0 sa) HL y c0 z0 (pc + 1) L S (ab_wI h a i.toNatClampNeg (vp_nar .byte x))) : so_G p l e R s m args below meth c Q D tA (so_fa n0 b0 sa) HL y c0 z0 pc L (.int x :: .int i :: .ref a :: S) h := by
  intro ls H locs cells slots hl hR hc hs
  have hfa := C.2.2.2.2.2.2.2.2.2.1
  have he := so_ws_at (fa := so_fa n0 b0 sa) (tA := tA) ha
  rw [so_ent_a hK (by omega) (by omega)] at he
  have hD : va_D (so_A HL) (so_ws (so_fa n0 b0 sa) tA h) := so_D (b0 := b0) (sa := sa) (by rw [hfa]) hR.2.2.2.1
  refine va_bast C.1 C.2.1 C.2.2.2.2.2.2.2.2.1.1 hR.1 hD hR.2.1 a 1 he rfl (so_inb hi) hd (fun H1 locs1 hP _ hS => ?_)
  have hE : so_ent (so_fa n0 b0 sa) tA (ab_wI h a i.toNatClampNeg (vp_nar .byte x)) a = .inl (tA (101 - 100), (ab_K h a).2, .inl (upd (ab_I h a) i.toNatClampNeg (vp_nar .byte x))) := (so_ent_a (h := ab_wI h a i.toNatClampNeg (vp_nar .byte x)) hK (by omega) (by omega)).trans (by rw [so_up1]; rfl)
  rw [← hE] at hP
  exact k1 ls H1 locs1 cells slots hl (so_R_wI hR ha hP hS) hc hs
theorem so_zast (C : so_Cx p l s m args meth c D tA n0 b0 sa HL XL xs St y c0) (hd : decode (ab_b y) pc = .ok (.bastore, 1)) {a : Nat} {i x : Int32} (ha : a < ab_N h) (hK : (ab_K h a).1 = 102) (hi : ab_in i (ab_K h a).2 = true) (k1 : so_G p l e R s m args below meth c Q D tA (so_fa n0 b0 sa) HL y c0 z0 (pc + 1) L S (ab_wI h a i.toNatClampNeg (vp_nar .boolean x))) : so_G p l e R s m args below meth c Q D tA (so_fa n0 b0 sa) HL y c0 z0 pc L (.int x :: .int i :: .ref a :: S) h := by
  intro ls H locs cells slots hl hR hc hs
  have hfa := C.2.2.2.2.2.2.2.2.2.1
  have he := so_ws_at (fa := so_fa n0 b0 sa) (tA := tA) ha
  rw [so_ent_a hK (by omega) (by omega)] at he
  have hD : va_D (so_A HL) (so_ws (so_fa n0 b0 sa) tA h) := so_D (b0 := b0) (sa := sa) (by rw [hfa]) hR.2.2.2.1
  refine va_zast C.1 C.2.1 C.2.2.2.2.2.2.2.2.1.1 hR.1 hD hR.2.1 a 2 he rfl (so_inb hi) hd (fun H1 locs1 hP _ hS => ?_)
  have hE : so_ent (so_fa n0 b0 sa) tA (ab_wI h a i.toNatClampNeg (vp_nar .boolean x)) a = .inl (tA (102 - 100), (ab_K h a).2, .inl (upd (ab_I h a) i.toNatClampNeg (vp_nar .boolean x))) := (so_ent_a (h := ab_wI h a i.toNatClampNeg (vp_nar .boolean x)) hK (by omega) (by omega)).trans (by rw [so_up1]; rfl)
  rw [← hE] at hP
  exact k1 ls H1 locs1 cells slots hl (so_R_wI hR ha hP hS) hc hs
theorem so_ent_wG {fa : Nat → Nat} {a j : Nat} {x : Int64} : ∀ b, b ≠ a → so_ent fa tA (ab_wG h a j x) b = so_ent fa tA h b := by
  intro b hb
  have e : ab_G (ab_wG h a j x) b = ab_G h b := if_neg hb
  unfold so_ent
  rw [e]
  rfl
theorem so_last (C : so_Cx p l s m args meth c D tA n0 b0 sa HL XL xs St y c0) (hd : decode (ab_b y) pc = .ok (.lastore, 1)) {a : Nat} {i : Int32} {x : Int64} (ha : a < ab_N h) (hK : (ab_K h a).1 = 103) (hi : ab_in i (ab_K h a).2 = true) (k1 : so_G p l e R s m args below meth c Q D tA (so_fa n0 b0 sa) HL y c0 z0 (pc + 1) L S (ab_wG h a i.toNatClampNeg x)) : so_G p l e R s m args below meth c Q D tA (so_fa n0 b0 sa) HL y c0 z0 pc L (.long x :: .int i :: .ref a :: S) h := by
  intro ls H locs cells slots hl hR hc hs
  have hfa := C.2.2.2.2.2.2.2.2.2.1
  have he := so_ws_at (fa := so_fa n0 b0 sa) (tA := tA) ha
  rw [so_ent_l hK] at he
  have hD : va_D (so_A HL) (so_ws (so_fa n0 b0 sa) tA h) := so_D (b0 := b0) (sa := sa) (by rw [hfa]) hR.2.2.2.1
  refine va_last C.1 C.2.1 C.2.2.2.2.2.2.2.2.1.1 hR.1 hD hR.2.1 a 3 he rfl (so_inb hi) hd (fun H1 locs1 hP _ hS => ?_)
  have eG : ab_G (ab_wG h a i.toNatClampNeg x) a = vp_updL (ab_G h a) i.toNatClampNeg x := if_pos rfl
  have hE : so_ent (so_fa n0 b0 sa) tA (ab_wG h a i.toNatClampNeg x) a = .inl (tA 3, (ab_K h a).2, .inr (.inl (vp_updL (ab_G h a) i.toNatClampNeg x))) := (so_ent_l (h := ab_wG h a i.toNatClampNeg x) hK).trans (by rw [eG]; rfl)
  rw [← hE] at hP
  rw [so_ws_set (h := h) (h' := ab_wG h a i.toNatClampNeg x) rfl ha so_ent_wG] at hP
  obtain ⟨R1, R2, R3, R4, R5⟩ := hR
  refine k1 ls H1 locs1 cells slots hl ⟨hP, hS, R3, R4, fun b hb => ?_⟩ hc hs
  have hba : b ≠ a := by
    have : ab_N (ab_wG h a i.toNatClampNeg x) = ab_N h := rfl
    omega
  have e : ab_G (ab_wG h a i.toNatClampNeg x) b = ab_G h b := if_neg hba
  rw [e]
  exact R5 b hb
end SOUND

