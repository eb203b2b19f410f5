section SOUND
variable {p : Program} {l : Launch} {e : Env} {R : Room} {s : State} {m : MethodId} {args : Array Value} {below : List Frame} {meth : Method} {c : Code} {Q : State → Prop}
variable {D : va_G} {tA : Nat → ClassId} {n0 b0 : Nat} {sa : Nat → Nat} {HL : Heap} {XL : Nat} {xs : Nat → Int32} {St : State → Prop} {y : Nat} {c0 z0 : Nat}
variable {pc len : Nat} {L : ab_L} {S r : ab_S} {h : ab_H}

theorem so_ld {t : Nat} {pc' : Nat} {L' : ab_L} {S' : ab_S} {h' : ab_H} {k q : Nat} (hst : ab_ld L S h k t q = some (pc', L', S', h')) : ∃ v, ab_get L k = some v ∧ pc' = q ∧ L' = L ∧ S' = v :: S ∧ h' = h ∧ ((t = 0 ∧ ∃ x, v = .int x) ∨ (t = 1 ∧ ∃ x, v = .long x) ∨ (t = 2 ∧ ∃ x, v = .ref x)) := by
  unfold ab_ld at hst
  obtain ⟨v, hv, hh⟩ := Option.map_eq_some_iff.mp hst
  cases hh
  unfold ab_load at hv
  split at hv
  · rename_i x hx
    split at hv
    · rename_i ht; cases hv; exact ⟨_, hx, rfl, rfl, rfl, rfl, Or.inl ⟨ht, _, rfl⟩⟩
    · cases hv
  · rename_i x hx
    split at hv
    · rename_i ht; cases hv; exact ⟨_, hx, rfl, rfl, rfl, rfl, Or.inr (Or.inl ⟨ht, _, rfl⟩)⟩
    · cases hv
  · rename_i x hx
    split at hv
    · rename_i ht; cases hv; exact ⟨_, hx, rfl, rfl, rfl, rfl, Or.inr (Or.inr ⟨ht, _, rfl⟩)⟩
    · cases hv
  · cases hv
theorem so_chk : (List.range 8).all (fun t => (List.range (ta_tx t).length).all (fun j => decide (((so_sb t j &&& 255).toUInt32 % 65536).toInt32 = so_sb t j)) && decide ((ta_tx t).length < 100)) = true := by decide +kernel
theorem so_faS {t : Nat} : so_fa n0 b0 sa (ab_str + t) = sa t := by
  have h1 : ¬ ab_str + t < ab_scr := by unfold ab_str ab_scr; omega
  have h2 : ¬ ab_str + t < ab_str := by omega
  unfold so_fa
  rw [if_neg h1, if_neg h2, Nat.add_sub_cancel_left]
theorem so_ldS (C : so_Cx p l s m args meth c D tA n0 b0 sa HL XL xs St y c0) (hSS : ∀ U, St U → so_St HL sa U) {k : Nat} (hd : decode (ab_b y) pc = .ok (.ldc k, 2)) {t : Nat} (hk : ab_lkS (ab_c y) k = some t) (k1 : so_G p l e R s m args below meth c Q D tA (so_fa n0 b0 sa) HL y c0 z0 (pc + 2) L (.ref (ab_str + t) :: S) h) : so_G p l e R s m args below meth c Q D tA (so_fa n0 b0 sa) HL y c0 z0 pc L S h := by
  intro ls H locs cells slots hl hR hc hs
  obtain ⟨C1, C2, C3, C4, C5, C6, C7, C8, C9, C10⟩ := C
  obtain ⟨q, hq, rfl⟩ := Option.map_eq_some_iff.mp hk
  obtain ⟨hm, hq2⟩ := so_find hq
  rw [Bool.and_eq_true, beq_iff_eq, beq_iff_eq] at hq2
  have hz := (hSS s C9.2.2.2.2.2.2.2).1 q hm
  rw [hq2.1, hq2.2] at hz
  have kk := k1 ls H locs cells slots hl hR hc hs
  rw [show so_S (so_fa n0 b0 sa) (.ref (ab_str + q.2.2.1) :: S) = .ref (so_fa n0 b0 sa (ab_str + q.2.2.1)) :: so_S (so_fa n0 b0 sa) S from rfl, so_faS] at kk
  exact va_ldcS C1 C2 C6 hz hd kk
theorem so_jF {H : Heap} {locs : List Loc} (hSS : ∀ U, St U → so_St HL sa U) (hA : so_Am D tA (so_fa n0 b0 sa) HL XL xs St s) (hR : so_R D tA (so_fa n0 b0 sa) HL h H locs) : ∀ U : State, U.heap = H → s.WarmedH U.vm → jc_F HL sa U := fun U hU hW =>
  ⟨so_St_moved _ _ (hSS s hA.2.2.2.2.2.2.2) hW, by rw [hU]; exact hR.2.1.1, fun q hq => by rw [hU]; exact hR.2.1.2.1 q hq (Nat.not_le.mpr hq)⟩
theorem so_jR {H : Heap} {locs : List Loc} {t : Nat} (ht : t < 8) (hSS : ∀ U, St U → so_St HL sa U) (hA : so_Am D tA (so_fa n0 b0 sa) HL XL xs St s) (hR : so_R D tA (so_fa n0 b0 sa) HL h H locs) : ∃ cell : Cell, H[sa t]? = some cell ∧ cell.vm.isStatics = false ∧ s.vm.findClass jc_S = some cell.cls := by
  obtain ⟨av, g1, -⟩ := (hSS s hA.2.2.2.2.2.2.2).2.1 t ht
  obtain ⟨cell, h1, h2, h3, -⟩ := va_O.kept g1 hR.2.1.2.1
  exact ⟨cell, h1, h2, h3⟩
theorem so_slenS (C : so_Cx p l s m args meth c D tA n0 b0 sa HL XL xs St y c0) (hSS : ∀ U, St U → so_St HL sa U) (hF : 6 ≤ R.frames) (hLo : 100 ≤ R.locals) (hC : ab_C h ≤ c0 + R.cells) (hZ : ab_Z h ≤ z0 + R.slots) {k y' : Nat} (hd : decode (ab_b y) pc = .ok (.invokevirtual k, 3)) (hk : ab_lkM (ab_c y) k = some (10, y')) {a : Nat} (ha : ab_str ≤ a ∧ a < ab_str + 8 ∧ ab_cat S ≤ 8) (k1 : so_G p l e R s m args below meth c Q D tA (so_fa n0 b0 sa) HL y c0 z0 (pc + 3) L (.int (Int32.ofNat (ta_tx (a - ab_str)).length) :: S) h) : so_G p l e R s m args below meth c Q D tA (so_fa n0 b0 sa) HL y c0 z0 pc L (.ref a :: S) h := by
  intro ls H locs cells slots hl hR hc hs
  obtain ⟨t, rfl⟩ : ∃ t, a = ab_str + t := ⟨a - ab_str, by omega⟩
  have ht : t < 8 := by omega
  rw [Nat.add_sub_cancel_left] at k1
  obtain ⟨C1, C2, C3, C4, C5, C6, C7, C8, C9, C10⟩ := C
  obtain ⟨p0, -, hw⟩ := so_lkM hk
  have w1 : Cond.methodLink (ta_nm (ab_c y)) k jy_length ∈ lw_tbl := hw
  have hcs := so_cat (so_fa n0 b0 sa) S
  rw [show so_S (so_fa n0 b0 sa) (.ref (ab_str + t) :: S) = .ref (so_fa n0 b0 sa (ab_str + t)) :: so_S (so_fa n0 b0 sa) S from rfl, so_faS]
  refine jc_cont (va_runV (n := 0) (As := []) (rest := so_S (so_fa n0 b0 sa) S) ⟨C1, C2, C3, C6, C8⟩ (jc_length (HL := HL) (sa := sa) ht) (cwV 0 C8 (jc_GV w1 (jc_in 9 rfl) (jc_in 10 rfl) (jc_in 18 rfl) (jc_in 1 rfl) rfl) rfl rfl rfl (by decide +kernel) ⟨?_, ?_⟩) ⟨jc_blind, so_jR ht hSS C9 hR, fun U hU hW => ⟨rfl, so_jF hSS C9 hR U hU hW⟩⟩ rfl rfl hl.1 rfl ?_ hd ⟨by omega, by omega⟩) (k1 ls H locs cells slots hl hR hc hs)
  · show 1 + 1 ≤ R.frames; omega
  · show 8 + (1 + 11) + 20 ≤ R.locals; omega
  · show 2 * 0 + ((so_S _ S).map _).sum ≤ 8; omega
theorem so_chat (C : so_Cx p l s m args meth c D tA n0 b0 sa HL XL xs St y c0) (hSS : ∀ U, St U → so_St HL sa U) (hF : 6 ≤ R.frames) (hLo : 100 ≤ R.locals) (hC : ab_C h ≤ c0 + R.cells) (hZ : ab_Z h ≤ z0 + R.slots) {k y' : Nat} (hd : decode (ab_b y) pc = .ok (.invokevirtual k, 3)) (hk : ab_lkM (ab_c y) k = some (11, y')) {a : Nat} {i : Int32} (ha : ab_str ≤ a ∧ a < ab_str + 8 ∧ ab_cat S ≤ 8 ∧ ab_in i (ta_tx (a - ab_str)).length = true) (k1 : so_G p l e R s m args below meth c Q D tA (so_fa n0 b0 sa) HL y c0 z0 (pc + 3) L (.int (Int32.ofNat ((ta_tx (a - ab_str)).toList.getD i.toNatClampNeg ' ').toNat) :: S) h) : so_G p l e R s m args below meth c Q D tA (so_fa n0 b0 sa) HL y c0 z0 pc L (.int i :: .ref a :: S) h := by
  intro ls H locs cells slots hl hR hc hs
  obtain ⟨a1, a2, a3, a4⟩ := ha
  obtain ⟨t, rfl⟩ : ∃ t, a = ab_str + t := ⟨a - ab_str, by omega⟩
  have ht : t < 8 := by omega
  rw [Nat.add_sub_cancel_left] at k1 a4
  obtain ⟨C1, C2, C3, C4, C5, C6, C7, C8, C9, C10⟩ := C
  obtain ⟨p0, -, hw⟩ := so_lkM hk
  have w1 : Cond.methodLink (ta_nm (ab_c y)) k jy_charAt ∈ lw_tbl := hw
  have hcs := so_cat (so_fa n0 b0 sa) S
  have hin := so_inb a4
  have hck := List.all_eq_true.mp so_chk t (List.mem_range.mpr ht)
  rw [Bool.and_eq_true, decide_eq_true_eq] at hck
  obtain ⟨j, hj, hij⟩ := vp_in_of hin (by omega)
  have h1 : i < Int32.ofNat (ta_tx t).length := by rw [hij]; exact nI_lt hj (by omega)
  have hcl : i.toNatClampNeg = j := by rw [hij]; exact nI_clamp (by omega)
  have hc1 : ((so_sb t i.toNatClampNeg &&& 255).toUInt32 % 65536).toInt32 = so_sb t i.toNatClampNeg := by
    rw [hcl]
    exact of_decide_eq_true (List.all_eq_true.mp hck.1 j (List.mem_range.mpr hj))
  have hc2 : narrow .char (.int (so_sb t i.toNatClampNeg)) = .int (so_sb t i.toNatClampNeg) := by
    rw [← hc1]
    exact pk_nc _
  rw [show so_S (so_fa n0 b0 sa) (.int i :: .ref (ab_str + t) :: S) = .int i :: .ref (so_fa n0 b0 sa (ab_str + t)) :: so_S (so_fa n0 b0 sa) S from rfl, so_faS]
  refine jc_cont (va_runV (n := 1) (As := [.int i]) (rest := so_S (so_fa n0 b0 sa) S) ⟨C1, C2, C3, C6, C8⟩ (jc_charAt (HL := HL) (sa := sa) ht hin h1 ⟨hc1, hc2⟩) (cwV 1 C8 (jc_GV w1 (jc_in 13 rfl) (jc_in 14 rfl) (jc_in 18 rfl) (jc_in 3 rfl) rfl) rfl rfl rfl (by decide +kernel) ⟨?_, ?_⟩) ⟨jc_blind, so_jR ht hSS C9 hR, fun U hU hW => ⟨rfl, so_jF hSS C9 hR U hU hW⟩⟩ rfl rfl hl.1 rfl ?_ hd ⟨by omega, by omega⟩) (k1 ls H locs cells slots hl hR hc hs)
  · show 3 + 1 ≤ R.frames; omega
  · show 8 + (2 + 11) + 64 ≤ R.locals; omega
  · show 2 * 0 + ((so_S _ S).map _).sum ≤ 8; omega
end SOUND

