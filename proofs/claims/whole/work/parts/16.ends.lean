def ta_sup : List String := ["java/lang/RuntimeException", "java/lang/Exception"]
set_option maxRecDepth 100000 in
theorem ta_LX_ok2 : ta_LX.all (fun e => (vx_at0 (ta_nm e.1) e.2.2.1 (ta_ex e.2.2.2.1) ta_sup).all (fun w => decide (w ∈ lw_tbl) && (goodWord w || (so_nest w && w.onTables)))) = true := by decide +kernel
set_option maxRecDepth 100000 in
theorem ta_LX_ok3 : ta_LX.all (fun e => (Cond.classLink (ta_nm e.1) e.2.1 (ta_ex e.2.2.2.1) :: Cond.initialized (ta_ex e.2.2.2.1) :: vx_at0 (ta_nm e.1) e.2.2.1 (ta_ex e.2.2.2.1) ta_sup).all vx_ot && Bundle.fit (ta_ex e.2.2.2.1) && decide (e.2.2.2.1 < 3)) = true := by decide +kernel
set_option maxRecDepth 100000 in
theorem ta_LX_ok4 : (List.range 3).all (fun E => decide (Cond.initialized (ta_ex E) ∈ lw_tbl) && decide (Cond.castable (ta_ex E) (ta_ex E) ∈ lw_tbl)) = true := by decide +kernel
theorem ta_sup_ok : ∀ n ∈ ta_sup, Bundle.fit n = true := by decide +kernel
theorem ta_LH_ok2 : ta_LH.all (fun e => decide (e.2.1 < 3)) = true := by decide +kernel
theorem ta_M_ok3 : ta_M.all (fun me => decide (me.2.2.2.2.2 = []) || me.2.2.2.2.1 == 13) = true := by decide +kernel
section SOUND
variable {p : Program} {l : Launch} {e : Env} {R : Room} {s : State} {m : MethodId} {args : Array Value} {below : List Frame} {meth : Method} {c : Code} {Q : State → Prop}
variable {D : va_G} {tA : Nat → ClassId} {n0 b0 : Nat} {sa : Nat → Nat} {HL : Heap} {XL : Nat} {xs : Nat → Int32} {St : State → Prop} {y : Nat} {c0 z0 : Nat}
variable {pc len : Nat} {L : ab_L} {S r : ab_S} {h : ab_H}

theorem so_zret {H : Heap} {locs : List Loc} {cells slots : Nat} {cc : ByteArray} {Qc : Array Value → State → Outcome → State → Prop} {free : Addr → Prop} {v : Int32} (hexec : p.tables.exec = Jvm.exec) (hb : c.code = cc) (hr : meth.sig.returnType = some .boolean)
    (hq : ∀ t : State, t.heap = H → s.WarmedH t.vm → Qc args s (.returned (some (.int (vp_nar .boolean v)))) t) (hf : ∀ q ∈ locs, free q.base)
    {pc : Nat} {ls : Array Slot} (hdg : decode cc pc = .ok (.ireturn, 1)) (hlocks : meth.locks = false) : W p l e R s m args below meth c H locs cells slots (MQ below Qc args s cells slots free) (F0 m pc ls [.int v]) := by
  intro T hT X
  obtain ⟨fs, hret, hrun, hended, hW, hframe⟩ := X.leave (v := some (.int (vp_nar .boolean v))) (fun h => by rw [hr] at h; cases h)
  have hmeth' : T.vm.method? m = some meth := X.method'
  have hn : narrow .boolean (.int v) = .int (vp_nar .boolean v) := rfl
  refine ⟨T.setFrames fs, ?_, .returned (some (.int (vp_nar .boolean v))), hrun, hended, hq _ hT hW, locs, ⟨⟨_, rfl⟩, hW, hframe⟩, hf⟩
  jvm_step X.here [X.here.top, hexec, hb, hdg, hmeth', hr, hn]
  (try refine ⟨rfl, ?_⟩); (try refine ⟨rfl, ?_⟩)
  first | (intro acts; rw [hret _ acts rfl rfl rfl]) | rw [hret _ _ rfl rfl rfl]
  exact Steps.refl _
theorem so_R_thr {fa : Nat → Nat} {H H1 : Heap} {locs : List Loc} {n : Nat} (hR : so_R D tA fa HL h H locs) (hz : H.size ≤ H1.size) (ho : ∀ q, q < H.size → H1[q]? = H[q]?) : so_R D tA fa HL (ab_thr h n) H1 locs := by
  obtain ⟨R1, R2, R3, R4, R5⟩ := hR
  refine ⟨(R1.kept (fun k q hk => ho q.1 ((R1 k q hk).lt))), ⟨Nat.le_trans R2.1 hz, fun q h1 h2 => (ho q (Nat.lt_of_lt_of_le h1 R2.1)).trans (R2.2.1 q h1 h2), R2.2.2⟩, ?_, R4, R5⟩
  have e : ab_C (ab_thr h n) = ab_C h + 1 := rfl
  have e2 : ab_N (ab_thr h n) = ab_N h := rfl
  omega
set_option maxHeartbeats 4000000 in
theorem so_endG (C : so_Cx p l s m args meth c D tA n0 b0 sa HL XL xs St y c0) (hy : y < 386) (hF : 6 ≤ R.frames) (hLo : 100 ≤ R.locals) {i : Instr} (hd : decode (ab_b y) pc = .ok (i, len)) (hlen : ab_len i len = true) {out : ab_O} {h' : ab_H} (hend : ab_end y pc i S h = some (out, h')) (hC : ab_C h' ≤ c0 + R.cells) (hZ : ab_Z h' ≤ z0 + R.slots) :
    so_G p l e R s m args below meth c (vx_MQ below (so_Qr D tA (so_fa n0 b0 sa) HL out h') (so_Xc D tA (so_fa n0 b0 sa) HL out h') args s (ab_C h' - c0) (ab_Z h' - z0) (so_A HL)) D tA (so_fa n0 b0 sa) HL y c0 z0 pc L S h := by
  intro ls H locs cells slots hl hR hc hs
  obtain ⟨C1, C2, C3, C4, C5, C6, C7, C8, C9, C10, C11, C12, C13, C14⟩ := C
  unfold ab_end at hend
  split at hend
  · obtain rfl : len = 1 := by simpa [ab_len] using hlen
    split at hend
    · rename_i hb
      obtain ⟨rfl, hrt⟩ := hb
      simp only [Option.some.injEq, Prod.mk.injEq] at hend
      obtain ⟨rfl, rfl⟩ := hend
      obtain rfl : cells = ab_C h - c0 := by omega
      obtain rfl : slots = ab_Z h - z0 := by omega
      exact vx_ret (W.vret C1 C2 (C4.trans hrt) (fun t ht _ => ⟨none, rfl, rfl, by rw [ht]; exact so_R0 hR⟩) hR.2.1.2.2 hd C5)
    · cases hend
  · obtain rfl : len = 1 := by simpa [ab_len] using hlen
    split at hend
    · split at hend
      · rename_i hrt
        simp only [Option.some.injEq, Prod.mk.injEq] at hend
        obtain ⟨rfl, rfl⟩ := hend
        obtain rfl : cells = ab_C h - c0 := by omega
        obtain rfl : slots = ab_Z h - z0 := by omega
        exact vx_ret (W.iret C1 C2 (C4.trans hrt) (fun t ht _ => ⟨_, rfl, rfl, by rw [ht]; exact so_R0 hR⟩) hR.2.1.2.2 hd C5)
      · rename_i hrt
        simp only [Option.some.injEq, Prod.mk.injEq] at hend
        obtain ⟨rfl, rfl⟩ := hend
        obtain rfl : cells = ab_C h - c0 := by omega
        obtain rfl : slots = ab_Z h - z0 := by omega
        exact vx_ret (so_zret C1 C2 (C4.trans hrt) (fun t ht _ => ⟨_, rfl, rfl, by rw [ht]; exact so_R0 hR⟩) hR.2.1.2.2 hd C5)
      · cases hend
    · cases hend
  · obtain rfl : len = 1 := by simpa [ab_len] using hlen
    split at hend
    · split at hend
      · rename_i hrt
        simp only [Option.some.injEq, Prod.mk.injEq] at hend
        obtain ⟨rfl, rfl⟩ := hend
        obtain rfl : cells = ab_C h - c0 := by omega
        obtain rfl : slots = ab_Z h - z0 := by omega
        exact vx_ret (W.lret C1 C2 (C4.trans hrt) (fun t ht _ => ⟨_, rfl, rfl, by rw [ht]; exact so_R0 hR⟩) hR.2.1.2.2 hd C5)
      · cases hend
    · cases hend
  · rename_i k
    obtain rfl : len = 3 := by simpa [ab_len] using hlen
    split at hend
    · rename_i e0 he
      split at hend
      · rename_i hb
        obtain ⟨rfl, hh, hok⟩ := hb
        simp only [Option.some.injEq, Prod.mk.injEq] at hend
        obtain ⟨rfl, rfl⟩ := hend
        obtain ⟨hm, hq2⟩ := so_find he
        rw [Bool.and_eq_true, beq_iff_eq, beq_iff_eq] at hq2
        obtain ⟨e1, e2⟩ := hq2
        have x2 := List.all_eq_true.mp ta_LX_ok2 _ hm
        have x3 := List.all_eq_true.mp ta_LX_ok3 _ hm
        have hk := ta_wkm ta_LX_ok e0 hm
        dsimp only at hk
        simp only [Bool.and_eq_true, decide_eq_true_eq, List.all_eq_true] at x3
        obtain ⟨⟨x3a, x3b⟩, x3c⟩ := x3
        rw [e1] at x2 x3a hk
        rw [e2] at x3a hk
        have x4 := List.all_eq_true.mp ta_LX_ok4 e0.2.2.2.1 (List.mem_range.mpr x3c)
        rw [Bool.and_eq_true, decide_eq_true_eq, decide_eq_true_eq] at x4
        unfold ab_thrOk at hok
        split at hok
        · rename_i i7 g3 g4 g7
          rw [beq_iff_eq] at hok
          subst hok
          intro T hT X
          have hsz := (vx_frame X.same).1
          have hsz : s.heap.size ≤ H.size := by rw [← hT]; exact hsz
          have hS : va_S (so_A HL) s.heap H locs := ⟨hsz, fun q h1 h2 => by
            have h3 : q < HL.size := Nat.not_le.mp h2
            rw [hR.2.1.2.1 q h3 h2, C12.2.1 q h3 h2], hR.2.1.2.2⟩
          have hkept : ∀ a : Nat, a < HL.size → ¬ so_A HL a → s.heap[a]? = HL[a]? := fun a h1 h2 => C12.2.1 a h1 h2
          refine (?_ : W p l e R s m args below meth c H locs cells slots _ (F0 m pc ls [])) T hT X
          refine vx_throw0 (names := ta_sup) (cls := ta_ex e0.2.2.2.1) C1 C2 C11 C6 x3b ta_sup_ok (so_word C8 hk rfl) (so_word C8 x4.1 rfl) (fun w hw => ?_) (fun w hw => x3a w hw) (C9.2.2.2.2.1.kept hkept) (C9.2.2.2.2.2.1.kept hkept) hS (hl.1.trans C3.symm) hd g3 g4 g7 (fun x hx => ?_) ?_ ?_ ?_ ?_ C5 (fun t _ h2 h3 => ⟨_, rfl, rfl, so_R0 (so_R_thr hR h2 h3)⟩) hR.2.1.2.2 ?_ ?_
          · have h1 := List.all_eq_true.mp x2 w hw
            rw [Bool.and_eq_true, decide_eq_true_eq, Bool.or_eq_true] at h1
            rcases h1.2 with h2 | h2
            · exact so_word C8 h1.1 h2
            · rw [Bool.and_eq_true] at h2
              have h3 := C9.2.1 w h1.1 h2.1
              exact va_Nw.use h2.2 h3
          · rw [C14 hy] at hx
            have hh2 : (ta_me y).2.2.2.2.2 = [] := hh
            rw [hh2] at hx
            cases hx
          · show 2 + 3 < R.frames; omega
          · show 0 + (13 * (2 + 1) + 42) ≤ R.locals; omega
          · have e3 : ab_C (ab_thr h 6) = ab_C h + 1 := rfl
            omega
          · have e3 : ab_Z (ab_thr h 6) = ab_Z h + 6 := rfl
            omega
          · have e3 : ab_C (ab_thr h 6) = ab_C h + 1 := rfl
            omega
          · have e3 : ab_Z (ab_thr h 6) = ab_Z h + 6 := rfl
            omega
        · cases hok
      · cases hend
    · cases hend
  · cases hend
theorem so_catchG (C : so_Cx p l s m args meth c D tA n0 b0 sa HL XL xs St y c0) (hy : y < 387) {E t : Nat} (hh : ab_hand y pc E = some t) {i : Instr} {k ln : Nat} (hdt : decode (ab_b y) t = .ok (i, ln)) (hi : (∃ k' : Fin 4, i = .astore_n k' ∧ (k' : Nat) = k ∧ ln = 1) ∨ (i = .astore k ∧ ln = 2)) (hk : k < ab_nL y)
    (k1 : so_G p l e R s m args below meth c Q D tA (so_fa n0 b0 sa) HL y c0 z0 (t + ln) (L.filter (fun q => !(q.1 == k) && !(q.1 + 1 == k && q.2.category == 2))) ([]) h) :
    ∀ (ls : Array Slot) (H : Heap) (locs : List Loc) (cells slots : Nat) (q : Addr) (ce : Cell) (rest : List Value), lv_has ls (ab_nL y) (so_L (so_fa n0 b0 sa) L) → so_R D tA (so_fa n0 b0 sa) HL h H locs → cells + c0 = ab_C h → slots + z0 = ab_Z h → H[q]? = some ce → ce.vm = .none → s.vm.findClass (ta_ex E) = some ce.cls → vx_W p l e R s m args below meth c H locs cells slots Q (F0 m pc ls rest) q := by
  intro ls H locs cells slots q ce rest hl hR hc hs hq hv hcl
  obtain ⟨C1, C2, C3, C4, C5, C6, C7, C8, C9, C10, C11, C12, C13, C14⟩ := C
  obtain ⟨x, hx, rfl⟩ := Option.map_eq_some_iff.mp hh
  obtain ⟨hpx, pre, suf, hsp, hpre⟩ := List.find?_eq_some_iff_append.mp hx
  simp only [Bool.and_eq_true, decide_eq_true_eq, beq_iff_eq] at hpx
  obtain ⟨⟨p1, p2⟩, p3⟩ := hpx
  have hme : ta_me y ∈ ta_M := by
    have h1 : y < ta_M.length := by rw [ta_M_len]; exact hy
    have h2 : ta_M[y]? = some ta_M[y] := List.getElem?_eq_getElem h1
    have h3 : ta_me y = ta_M[y] := by unfold ta_me; rw [h2]; rfl
    rw [h3]
    exact List.getElem_mem h1
  have hne : ab_hh y ≠ [] := by rw [hsp]; simp
  have hcls : ab_c y = 13 := by
    have h1 := List.all_eq_true.mp ta_M_ok3 _ hme
    rw [Bool.or_eq_true, decide_eq_true_eq, beq_iff_eq] at h1
    exact h1.resolve_left hne
  have hfacts := List.all_eq_true.mp ta_M_ok2 _ hme
  simp only [Bool.and_eq_true, decide_eq_true_eq, List.all_eq_true] at hfacts
  have hin : ∀ z ∈ ab_hh y, ∃ j, (ta_LH.find? (fun e => e.1 == z.2.2.2)).map (fun e => e.2.1) = some j ∧ j < 3 ∧ Cond.classLink (ta_nm 13) z.2.2.2 (ta_ex j) ∈ lw_tbl ∧ z.2.2.2 ≠ 0 := by
    intro z hz
    obtain ⟨h1, h2⟩ := hfacts.2 z hz
    obtain ⟨e0, he⟩ := Option.isSome_iff_exists.mp h1
    obtain ⟨hm, hq2⟩ := so_find he
    rw [beq_iff_eq] at hq2
    have h3 := of_decide_eq_true (List.all_eq_true.mp ta_LH_ok2 _ hm)
    have h4 := ta_wkm ta_LH_ok e0 hm
    dsimp only at h4
    rw [hq2] at h4
    exact ⟨e0.2.1, by rw [he]; rfl, h3, h4, h2⟩
  obtain ⟨j, j1, j2, j3, j4⟩ := hin x (by rw [hsp]; simp)
  have hjE : j = E := by rw [j1] at p3; exact Option.some.inj p3
  subst hjE
  have x4 := List.all_eq_true.mp ta_LX_ok4 j (List.mem_range.mpr j2)
  rw [Bool.and_eq_true, decide_eq_true_eq, decide_eq_true_eq] at x4
  have hy6 : y < 386 := by
    rcases (show y < 386 ∨ y = 386 by omega) with h1 | h1
    · exact h1
    · subst h1
      exact absurd (by decide +kernel) hne
  have hsplit : c.exceptionTable.toList = tableOf pre ++ (⟨x.1, x.2.1, x.2.2.1, x.2.2.2⟩ : ExceptionTableEntry) :: tableOf suf := by
    rw [C14 hy6, show (ta_me y).2.2.2.2.2 = pre ++ x :: suf from hsp]
    simp [tableOf]
  refine vx_catch (own := ta_nm 13) (name := ta_ex j) (E := ta_ex j) (by rw [← hcls]; exact C6) (tableOf pre) ⟨x.1, x.2.1, x.2.2.1, x.2.2.2⟩ (tableOf suf) hsplit (fun z hz => ?_) ?_ j4 (so_word C8 j3 rfl) (va_Nw.use rfl (C9.2.1 _ x4.2 rfl)) hq hv hcl ?_
  · obtain ⟨z0', hz0, rfl⟩ := List.mem_map.mp hz
    have h1 := hpre z0' hz0
    by_cases hcov : covers ⟨z0'.1, z0'.2.1, z0'.2.2.1, z0'.2.2.2⟩ pc = true
    · refine Or.inr ?_
      obtain ⟨j', g1, g2, g3, g4⟩ := hin z0' (by rw [hsp]; exact List.mem_append_left _ hz0)
      refine ⟨g4, ta_ex j', so_word C8 g3 rfl, C9.2.2.2.2.2.2.1 j j' j2 g2 ?_⟩
      intro hjj
      subst hjj
      unfold covers at hcov
      simp only [Bool.and_eq_true, decide_eq_true_eq] at hcov
      have : (decide (z0'.1 ≤ pc) && decide (pc < z0'.2.1) && ((ta_LH.find? (fun e => e.1 == z0'.2.2.2)).map (fun e => e.2.1) == some j)) = true := by
        rw [Bool.and_eq_true, Bool.and_eq_true, decide_eq_true_eq, decide_eq_true_eq, beq_iff_eq]
        exact ⟨⟨hcov.1, hcov.2⟩, g1⟩
      rw [this] at h1
      cases h1
    · exact Or.inl (Bool.eq_false_iff.mpr hcov)
  · unfold covers
    simp only [Bool.and_eq_true, decide_eq_true_eq]
    exact ⟨p1, p2⟩
  · have hfl := so_flt (so_fa n0 b0 sa) L (fun a b => !(a == k) && !(a + 1 == k && b == 2))
    have sub : ∀ ls' : Array Slot, lv_has ls' (ab_nL y) ((k, Value.ref q) :: (so_L (so_fa n0 b0 sa) L).filter (fun q => !(q.1 == k) && !(q.1 + 1 == k && q.2.category == 2))) → lv_has ls' (ab_nL y) (so_L (so_fa n0 b0 sa) (L.filter (fun q => !(q.1 == k) && !(q.1 + 1 == k && q.2.category == 2)))) := by
      intro ls' h1
      refine ⟨h1.1, h1.2.1, fun z hz => h1.2.2 z (List.mem_cons_of_mem _ ?_)⟩
      rw [hfl]
      exact hz
    rcases hi with ⟨k', rfl, rfl, rfl⟩ | ⟨rfl, rfl⟩
    · exact lv_astore_n C1 C2 hdt rfl hl hk rfl (fun ls' hl' => k1 ls' H locs cells slots (sub ls' hl') hR hc hs)
    · exact lv_astore C1 C2 hdt hl hk rfl (fun ls' hl' => k1 ls' H locs cells slots (sub ls' hl') hR hc hs)
end SOUND

