theorem so_np {y : Nat} (hy : y < 386) : ta_n (ta_me y).1 = some (ab_np y) := by
  obtain ⟨n, hn⟩ := Option.isSome_iff_exists.mp (so_facts hy).2.1
  unfold ab_np ab_y
  rw [hn]
  rfl
def so_P (l : Launch) (D : va_G) (tA : Nat → ClassId) (n0 b0 : Nat) (sa : Nat → Nat) (HL : Heap) (XL : Nat) (xs : Nat → Int32) (St : State → Prop) (n : Nat) : Prop :=
  ∀ (d y : Nat) (As : List Value) (h h' : ab_H) (out : ab_O), y < 386 → (lg_sl As).length ≤ (ta_me y).2.2.1 → ab_run n d y 0 (lv_args 0 As) [] h = some (out, h') → ab_XL h = XL → ab_X h = xs →
    vx_Met l (ta_me y).1 (so_w y) (so_rm d (ab_C h' - ab_C h) (ab_Z h' - ab_Z h)) (so_Pc D tA (so_fa n0 b0 sa) HL XL xs St As h) (so_Qr D tA (so_fa n0 b0 sa) HL out h') (so_Xc D tA (so_fa n0 b0 sa) HL out h') (ab_C h' - ab_C h) (ab_Z h' - ab_Z h) (so_A HL)
theorem so_lkM3 {c k kd y : Nat} (h : ab_lkM c k = some (kd, y)) (hkd : kd ≤ 5 ∨ kd = 12) : ta_wL (c, k, kd, y, 0) ∈ lw_tbl ∧ y < 386 ∧ (kd ≤ 1 → ta_kd y = 0 ∧ (ta_me y).2.2.2.2.1 < 13) ∧ ((kd = 4 ∨ kd = 5) → ta_kd y = 2 ∧ (ta_me y).1.name = "<init>" ∧ (ta_me y).2.2.2.1 = none) ∧ ((kd = 2 ∨ kd = 3 ∨ kd = 12) → ta_kd y = 1) ∧ (kd = 12 → (ta_me y).2.2.2.2.2 ≠ []) ∧ (kd ≠ 12 → (ta_me y).2.2.2.2.2 = []) := by
  obtain ⟨p, hm, hw⟩ := so_lkM h
  have h1 := List.all_eq_true.mp ta_LM_ok3 _ hm
  dsimp only at h1
  rw [if_pos hkd] at h1
  simp only [Bool.and_eq_true, decide_eq_true_eq] at h1
  obtain ⟨⟨g1, g2⟩, g3⟩ := h1
  refine ⟨hw, g1, fun hk => ?_, fun hk => ?_, fun hk => ?_, fun hk => ?_, fun hk => ?_⟩
  · rw [if_pos hk] at g2
    simp only [Bool.and_eq_true, decide_eq_true_eq, beq_iff_eq] at g2
    exact g2
  · rw [if_neg (by omega), if_pos hk] at g2
    simp only [Bool.and_eq_true, decide_eq_true_eq, beq_iff_eq] at g2
    exact ⟨g2.1.1, g2.1.2, g2.2⟩
  · rw [if_neg (by omega), if_neg (by omega)] at g2
    exact beq_iff_eq.mp g2
  · rw [if_pos hk] at g3
    exact of_decide_eq_true g3
  · rw [if_neg hk] at g3
    exact of_decide_eq_true g3
section SOUND
variable {p : Program} {l : Launch} {e : Env} {R : Room} {s : State} {m : MethodId} {args : Array Value} {below : List Frame} {meth : Method} {c : Code} {Q : State → Prop}
variable {D : va_G} {tA : Nat → ClassId} {n0 b0 : Nat} {sa : Nat → Nat} {HL : Heap} {XL : Nat} {xs : Nat → Int32} {St : State → Prop} {y : Nat} {c0 z0 : Nat}
variable {pc len : Nat} {L : ab_L} {S r : ab_S} {h : ab_H}

set_option maxHeartbeats 4000000 in
theorem so_callG (C : so_Cx p l s m args meth c D tA n0 b0 sa HL XL xs St y c0) (hSt : ∀ s U : State, St s → s.WarmedH U.vm → St U) {i : Instr} (hd : decode (ab_b y) pc = .ok (i, 3)) {y' : Nat} {As : List Value} {pl : Bool} (hcall : ab_call (ab_c y) i S h = some (y', As, r, pl)) {d' : Nat} {out1 : ab_O} {h1 : ab_H} (hRf : d' + 7 ≤ R.frames) (hRl : 100 * (d' + 2) ≤ R.locals)
    (hM : y' < 386 → (lg_sl As).length ≤ (ta_me y').2.2.1 → vx_Met l (ta_me y').1 (so_w y') (so_rm d' (ab_C h1 - ab_C h) (ab_Z h1 - ab_Z h)) (so_Pc D tA (so_fa n0 b0 sa) HL XL xs St As h) (so_Qr D tA (so_fa n0 b0 sa) HL out1 h1) (so_Xc D tA (so_fa n0 b0 sa) HL out1 h1) (ab_C h1 - ab_C h) (ab_Z h1 - ab_Z h) (so_A HL))
    (hge : ab_ge h h1) (hC : ab_C h1 ≤ c0 + R.cells) (hZ : ab_Z h1 ≤ z0 + R.slots) (hno : pl = false → ∀ E, out1 ≠ .inr E ∨ pl = true)
    (kv : ∀ v, out1 = .inl v → so_G p l e R s m args below meth c Q D tA (so_fa n0 b0 sa) HL y c0 z0 (pc + 3) L (v.toList ++ r) h1)
    (kx : ∀ E, out1 = .inr E → ∀ (ls : Array Slot) (H : Heap) (locs : List Loc) (cells slots : Nat) (q : Addr) (ce : Cell), lv_has ls (ab_nL y) (so_L (so_fa n0 b0 sa) L) → so_R D tA (so_fa n0 b0 sa) HL h1 H locs → cells + c0 = ab_C h1 → slots + z0 = ab_Z h1 → H[q]? = some ce → ce.vm = .none → s.vm.findClass (ta_ex E) = some ce.cls → vx_W p l e R s m args below meth c H locs cells slots Q (F0 m pc ls (so_S (so_fa n0 b0 sa) r)) q) :
    so_G p l e R s m args below meth c Q D tA (so_fa n0 b0 sa) HL y c0 z0 pc L S h := by
  intro ls H locs cells slots hl hR hc hs T hT X
  have hC0 := C
  obtain ⟨C1, C2, C3, C4, C5, C6, C7, C8, C9, C10, C11, C12, C13, C14⟩ := C
  have hsz := so_size hT X C13 hc
  refine (?_ : W p l e R s m args below meth c H locs cells slots Q (F0 m pc ls (so_S (so_fa n0 b0 sa) S))) T hT X
  have hPc : ∀ U : State, U.heap = H → s.WarmedH U.vm → so_Pc D tA (so_fa n0 b0 sa) HL XL xs St As h (As.map (so_v (so_fa n0 b0 sa))).toArray U := fun U hU hW => ⟨rfl, so_Am_moved hSt hW C9, by rw [hU]; exact so_R0 hR, by rw [hU]; exact hsz⟩
  have hbl : FrameBlind (so_Pc D tA (so_fa n0 b0 sa) HL XL xs St As h) := so_blind hSt
  have hcs := so_cat (so_fa n0 b0 sa) r
  have hge1 := hge.1
  have hge2 := hge.2.1
  have fin : vx_Run p l e R s m args below meth c H locs cells slots (ab_C h1 - ab_C h) (ab_Z h1 - ab_Z h) (F0 m pc ls (so_S (so_fa n0 b0 sa) S)) (so_S (so_fa n0 b0 sa) r) (so_Qr D tA (so_fa n0 b0 sa) HL out1 h1 (As.map (so_v (so_fa n0 b0 sa))).toArray) (so_Xc D tA (so_fa n0 b0 sa) HL out1 h1) (so_A HL) → W p l e R s m args below meth c H locs cells slots Q (F0 m pc ls (so_S (so_fa n0 b0 sa) S)) := by
    intro hr
    refine so_cont hr hR.2.1.2.2 (fun v H1 locs1 ho hR1 => ?_) (fun E q ce H1 locs1 ho hR1 g1 g2 g3 => ?_)
    · have kk := kv v ho ls H1 locs1 (cells + (ab_C h1 - ab_C h)) (slots + (ab_Z h1 - ab_Z h)) hl hR1 (by omega) (by omega)
      have e : so_S (so_fa n0 b0 sa) (v.toList ++ r) = (v.map (so_v (so_fa n0 b0 sa))).toList ++ so_S (so_fa n0 b0 sa) r := by
        cases v <;> rfl
      rw [e] at kk
      exact kk
    · exact kx E ho ls H1 locs1 _ _ q ce hl hR1 (by omega) (by omega) g1 g2 g3
  have hnoX : pl = false → ∀ E st t, ¬ so_Xc D tA (so_fa n0 b0 sa) HL out1 h1 E st t := by
    intro hp E st t hx
    obtain ⟨E', ho, -⟩ := hx
    rcases hno hp E' with h3 | h3
    · exact h3 ho
    · rw [hp] at h3; cases h3
  have hf : cells + (ab_C h1 - ab_C h) ≤ R.cells ∧ slots + (ab_Z h1 - ab_Z h) ≤ R.slots := by omega
  have hW8 : 2 * (F0 m pc ls (so_S (so_fa n0 b0 sa) S)).monitorRoom + ((so_S (so_fa n0 b0 sa) r).map fun v => v.category).sum = ab_cat r := by
    rw [hcs]
    show 2 * 0 + _ = _
    omega
  unfold ab_call at hcall
  split at hcall
  · -- virtual
    rename_i k
    split at hcall
    · rename_i kd y0 hk
      split at hcall
      · rename_i hkd
        split at hcall
        · rename_i a r0 hdrop
          split at hcall
          · rename_i hb
            obtain ⟨b1, b2, b3, b4, b5⟩ := hb
            simp only [Option.some.injEq, Prod.mk.injEq] at hcall
            obtain ⟨rfl, rfl, rfl, hpl⟩ := hcall
            obtain ⟨w1, w2, w3, -, -, -, w7⟩ := so_lkM3 hk (Or.inl (by omega))
            obtain ⟨w3a, w3b⟩ := w3 hkd
            have hh := w7 (by omega)
            obtain ⟨g1, g2, g3, g4⟩ := so_good w2
            have hM1 := hM w2 b5
            have hmax := (so_facts w2).2.2.1
            have hcode : so_w y0 = Cond.code (ta_me y0).1 (ta_me y0).2.1 (ta_me y0).2.2.1 (ta_me y0).2.2.2.1 :: so_T := by unfold so_w ta_wM; rw [if_pos hh]
            have hw2 := so_w2 w2
            rw [show ta_w2 y0 = .instanceMethod (ta_me y0).1 by unfold ta_w2; rw [if_neg (by omega)]] at hw2
            have hsel := so_sel w2 w3a
            have hini := so_inic w2
            have hq : ∃ q, ta_cl[(ta_me y0).2.2.2.2.1]? = some q := by
              cases hq : ta_cl[(ta_me y0).2.2.2.2.1]? with
              | some q => exact ⟨q, rfl⟩
              | none =>
                have := List.getElem?_eq_none_iff.mp hq
                rw [ta_cl_len] at this
                omega
            obtain ⟨q, hq⟩ := hq
            have he := so_ws_at (fa := so_fa n0 b0 sa) (tA := tA) b3
            rw [so_ent_o b4 w3b] at he
            have hrecv := va_recv C9.1 hR.1 hq he
            rw [so_clnm hq w3b, ← g1] at hrecv
            have hst : so_S (so_fa n0 b0 sa) S = (((S.take (ab_np y0)).reverse).map (so_v (so_fa n0 b0 sa))).reverse ++ .ref (so_fa n0 b0 sa a) :: so_S (so_fa n0 b0 sa) r0 := by
              rw [List.map_reverse, List.reverse_reverse]
              conv => lhs; rw [← List.take_append_drop (ab_np y0) S, hdrop]
              unfold so_S
              rw [List.map_append]
              rfl
            have hlen : (((S.take (ab_np y0)).reverse).map (so_v (so_fa n0 b0 sa))).length = ab_np y0 := by rw [List.length_map, List.length_reverse]; exact b1
            have hnp := so_np w2
            unfold ta_wL at w1
            have hpre : PreV s H (ta_me y0).1.cls (so_fa n0 b0 sa a) (so_Pc D tA (so_fa n0 b0 sa) HL XL xs St (.ref a :: (S.take (ab_np y0)).reverse) h) (((S.take (ab_np y0)).reverse).map (so_v (so_fa n0 b0 sa))) := ⟨hbl, hrecv, hPc⟩
            rcases (show kd = 0 ∨ kd = 1 by omega) with rfl | rfl
            · have w1' : Cond.methodLink (ta_nm (ab_c y)) k (ta_me y0).1 ∈ lw_tbl := w1
              refine fin (vx_runV (n := ab_np y0) ⟨C1, C2, C3, C6, C8⟩ hM1 (cwV (ab_np y0) C8 (so_goodIn (fun w hw => ?_)) hcode rfl rfl ⟨rfl, g3, g4, hnp⟩ ⟨?_, ?_⟩) hpre rfl hlen hl.1 hst (by rw [hW8]; exact b2) hd hf)
              · unfold wsV at hw
                rcases List.mem_append.mp hw with hw | hw
                · simp only [List.mem_cons, List.not_mem_nil, or_false] at hw
                  rcases hw with rfl | rfl | rfl | rfl
                  · exact ⟨w1', rfl⟩
                  · exact ⟨hw2, rfl⟩
                  · exact ⟨hsel, rfl⟩
                  · exact ⟨hini, rfl⟩
                · exact so_wIn w2 w hw
              · show d' + 6 + 1 ≤ R.frames; omega
              · show 8 + ((ta_me y0).2.2.1 + 11) + 100 * (d' + 1) ≤ R.locals; omega
            · have w1' : Cond.methodLinkNest (ta_nm (ab_c y)) k (ta_me y0).1 "SkyTailor" ∈ lw_tbl := w1
              have hM2 := so_noX hM1 (hnoX (by rw [← hpl]; rfl))
              refine fin (so_toX (va_runVN (n := ab_np y0) ⟨C1, C2, C3, C6, C8⟩ hM2 ⟨va_cnB (ab_np y0) C8 (so_goodIn (so_wIn w2)) hcode rfl rfl (C9.2.1 _ w1' rfl) (so_word C8 hini rfl) ⟨g3, g4, hnp⟩ ⟨?_, ?_⟩, so_word C8 hw2 rfl, so_word C8 hsel rfl⟩ hpre rfl hlen hl.1 hst (by rw [hW8]; exact b2) hd hf))
              · show d' + 6 + 1 ≤ R.frames; omega
              · show 8 + ((ta_me y0).2.2.1 + 11) + 100 * (d' + 1) ≤ R.locals; omega
          · cases hcall
        · cases hcall
      · cases hcall
    · cases hcall
  · -- special
    rename_i k
    split at hcall
    · rename_i kd y0 hk
      split at hcall
      · rename_i hkd
        split at hcall
        · rename_i a r0 hdrop
          split at hcall
          · rename_i hb
            obtain ⟨b1, b2, b5⟩ := hb
            simp only [Option.some.injEq, Prod.mk.injEq] at hcall
            obtain ⟨rfl, rfl, rfl, hpl⟩ := hcall
            obtain ⟨w1, w2, -, w4, -, -, w7⟩ := so_lkM3 hk (Or.inl (by omega))
            obtain ⟨w4a, w4b, w4c⟩ := w4 hkd
            have hh := w7 (by omega)
            obtain ⟨g1, g2, g3, g4⟩ := so_good w2
            have hM1 := hM w2 b5
            have hmax := (so_facts w2).2.2.1
            have hcode : so_w y0 = Cond.code (ta_me y0).1 (ta_me y0).2.1 (ta_me y0).2.2.1 none :: so_T := by unfold so_w ta_wM; rw [if_pos hh, w4c]
            have hw2 := so_w2 w2
            rw [show ta_w2 y0 = .instanceMethod (ta_me y0).1 by unfold ta_w2; rw [if_neg (by omega)]] at hw2
            have hini := so_inic w2
            have hst : so_S (so_fa n0 b0 sa) S = (((S.take (ab_np y0)).reverse).map (so_v (so_fa n0 b0 sa))).reverse ++ .ref (so_fa n0 b0 sa a) :: so_S (so_fa n0 b0 sa) r0 := by
              rw [List.map_reverse, List.reverse_reverse]
              conv => lhs; rw [← List.take_append_drop (ab_np y0) S, hdrop]
              unfold so_S
              rw [List.map_append]
              rfl
            have hlen : (((S.take (ab_np y0)).reverse).map (so_v (so_fa n0 b0 sa))).length = ab_np y0 := by rw [List.length_map, List.length_reverse]; exact b1
            have hnp := so_np w2
            have hM2 := so_noX hM1 (hnoX hpl.symm)
            have hpre : PreS s H (so_Pc D tA (so_fa n0 b0 sa) HL XL xs St (.ref a :: (S.take (ab_np y0)).reverse) h) (.ref (so_fa n0 b0 sa a) :: ((S.take (ab_np y0)).reverse).map (so_v (so_fa n0 b0 sa))) := ⟨hbl, hPc⟩
            rcases hkd with rfl | rfl
            · have w1' : Cond.methodLink (ta_nm (ab_c y)) k (ta_me y0).1 ∈ lw_tbl := w1
              refine fin (so_toX (va_runI (n := ab_np y0) ⟨C1, C2, C3, C6, C8⟩ hM2 (cwI (ab_np y0) C8 (so_goodIn (so_wIn w2)) hcode rfl rfl (so_word C8 hini rfl) (so_word C8 w1' rfl) (so_word C8 hw2 rfl) w4b ⟨g3, g4, hnp⟩ ⟨?_, ?_⟩) hpre rfl hlen hl.1 hst (by rw [hW8]; exact b2) hd hf))
              · show d' + 6 + 1 ≤ R.frames; omega
              · show 8 + ((ta_me y0).2.2.1 + 11) + 100 * (d' + 1) ≤ R.locals; omega
            · have w1' : Cond.methodLinkNest (ta_nm (ab_c y)) k (ta_me y0).1 "SkyTailor" ∈ lw_tbl := w1
              refine fin (so_toX (va_runIN (n := ab_np y0) ⟨C1, C2, C3, C6, C8⟩ hM2 ⟨va_cnB (ab_np y0) C8 (so_goodIn (so_wIn w2)) hcode rfl rfl (C9.2.1 _ w1' rfl) (so_word C8 hini rfl) ⟨g3, g4, hnp⟩ ⟨?_, ?_⟩, w4b, so_word C8 hw2 rfl⟩ hpre rfl hlen hl.1 hst (by rw [hW8]; exact b2) hd hf))
              · show d' + 6 + 1 ≤ R.frames; omega
              · show 8 + ((ta_me y0).2.2.1 + 11) + 100 * (d' + 1) ≤ R.locals; omega
          · cases hcall
        · cases hcall
      · cases hcall
    · cases hcall
  · -- static
    rename_i k
    split at hcall
    · rename_i kd y0 hk
      split at hcall
      · rename_i hkd
        split at hcall
        · rename_i hb
          obtain ⟨b1, b2, b5⟩ := hb
          simp only [Option.some.injEq, Prod.mk.injEq] at hcall
          obtain ⟨rfl, rfl, rfl, hpl⟩ := hcall
          obtain ⟨w1, w2, -, -, w5, w6, w7⟩ := so_lkM3 hk (by omega)
          have w5a := w5 hkd
          obtain ⟨g1, g2, g3, g4⟩ := so_good w2
          have hM1 := hM w2 b5
          have hmax := (so_facts w2).2.2.1
          have hw2 := so_w2 w2
          rw [show ta_w2 y0 = .static (ta_me y0).1 by unfold ta_w2; rw [if_pos w5a]] at hw2
          have hini := so_inic w2
          have hst : so_S (so_fa n0 b0 sa) S = (((S.take (ab_np y0)).reverse).map (so_v (so_fa n0 b0 sa))).reverse ++ so_S (so_fa n0 b0 sa) (S.drop (ab_np y0)) := by
            rw [List.map_reverse, List.reverse_reverse]
            conv => lhs; rw [← List.take_append_drop (ab_np y0) S]
            unfold so_S
            rw [List.map_append]
          have hlen : (((S.take (ab_np y0)).reverse).map (so_v (so_fa n0 b0 sa))).length = ab_np y0 := by rw [List.length_map, List.length_reverse]; exact b1
          have hnp := so_np w2
          have hpre : PreS s H (so_Pc D tA (so_fa n0 b0 sa) HL XL xs St ((S.take (ab_np y0)).reverse) h) (((S.take (ab_np y0)).reverse).map (so_v (so_fa n0 b0 sa))) := ⟨hbl, hPc⟩
          have hGS : ∀ w1' : Cond.methodLink (ta_nm (ab_c y)) k (ta_me y0).1 ∈ lw_tbl, GoodIn so_T (va_wsS (ta_nm (ab_c y)) k (ta_me y0).1 (so_w y0)) := fun w1' => so_goodIn (fun w hw => by
            unfold va_wsS at hw
            rcases List.mem_append.mp hw with hw | hw
            · simp only [List.mem_cons, List.not_mem_nil, or_false] at hw
              rcases hw with rfl | rfl | rfl
              · exact ⟨w1', rfl⟩
              · exact ⟨hw2, rfl⟩
              · exact ⟨hini, rfl⟩
            · exact so_wIn w2 w hw)
          rcases hkd with rfl | rfl | rfl
          · have hh := w7 (by omega)
            have hcode : so_w y0 = Cond.code (ta_me y0).1 (ta_me y0).2.1 (ta_me y0).2.2.1 (ta_me y0).2.2.2.1 :: so_T := by unfold so_w ta_wM; rw [if_pos hh]
            refine fin (vx_runS (n := ab_np y0) ⟨C1, C2, C3, C6, C8⟩ hM1 (va_cwS (ab_np y0) C8 (hGS w1) hcode rfl rfl ⟨g3, g4, hnp⟩ ⟨?_, ?_⟩) hpre rfl hlen hl.1 hst (by rw [hW8]; exact b2) hd hf)
            · show d' + 6 + 1 ≤ R.frames; omega
            · show 8 + ((ta_me y0).2.2.1 + 11) + 100 * (d' + 1) ≤ R.locals; omega
          · have hh := w7 (by omega)
            have hcode : so_w y0 = Cond.code (ta_me y0).1 (ta_me y0).2.1 (ta_me y0).2.2.1 (ta_me y0).2.2.2.1 :: so_T := by unfold so_w ta_wM; rw [if_pos hh]
            have w1' : Cond.methodLinkNest (ta_nm (ab_c y)) k (ta_me y0).1 "SkyTailor" ∈ lw_tbl := w1
            have hM2 := so_noX hM1 (hnoX (by rw [← hpl]; rfl))
            refine fin (so_toX (va_runSN (n := ab_np y0) ⟨C1, C2, C3, C6, C8⟩ hM2 ⟨va_cnB (ab_np y0) C8 (so_goodIn (so_wIn w2)) hcode rfl rfl (C9.2.1 _ w1' rfl) (so_word C8 hini rfl) ⟨g3, g4, hnp⟩ ⟨?_, ?_⟩, so_word C8 hw2 rfl, trivial⟩ hpre rfl hlen hl.1 hst (by rw [hW8]; exact b2) hd hf))
            · show d' + 6 + 1 ≤ R.frames; omega
            · show 8 + ((ta_me y0).2.2.1 + 11) + 100 * (d' + 1) ≤ R.locals; omega
          · have hh := w6 rfl
            have hcode : so_w y0 = Cond.codeWith (ta_me y0).1 (ta_me y0).2.1 (ta_me y0).2.2.1 (ta_me y0).2.2.2.1 (ta_me y0).2.2.2.2.2 :: so_T := by unfold so_w ta_wM; rw [if_neg hh]
            refine fin (vx_runSX (n := ab_np y0) ⟨C1, C2, C3, C6, C8⟩ hM1 (vx_cwSW (ab_np y0) C8 (hGS w1) hcode rfl rfl ⟨g3, g4, hnp⟩ ⟨?_, ?_⟩) hpre rfl hlen hl.1 hst (by rw [hW8]; exact b2) hd hf)
            · show d' + 6 + 1 ≤ R.frames; omega
            · show 8 + ((ta_me y0).2.2.1 + 11) + 100 * (d' + 1) ≤ R.locals; omega
        · cases hcall
      · cases hcall
    · cases hcall
  · cases hcall
end SOUND

