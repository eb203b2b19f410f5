section SOUND
variable {p : Program} {l : Launch} {e : Env} {R : Room} {s : State} {m : MethodId} {args : Array Value} {below : List Frame} {meth : Method} {c : Code} {Q : State → Prop}
variable {D : va_G} {tA : Nat → ClassId} {n0 b0 : Nat} {sa : Nat → Nat} {HL : Heap} {XL : Nat} {xs : Nat → Int32} {St : State → Prop} {y : Nat} {c0 z0 : Nat}
variable {pc len : Nat} {L : ab_L} {S r : ab_S} {h : ab_H}

theorem so_ws_new {fa : Nat → Nat} {t n z : Nat} {p : Nat → Option Nat} : so_ws fa tA (ab_new h t n z p) = so_ws fa tA h ++ [(fa (ab_N h), so_ent fa tA (ab_new h t n z p) (ab_N h))] := by
  have hN : ab_N (ab_new h t n z p) = ab_N h + 1 := rfl
  unfold so_ws
  rw [hN, List.range_succ, List.map_append]
  congr 1
  apply List.map_congr_left
  intro b hb
  have hb2 : b < ab_N h := List.mem_range.mp hb
  have hne : b ≠ ab_N h := by omega
  have eK : ab_K (ab_new h t n z p) b = ab_K h b := if_neg hne
  have eP : ab_P (ab_new h t n z p) b = ab_P h b := if_neg hne
  have e2 : so_fv fa (ab_new h t n z p) b = so_fv fa h b := by
    funext t' k
    unfold so_fv
    rw [eP]
    rfl
  unfold so_ent
  rw [eK, eP, e2]
  rfl
theorem so_newC {t n z : Nat} {p : Nat → Option Nat} : ab_C (ab_new h t n z p) = ab_C h + 1 := rfl
theorem so_newZ {t n z : Nat} {p : Nat → Option Nat} : ab_Z (ab_new h t n z p) = ab_Z h + z := rfl
theorem so_newN {t n z : Nat} {p : Nat → Option Nat} : ab_N (ab_new h t n z p) = ab_N h + 1 := rfl
theorem so_newK {t n z : Nat} {p : Nat → Option Nat} : ab_K (ab_new h t n z p) (ab_N h) = (t, n) := if_pos rfl
theorem so_newP {t n z : Nat} {p : Nat → Option Nat} : ab_P (ab_new h t n z p) (ab_N h) = p := if_pos rfl
theorem so_newI {t n z : Nat} {p : Nat → Option Nat} : ab_I (ab_new h t n z p) = ab_I h := rfl
theorem so_newG {t n z : Nat} {p : Nat → Option Nat} : ab_G (ab_new h t n z p) = ab_G h := rfl
theorem so_faN (hN : ab_N h < 900000) : so_fa n0 b0 sa (ab_N h) = n0 + ab_N h := by
  have h1 : ab_N h < ab_scr := by unfold ab_scr; omega
  exact if_pos h1
/-- before the first exception the cells lie one behind the other: the heap's end is known -/
theorem so_end {T : State} {locs : List Loc} {cells slots : Nat} {H : Heap} (hT : T.heap = H) (X : Stand p l e R s m args below meth c T locs cells slots) (hR : so_R D tA (so_fa n0 b0 sa) HL h H locs) (hn : n0 = HL.size) (h0 : s.heap.size ≤ HL.size + c0) (hc : cells + c0 = ab_C h) (hCN : ab_C h = ab_N h) : H.size = HL.size + ab_N h := by
  have h1 := X.heapSize
  rw [hT] at h1
  have h2 : HL.size + ab_N h ≤ H.size := by
    cases hN : ab_N h with
    | zero => exact hR.2.1.1
    | succ k =>
      have h3 := (hR.1 k _ (so_ws_at (by omega))).lt
      have h4 : so_fa n0 b0 sa k = n0 + k := by
        unfold so_fa ab_scr
        have := hR.2.2.2.1
        rw [if_pos (by omega)]
      dsimp only at h3
      rw [h4] at h3
      omega
  omega
theorem so_R_new {locs : List Loc} {H H1 : Heap} {t n z : Nat} {p : Nat → Option Nat} (hR : so_R D tA (so_fa n0 b0 sa) HL h H locs) (hn : n0 = HL.size) (hN : ab_N h < 900000) (hsz : H.size = HL.size + ab_N h) (z1 : H1.size = H.size + 1) (o1 : ∀ q, q < H.size → H1[q]? = H[q]?)
    (hat : va_at D ta_cl (H.size, so_ent (so_fa n0 b0 sa) tA (ab_new h t n z p) (ab_N h)) H1) : so_R D tA (so_fa n0 b0 sa) HL (ab_new h t n z p) H1 locs := by
  obtain ⟨R1, R2, R3, R4, R5⟩ := hR
  have hfa : so_fa n0 b0 sa (ab_N h) = H.size := by
    rw [so_faN hN, hsz, hn]
  have hN1 : ab_N (ab_new h t n z p) = ab_N h + 1 := so_newN
  have hC1 : ab_C (ab_new h t n z p) = ab_C h + 1 := so_newC
  refine ⟨?_, ⟨Nat.le_trans R2.1 (by omega), fun q h1 h2 => (o1 q (Nat.lt_of_lt_of_le h1 R2.1)).trans (R2.2.1 q h1 h2), R2.2.2⟩, by omega, by omega, fun a ha => R5 a (by omega)⟩
  rw [so_ws_new, hfa]
  refine (R1.kept (fun k q hk => o1 q.1 ((R1 k q hk).lt))).app (fun k q hk => ?_)
  have hz : k < 1 := (List.getElem?_eq_some_iff.mp hk).1
  rw [show k = 0 by omega] at hk
  cases hk
  exact hat
theorem so_lkN {c k ci : Nat} (h : ab_lkN c k = some ci) : Cond.classLink (ta_nm c) k (ta_nm ci) ∈ lw_tbl := by
  obtain ⟨e, he, he2⟩ := Option.map_eq_some_iff.mp h
  obtain ⟨hm, hq2⟩ := so_find he
  rw [Bool.and_eq_true, beq_iff_eq, beq_iff_eq] at hq2
  have hw := ta_wkm ta_LN_ok e hm
  rw [hq2.1, hq2.2, he2] at hw
  exact hw
theorem ta_Q6_all : (List.range 13).all (fun ci => ta_Q6.any (fun e => e.2 == ci)) = true := by decide +kernel
theorem ta_Q4_all : (List.range 14).all (fun ci => ta_Q4.any (fun e => e.2 == ci)) = true := by decide +kernel
theorem so_init {ci : Nat} (h : ci < 14) : Cond.initialized (ta_nm ci) ∈ lw_tbl := by
  obtain ⟨e, he, h3⟩ := List.any_eq_true.mp (List.all_eq_true.mp ta_Q4_all ci (List.mem_range.mpr h))
  have h4 := ta_wkm ta_Q4_ok e he
  rw [beq_iff_eq] at h3
  rw [h3] at h4
  exact h4
theorem so_inst {ci : Nat} {q : vw_C} (hq : ta_cl[ci]? = some q) (h : ci < 13) : Cond.instantiable q.1 q.2.2 ∈ lw_tbl := by
  obtain ⟨e, he, h3⟩ := List.any_eq_true.mp (List.all_eq_true.mp ta_Q6_all ci (List.mem_range.mpr h))
  have h4 := ta_wkm ta_Q6_ok e he
  rw [beq_iff_eq] at h3
  rw [h3] at h4
  dsimp only at h4
  rw [hq] at h4
  exact h4
end SOUND

